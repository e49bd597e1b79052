def ev_e (n : Nat) : List ai_e := [(0, 0, false, 0, 0), (0, 2555, false, 1, 0)] ++ (List.range n).map fun k => (-2147483648, 2147483647, false, k + 2, 0)
def ev_s (c n : Nat) : ai_s := (0, (0, (0, c, 0, 0)) :: (List.range n).map (fun k => (k + 1, (1, k + 2, 0, 0))), [], ev_e n, [], [])
theorem t_hrule : (ai_ex tb_K 1500 50 11 [] (ev_s 0 1)).isSome = true := by decide +kernel
theorem t_hpull : (ai_ex tb_K 1500 60 11 [] (ev_s 0 1)).isSome = true := by decide +kernel
theorem t_hruns : (ai_ex tb_K 1500 62 11 [] (ev_s 0 1)).isSome = true := by decide +kernel
theorem t_mruns : (ai_ex tb_K 1500 137 11 [] (ev_s 49 1)).isSome = true := by decide +kernel
theorem t_hbest : (ai_ex tb_K 1500 67 11 [] (ev_s 0 2)).isSome = true := by decide +kernel
theorem t_mkeep : (ai_ex tb_K 1500 162 11 [] (ev_s 49 1)).isSome = true := by decide +kernel
