/-! .. until they end -/
section MSL
variable {ad : List Nat} {p : Program} {l : Launch} {e : Env} {R : Room} {s : State} {m : MethodId} {args : Array Value} {below : List Frame} {meth : Method} {c : Code} {D : va_G} {tys : ai_ty} {A : Nat → Prop} {b L : Nat} {sx : Nat → Int32} {cells slots : Nat} {Q : State → Prop}
theorem ms_back {j : Nat} (hj : j < 2) (C : ai_cx tb_m104 5 p R s m args c D tys A b L sx cells slots) {ws : va_W} {lv : List (Nat × Value)} (k : hG tb_m104 p l e R s m args below meth c D A cells slots Q (ms_pc j) lv [] ws) : hG tb_m104 p l e R s m args below meth c D A cells slots Q (ms_go j) lv [] ws := by
  intro H locs ls hP hD hS hl
  have kk := k H locs ls hP hD hS hl
  match j, hj with
  | 0, _ => exact lv_goto (tgt := 8) C.1 C.2.1 (tv_m104.1.1.1 (31, .goto (-23), 3) (List.mem_of_getElem? (i := 16) rfl)) (by decide) kk
  | 1, _ => exact lv_goto (tgt := 84) C.1 C.2.1 (tv_m104.1.1.1 (115, .goto (-31), 3) (List.mem_of_getElem? (i := 57) rfl)) (by decide) kk
  | j + 2, hj => exact absurd hj (by omega)
theorem ms_loop {j : Nat} (hj : j < 2) (C : ai_cx tb_m104 5 p R s m args c D tys A b L sx cells slots) {zn : Int32} {g : Nat → Int} :
    ∀ (N : Nat) (ws : va_W) (zc : Int32) (lv : List (Nat × Value)), (160 - zc.toInt).toNat < N → ai_wd tb_TY ad tys ws → ai_sl ws 49 7 (.int zn) → ai_sl ws 49 11 (.int zc) → (∀ i, i < 160 → fx_o ws 52 i = some (g i)) → ai_lo ad b [0] ms_lo lv →
    (∀ (ws' : va_W) (lv' : List (Nat × Value)) (ze : Int32), ai_wd tb_TY ad tys ws' → ai_fr ms_WR ws ws' → ai_sl ws' 49 11 (.int ze) → ai_lo ad b [0] ms_lo lv' → ze.toInt.toNat = tp_skip g zn.toInt.toNat (fx_lo j) (fx_hi j) zc.toInt.toNat → hG tb_m104 p l e R s m args below meth c D A cells slots Q (ms_ex j) lv' [] ws') → hG tb_m104 p l e R s m args below meth c D A cells slots Q (ms_pc j) lv [] ws := by
  intro N
  induction N with
  | zero => exact fun ws zc lv h => absurd h (Nat.not_lt_zero _)
  | succ N ih =>
    intro ws zc lv hN hw hn hc hg hlv k
    obtain ⟨n0, n1⟩ := f49 (i := 7) hw hn rfl
    obtain ⟨c0, c1⟩ := f49 (i := 11) hw hc rfl
    refine ms_step hj C hw hn hc hg hlv (fun ws' lv' hw' hf hc' hlo ho => ?_) (fun ws' lv' zc' hw' hf hc' e1 hlt a1 a2 hlv' => ?_)
    · refine k ws' lv' zc hw' hf hc' hlo ?_
      rw [tp_skip_out]
      omega
    · refine ms_back hj C (ih ws' zc' lv' (by omega) hw' (hf 49 7 _ (by decide) hn) hc' (fun i hi => fr_fx hw' (k := 52) rfl hf (by unfold ai_wr ms_WR; simp) (hg i hi)) hlv' (fun ws2 lv2 ze hw2 hf2 h7 hlo e3 => ?_))
      refine k ws2 lv2 ze hw2 (hf.tr hf2) h7 hlo ?_
      rw [e3, tp_skip_in (p := zc.toInt.toNat) (by omega) a1 a2, show zc'.toInt.toNat = zc.toInt.toNat + 1 by omega]
end MSL
