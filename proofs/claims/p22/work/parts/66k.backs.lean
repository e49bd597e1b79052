/-! keep, back, in the law -/
section KBL
variable {ad : List Nat} {p : Program} {l : Launch} {e : Env} {R : Room} {s : State} {m : MethodId} {args : Array Value} {below : List Frame} {meth : Method} {c : Code} {D : va_G} {tys : ai_ty} {A : Nat → Prop} {b L : Nat} {sx : Nat → Int32} {cells slots : Nat} {Q : State → Prop}
def cb_P (ad : List Nat) (tys : ai_ty) (k v : Nat) (ws ws' : va_W) (z' : Int32) : Prop := ai_wd tb_TY ad tys ws' ∧ (v = 0 → ai_fr [] ws ws' ∧ z'.toInt = -2) ∧ (v = 1 → ai_fr (bc_W 1) ws ws' ∧ bcV (13 + 6 * k) 1 ws ws' ∧ ∀ z, vi ws' 1 2 z → z'.toInt = z)
theorem cb_all {a a1 aI k v : Nat} {z : Int32} {ws : va_W} (hk : k < 2) (hv : v < 2) (hz : z.toInt = k) (C : ai_cx tb_m87 10 p R s m args c D tys A b L sx cells slots) (hw : ai_wd tb_TY ad tys ws) (ha : ad[0]? = some a) (ha1 : ad[1]? = some a1) (haI : ad[13 + 6 * k]? = some aI) (h25 : vi ws 25 k v)
    (kk : ∀ (pcr : Nat) (ws' : va_W) (z' : Int32) (lv' : List (Nat × Value)), pcr ∈ [10, 22, 42] → cb_P ad tys k v ws ws' z' → hG tb_m87 p l e R s m args below meth c D A cells slots Q pcr lv' [.int z'] ws') : hG tb_m87 p l e R s m args below meth c D A cells slots Q 0 [(0, .ref a), (1, .int z)] [] ws := by
  obtain rfl | rfl : v = 0 ∨ v = 1 := by omega
  · refine hsum (st := (0, kb_lo 0 k, [], kb_e, [(25, k, (1, 0, 0, 0))], [])) (kb_at (v := 0) cb_0 hk (by decide)) rfl C ⟨kb_ok, sb0, kb_l2 ha hz, trivial, hw, kc (h25.kn (n := 0) (t := 0) rfl (by omega)) k0, fun _ _ _ _ h => h, fun h => by cases h⟩ (fun x hx r' lv' sk' ws1 hx' hb hl hs hlo hsk hw1 hv' hf1 _ => ?_)
    have hx4 := List.mem_singleton.mp hx
    subst hx4
    obtain ⟨zz, rfl, hzz⟩ := sk1 rfl hsk
    unfold vn at hzz
    rw [nm_x hx' (k := 0) rfl] at hzz
    dsimp only at hzz
    exact kk 22 ws1 zz lv' (by decide) ⟨hw1, fun _ => ⟨hf1, by omega⟩, fun h => absurd h (by decide)⟩
  · refine hsum (st := (0, kb_lo 0 k, [], kb_e, [(25, k, (1, 0, 0, 1))], [])) (kb_at (v := 0) cb_1 hk (by decide)) rfl C ⟨kb_ok, sb0, kb_l2 ha hz, trivial, hw, kc (h25.kn (n := 0) (t := 0) rfl (by omega)) k0, fun _ _ _ _ h => h, fun h => by cases h⟩ (fun x hx r' lv' sk' ws1 hx' hb hl hs hlo hsk hw1 hv' hf1 _ => ?_)
    rw [List.mem_singleton.mp hx] at hlo hsk ⊢
    obtain ⟨lv1, rfl, pz1⟩ := lo_ref ha hlo
    obtain ⟨y1, lv2, rfl, d1, pz2⟩ := lo_int rfl pz1
    cases lo_nil pz2
    unfold vn at d1
    rw [nm_x hx' (k := 0) rfl] at d1
    dsimp only at d1
    obtain ⟨x1, s1, rfl, e1, g4⟩ := hsk.cons
    obtain ⟨x2, s2, rfl, e2, g5⟩ := g4.cons
    cases g5.nil
    have f1 := ref_of haI e1
    have f2 := ref_of ha1 e2
    subst f1 f2
    refine hcallV (q := (84, 0, 1, 1, 0)) (M' := tb_m1) (cl := 1) (a := a1) (As := [.ref aI]) (rest := []) (rets := [103]) (P := bc_P ad tys (13 + 6 * k) 1 ws1) C (by decide) (tv_m87.1.1.1 (32, .invokevirtual 84, 3) (List.mem_of_getElem? (i := 19) rfl)) (tv_m87.2 _ (List.mem_of_getElem? (i := 3) rfl)) rfl rfl rfl rfl (by decide) (Nat.le_of_ble_eq_true rfl) rfl rfl rfl rfl hw1 ha1 (by decide) ?_ ?_ ?_
    · intro pcr hp
      rw [List.mem_singleton.mp hp]
      exact tv_m1.1.1.1 (103, .return_, 1) (List.mem_of_getElem? (i := 56) rfl)
    · intro p2 e2 R2 s2 m2 args2 below2 meth2 c2 Q2 C2 kk2
      exact bc_all (kb_bc hk).2.1 (kb_bc hk).2.2 (mm_cx (by decide) C2) hw1 ha1 haI (fun pcr w lv2 hp hP => kk2 pcr w lv2 hp hP)
    · intro ws2 hbc
      obtain ⟨zl, hzl, bl⟩ := vi_ex hbc.1 (k := 1) (i := 2) rfl rfl
      refine hsum (st := (35, kb_lo 0 k, [], kb_e ++ [(-2147483648, 2147483647, false, 2, 0)], [(1, 2, (1, 2, 0, 0))], [])) (kb_at (v := 0) cb_2 hk (by decide)) rfl C (r := [0, 0, zl]) (lv := [(0, .ref a), (1, .int y1)]) ⟨en_mk (by simp only [kb_e, List.cons_append, List.nil_append, en_b, and_true]; omega) rfl, sb0, ?_, trivial, hbc.1, kc (hzl.kn (n := 2) (t := zl) rfl (by omega)) k0, fun _ _ _ _ h => h, fun h => by cases h⟩ (fun x hx r2 lv4 sk4 ws3 hx2 hb2 hl2 hs2 hlo2 hsk2 hw3 hv3 hf3 _ => ?_)
      · exact ⟨rfl, Or.inl ⟨rfl, a, ha, rfl⟩, rfl, int_dv (z := 0) rfl (by omega), trivial⟩
      · have hx4 := List.mem_singleton.mp hx
        subst hx4
        obtain ⟨zz, rfl, hzz⟩ := sk1 rfl hsk2
        unfold vn at hzz
        rw [nm_x hx2 (k := 2) rfl] at hzz
        dsimp only at hzz
        refine kk 42 ws3 zz lv4 (by decide) ⟨hw3, fun h => absurd h (by decide), fun _ => ⟨((wsub_ok (V := []) rfl hf1).tr hbc.2.1).tr (wsub_ok (V := []) rfl hf3), ⟨fun j z hj hz => (hbc.2.2.1 j z hj (hz.fr hf1 rfl)).fr hf3 rfl, fun q j z hq hj hz => (hbc.2.2.2.1 q j z hq hj (hz.fr hf1 rfl)).fr hf3 rfl, fun j z hj hz => (hbc.2.2.2.2 j z hj (hz.fr hf1 rfl)).fr hf3 rfl⟩, fun z hz2 => ?_⟩⟩
        have := (hzl.fr hf3 rfl).fun hz2
        omega
def mb_P (ad : List Nat) (tys : ai_ty) (k v : Nat) (ws ws' : va_W) (z' : Int32) : Prop := ai_wd tb_TY ad tys ws' ∧ (v = 0 → ai_fr [] ws ws' ∧ z'.toInt = -2) ∧ (v = 1 → ai_fr [(50, 0, 27)] ws ws' ∧ csV (27 + 27 * k) 0 ws ws' ∧ ∀ z, vi ws' 50 17 z → z'.toInt = z)
theorem mb_all {a k v : Nat} {z : Int32} {ws : va_W} (hk : k < 2) (hv : v < 2) (hz : z.toInt = k) (C : ai_cx tb_m163 10 p R s m args c D tys A b L sx cells slots) (hw : ai_wd tb_TY ad tys ws) (ha : ad[49]? = some a) (h56 : vi ws 56 k v)
    (kk : ∀ (pcr : Nat) (ws' : va_W) (z' : Int32) (lv' : List (Nat × Value)), pcr ∈ [11, 23, 42] → mb_P ad tys k v ws ws' z' → hG tb_m163 p l e R s m args below meth c D A cells slots Q pcr lv' [.int z'] ws') : hG tb_m163 p l e R s m args below meth c D A cells slots Q 0 [(0, .ref a), (1, .int z)] [] ws := by
  obtain rfl | rfl : v = 0 ∨ v = 1 := by omega
  · refine hsum (st := (0, kb_lo 49 k, [], kb_e, [(56, k, (1, 0, 0, 0))], [])) (kb_at (v := 0) mb_0 hk (by decide)) rfl C ⟨kb_ok, sb0, kb_l2 ha hz, trivial, hw, kc (h56.kn (n := 0) (t := 0) rfl (by omega)) k0, fun _ _ _ _ h => h, fun h => by cases h⟩ (fun x hx r' lv' sk' ws1 hx' hb hl hs hlo hsk hw1 hv' hf1 _ => ?_)
    have hx4 := List.mem_singleton.mp hx
    subst hx4
    obtain ⟨zz, rfl, hzz⟩ := sk1 rfl hsk
    unfold vn at hzz
    rw [nm_x hx' (k := 0) rfl] at hzz
    dsimp only at hzz
    exact kk 23 ws1 zz lv' (by decide) ⟨hw1, fun _ => ⟨hf1, by omega⟩, fun h => absurd h (by decide)⟩
  · refine hsum (st := (0, kb_lo 49 k, [], kb_e, [(56, k, (1, 0, 0, 1))], [])) (kb_at (v := 0) mb_1 hk (by decide)) rfl C ⟨kb_ok, sb0, kb_l2 ha hz, trivial, hw, kc (h56.kn (n := 0) (t := 0) rfl (by omega)) k0, fun _ _ _ _ h => h, fun h => by cases h⟩ (fun x hx r' lv' sk' ws1 hx' hb hl hs hlo hsk hw1 hv' hf1 _ => ?_)
    rw [List.mem_singleton.mp hx] at hlo hsk ⊢
    obtain ⟨lv1, rfl, pz1⟩ := lo_ref ha hlo
    obtain ⟨y1, lv2, rfl, d1, pz2⟩ := lo_int rfl pz1
    cases lo_nil pz2
    unfold vn at d1
    rw [nm_x hx' (k := 0) rfl] at d1
    dsimp only at d1
    obtain ⟨x1, s1, rfl, e1, g4⟩ := hsk.cons
    obtain ⟨x2, s2, rfl, e2, g5⟩ := g4.cons
    obtain ⟨x3, s3, rfl, e3, g6⟩ := g5.cons
    cases g6.nil
    obtain ⟨zto, rfl, hzto⟩ := dvn e1 (hx'.at (k := 0) rfl)
    obtain ⟨zfr, rfl, hzfr⟩ := dvn e2 (hx'.at (k := 0) rfl)
    have f3 := ref_of ha e3
    subst f3
    refine hcallV (q := (174, 0, 134, 2, 6)) (M' := tb_m134) (cl := 49) (a := a) (As := [.int zfr, .int zto]) (rest := []) (rets := [30]) (P := cs_P ad tys (27 + 27 * k) 0 ws1) C (by decide) (tv_m163.1.1.1 (32, .invokevirtual 174, 3) (List.mem_of_getElem? (i := 22) rfl)) (tv_m163.2 _ (List.mem_of_getElem? (i := 21) rfl)) rfl rfl rfl rfl (by decide) (Nat.le_of_ble_eq_true rfl) rfl rfl rfl rfl hw1 ha (by decide) ?_ ?_ ?_
    · intro pcr hp
      rw [List.mem_singleton.mp hp]
      exact tv_m134.1.1.1 (30, .return_, 1) (List.mem_of_getElem? (i := 19) rfl)
    · intro p2 e2 R2 s2 m2 args2 below2 meth2 c2 Q2 C2 kk2
      exact cs_all (kb_cs hk).2.1 (kb_cs hk).2.2.2 (by omega) (mm_cx (by decide) C2) hw1 ha (by omega) (by omega) (fun pcr w lv2 hp hP => kk2 pcr w lv2 hp hP)
    · intro ws2 hcs
      obtain ⟨K, hK⟩ := vi_rowsP (k := 50) hcs.1 rfl
      have bl : -2147483648 ≤ K 17 ∧ K 17 ≤ 2147483647 := (hK 17 (by decide)).2 _ rfl
      refine hsum (st := (35, kb_lo 49 k, [], kb_e ++ [(-2147483648, 2147483647, false, 2, 0)], [(50, 17, (1, 2, 0, 0))], [])) (kb_at (v := 0) mb_2 hk (by decide)) rfl C (r := [0, 0, K 17]) (lv := [(0, .ref a), (1, .int y1)]) ⟨en_mk (by simp only [kb_e, List.cons_append, List.nil_append, en_b, and_true]; omega) rfl, sb0, ⟨rfl, Or.inl ⟨rfl, a, ha, rfl⟩, rfl, int_dv (z := 0) rfl (by omega), trivial⟩, trivial, hcs.1, kc ((hK 17 (by decide)).1.kn (n := 2) (t := K 17) rfl (by omega)) k0, fun _ _ _ _ h => h, fun h => by cases h⟩ (fun x hx r2 lv4 sk4 ws3 hx2 hb2 hl2 hs2 hlo2 hsk2 hw3 hv3 hf3 _ => ?_)
      have hx4 := List.mem_singleton.mp hx
      subst hx4
      obtain ⟨zz, rfl, hzz⟩ := sk1 rfl hsk2
      unfold vn at hzz
      rw [nm_x hx2 (k := 2) rfl] at hzz
      dsimp only at hzz
      refine kk 42 ws3 zz lv4 (by decide) ⟨hw3, fun h => absurd h (by decide), fun _ => ⟨((wsub_ok (V := []) rfl hf1).tr hcs.2.1).tr (wsub_ok (V := []) rfl hf3), fun j z hj hz => (hcs.2.2 j z hj (hz.fr hf1 rfl)).fr hf3 rfl, fun z hz2 => ?_⟩⟩
      have := ((hK 17 (by decide)).1.fr hf3 rfl).fun hz2
      omega
end KBL
