/-! bySlips of the reference -/
theorem shl_b : ∀ n, n < 9 → ((1 : Int32) <<< (Int32.ofNat n &&& 31)).toInt = ((2 ^ n : Nat) : Int) := by decide +kernel
theorem bit_b : ∀ q, q < 256 → ∀ i, i < 8 → ((Int32.ofNat q >>> (Int32.ofNat i &&& 31)) &&& 1).toInt = ((q / 2 ^ i % 2 : Nat) : Int) := by decide +kernel
theorem pow_8 : ∀ n, n < 9 → 2 ^ n ≤ 256 := by decide
theorem wv_b {k v : Int} {Z : Nat} {f : Nat → Int} {B : Int} (hv : 0 ≤ v ∧ v ≤ 10) (hf : ∀ m, 0 ≤ f m ∧ f m ≤ B) : ∀ (i m : Nat) (p s : Int), 0 ≤ wv k v Z f i m p s ∧ wv k v Z f i m p s ≤ tenP i * B
  | 0, m, p, s => by
    rw [show tenP 0 * B = B from Int.one_mul B]
    exact hf m
  | i + 1, m, p, s => by
    have e : tenP (i + 1) * B = 10 * (tenP i * B) := by
      show 10 * tenP i * B = _
      exact Int.mul_assoc _ _ _
    by_cases h : m < Z ∧ 1 ≤ s
    · rw [wv_y h, e]
      have h1 := wv_b (k := k) (v := v) (Z := Z) hv hf i m (min 99 (p + 1)) (s - 1)
      have h2 := wv_b (k := k) (v := v) (Z := Z) hv hf i (min Z (m + (yl k s p).toNat)) (min 99 (p + 1)) (s - 1)
      generalize wv k v Z f i m (min 99 (p + 1)) (s - 1) = X at h1 ⊢
      generalize wv k v Z f i (min Z (m + (yl k s p).toNat)) (min 99 (p + 1)) (s - 1) = Y at h2 ⊢
      generalize tenP i * B = T at h1 h2 ⊢
      have a1 : 0 ≤ v * X := Int.mul_nonneg hv.1 h1.1
      have a2 : 0 ≤ (10 - v) * Y := Int.mul_nonneg (by omega) h2.1
      have a3 : v * X ≤ v * T := Int.mul_le_mul_of_nonneg_left h1.2 hv.1
      have a4 : (10 - v) * Y ≤ (10 - v) * T := Int.mul_le_mul_of_nonneg_left h2.2 (by omega)
      have a5 : v * T + (10 - v) * T = 10 * T := by
        rw [← Int.add_mul, show v + (10 - v) = 10 by omega]
      omega
    · rw [wv_n h, e]
      have h1 := wv_b (k := k) (v := v) (Z := Z) hv hf i m p s
      omega
/-- what is asked: how much is moved, or whether it is won -/
def slF (Z : Nat) (mean : Int) (m : Nat) : Int := if mean = 1 then (m : Int) else if m = Z then 1 else 0
theorem sr_n {t : Nat} {j : Nat} (h : j < 108 ∨ 135 ≤ j) : ai_wr [(50, 108, 135)] 50 j j = false := wr_no fun q hq => by
  rw [List.mem_singleton.mp hq]
  dsimp only
  omega
section HI8
variable {ad : List Nat} {M : ai_m} {d : Nat} {p : Program} {l : Launch} {e : Env} {R9 : Room} {s : State} {m : MethodId} {args : Array Value} {below : List Frame} {meth : Method} {c : Code} {D : va_G} {tys : ai_ty} {A9 : Nat → Prop} {b L : Nat} {sx : Nat → Int32} {cells slots : Nat} {Q : State → Prop}
theorem hiand8 {pc : Nat} {x y : Int32} {ws : va_W} {sk : List Value} {lv : List (Nat × Value)} (C : ai_cx M d p R9 s m args c D tys A9 b L sx cells slots) (hd : decode M.2.1 pc = .ok (.iand, 1)) (k : hG M p l e R9 s m args below meth c D A9 cells slots Q (pc + 1) lv (.int (x &&& y) :: sk) ws) : hG M p l e R9 s m args below meth c D A9 cells slots Q pc lv (.int y :: .int x :: sk) ws := by
  intro H locs ls hP hD hS hl
  exact lv_iand C.1 C.2.1 hd (k H locs ls hP hD hS hl)
end HI8
def sl_W : List (Nat × Nat × Nat) := [(50, 108, 135)]
theorem mk_nn {k v : Int} {Z : Nat} {f : Nat → Int} (hv : 0 ≤ v ∧ v ≤ 10) (hf : ∀ m, 0 ≤ f m) : ∀ (i q : Nat) (o : Int) (m : Nat) (p s : Int), 0 ≤ o → 0 ≤ mkF k v Z f i q o m p s
  | 0, q, o, m, p, s, ho => by
    show 0 ≤ o * f m
    exact Int.mul_nonneg ho (hf m)
  | i + 1, q, o, m, p, s, ho => by
    have h1 : 0 ≤ o * v := Int.mul_nonneg ho hv.1
    have h2 : 0 ≤ o * (10 - v) := Int.mul_nonneg ho (by omega)
    show 0 ≤ (if m < Z ∧ 1 ≤ s then (if q % 2 = 1 then mkF k v Z f i (q / 2) (o * v) m (min 99 (p + 1)) (s - 1) else mkF k v Z f i (q / 2) (o * (10 - v)) (min Z (m + (yl k s p).toNat)) (min 99 (p + 1)) (s - 1)) else (if q % 2 = 1 then mkF k v Z f i (q / 2) (o * v) m p s else mkF k v Z f i (q / 2) (o * (10 - v)) m p s))
    split
    · split
      · exact mk_nn hv hf i _ _ _ _ _ h1
      · exact mk_nn hv hf i _ _ _ _ _ h2
    · split
      · exact mk_nn hv hf i _ _ _ _ _ h1
      · exact mk_nn hv hf i _ _ _ _ _ h2
theorem mk_u {k v : Int} {Z : Nat} {f : Nat → Int} (hv : 0 ≤ v ∧ v ≤ 10) (hf : ∀ m, 0 ≤ f m) (hb : ∀ m, m ≤ Z → f m ≤ 99) : ∀ (i q : Nat) (o : Int) (m : Nat) (p s : Int), 0 ≤ o → m ≤ Z → mkF k v Z f i q o m p s ≤ o * (tenP i * 99)
  | 0, q, o, m, p, s, ho, hm => by
    rw [show tenP 0 * 99 = (99 : Int) by decide]
    show o * f m ≤ o * 99
    exact Int.mul_le_mul_of_nonneg_left (hb m hm) ho
  | i + 1, q, o, m, p, s, ho, hm => by
    have h1 : 0 ≤ o * v := Int.mul_nonneg ho hv.1
    have h2 : 0 ≤ o * (10 - v) := Int.mul_nonneg ho (by omega)
    have tp := tenP_pos i
    have e : o * (tenP (i + 1) * 99) = o * 10 * (tenP i * 99) := by
      show o * (10 * tenP i * 99) = _
      rw [Int.mul_assoc 10, ← Int.mul_assoc]
    have c1 : o * v * (tenP i * 99) ≤ o * 10 * (tenP i * 99) := Int.mul_le_mul_of_nonneg_right (Int.mul_le_mul_of_nonneg_left hv.2 ho) (by omega)
    have c2 : o * (10 - v) * (tenP i * 99) ≤ o * 10 * (tenP i * 99) := Int.mul_le_mul_of_nonneg_right (Int.mul_le_mul_of_nonneg_left (by omega) ho) (by omega)
    rw [e]
    show (if m < Z ∧ 1 ≤ s then (if q % 2 = 1 then mkF k v Z f i (q / 2) (o * v) m (min 99 (p + 1)) (s - 1) else mkF k v Z f i (q / 2) (o * (10 - v)) (min Z (m + (yl k s p).toNat)) (min 99 (p + 1)) (s - 1)) else (if q % 2 = 1 then mkF k v Z f i (q / 2) (o * v) m p s else mkF k v Z f i (q / 2) (o * (10 - v)) m p s)) ≤ _
    split
    · split
      · exact Int.le_trans (mk_u hv hf hb i _ _ _ _ _ h1 hm) c1
      · exact Int.le_trans (mk_u hv hf hb i _ _ _ _ _ h2 (Nat.min_le_left _ _)) c2
    · split
      · exact Int.le_trans (mk_u hv hf hb i _ _ _ _ _ h1 hm) c1
      · exact Int.le_trans (mk_u hv hf hb i _ _ _ _ _ h2 hm) c2
theorem sl_part {k v : Int} {Z n M0 : Nat} {f : Nat → Int} {PP SS : Int} (hv : 0 ≤ v ∧ v ≤ 10) (hn : n < 9) (hf : ∀ m, 0 ≤ f m) (hb : ∀ m, m ≤ Z → f m ≤ 99) (hM : M0 ≤ Z) : ∀ i, 0 ≤ sumN (fun q => mkF k v Z f n q 1 M0 PP SS) i ∧ sumN (fun q => mkF k v Z f n q 1 M0 PP SS) i ≤ 9900000000 * (i : Int)
  | 0 => ⟨Int.le_refl 0, by
    show (0 : Int) ≤ 9900000000 * ((0 : Nat) : Int)
    omega⟩
  | i + 1 => by
    have ih := sl_part (k := k) (v := v) (PP := PP) (SS := SS) hv hn hf hb hM i
    have h1 := mk_nn (k := k) (v := v) (Z := Z) hv hf n i 1 M0 PP SS (by omega)
    have h2 := mk_u (k := k) (v := v) (Z := Z) hv hf hb n i 1 M0 PP SS (by omega) hM
    rw [Int.one_mul] at h2
    have t8 := tenP_8 n (by omega)
    show 0 ≤ sumN (fun q => mkF k v Z f n q 1 M0 PP SS) i + mkF k v Z f n i 1 M0 PP SS ∧ sumN (fun q => mkF k v Z f n q 1 M0 PP SS) i + mkF k v Z f n i 1 M0 PP SS ≤ _
    omega
theorem po_off {ws ws' : va_W} {t : Nat} {k z mm pp s l : Int} (h : po_vi ws 0 t k z mm pp s l) (ht : t < 4) (hf : ai_fr sl_W ws ws') : po_vi ws' 0 t k z mm pp s l := by
  obtain ⟨a1, a2, a3, a4, a5, a6⟩ := h
  have n : ∀ j, j < 108 → ai_wr sl_W 50 j j = false := fun j hj => sr_n (t := t) (Or.inl hj)
  exact ⟨a1.fr hf (n _ (by omega)), a2.fr hf (n _ (by omega)), a3.fr hf (n _ (by omega)), a4.fr hf (n _ (by omega)), a5.fr hf (n _ (by omega)), a6.fr hf (n _ (by omega))⟩
theorem po_cp {ad : List Nat} {tys : ai_ty} {ws ws' : va_W} {t : Nat} {k z mm pp s l : Int} (ht : t < 4) (h : cs_P ad tys 0 108 ws ws') (hp : po_vi ws 0 t k z mm pp s l) : po_vi ws' 108 t k z mm pp s l := by
  obtain ⟨a1, a2, a3, a4, a5, a6⟩ := hp
  have cp : ∀ {j : Nat} {z : Int}, j < 27 → vi ws 50 (j + 0) z → vi ws' 50 (j + 108) z := fun {j z} hj hz => by
    have h1 := h.2.2 j z hj (by rw [Nat.add_comm]; exact hz)
    rw [Nat.add_comm] at h1
    exact h1
  exact ⟨cp (by omega) a1, cp (by omega) a2, cp (by omega) a3, cp (by omega) a4, cp (by omega) a5, cp (by omega) a6⟩
theorem sl_po {t : Nat} {u v : va_W} (ht : t < 4) (h : ai_fr [(50, 8 + t + 108, 9 + t + 108), (50, 12 + t + 108, 13 + t + 108), (50, 16 + 108, 18 + 108)] u v) : ai_fr sl_W u v := fr_sub (fun cc j h' q hq => by
  have h1 := h' (50, 108, 135) (by unfold sl_W; simp)
  dsimp only at h1
  simp only [List.mem_cons, List.not_mem_nil, or_false] at hq
  rcases hq with rfl | rfl | rfl <;> dsimp only <;> omega) h
def sl_x_S : List sm_t := [
  (123, [(0, (0, 49, 0, 0)), (1, (1, 2, 0, 0)), (2, (1, 3, 0, 0)), (3, (1, 6, 0, 0)), (4, (1, 4, 0, 0)), (5, (1, 5, 0, 0)), (6, (2, 7, 0, 0)), (8, (2, 8, 0, 0)), (10, (1, 9, 0, 0)), (11, (2, 10, 0, 0)), (13, (1, 11, 0, 0))], [], [], [(0, 0, false, 0, 0), (0, 2555, false, 1, 0), (0, 10, false, 2, 0), (0, 3, false, 3, 0), (0, 1, false, 4, 0), (0, 1, false, 5, 0), (0, 8, false, 6, 0), (-9223372036854775808, 9223372036854775807, false, 7, 0), (-9223372036854775808, 9223372036854775807, false, 8, 0), (0, 256, false, 9, 0), (-9223372036854775808, 9223372036854775807, false, 10, 0), (0, 8, false, 11, 0)], [(5, 11, 6, 11, 0), (5, 11, 6, 11, 0)])]
theorem sl_x : ((ai_ex (hk []) 300 151 tb_m151 9 [123] (55, [(0, (0, 49, 0, 0)), (1, (1, 2, 0, 0)), (2, (1, 3, 0, 0)), (3, (1, 6, 0, 0)), (4, (1, 4, 0, 0)), (5, (1, 5, 0, 0)), (6, (2, 7, 0, 0)), (8, (2, 8, 0, 0)), (10, (1, 9, 0, 0)), (11, (2, 10, 0, 0)), (13, (1, 11, 0, 0))], [(1, 11, 0, 0)], [(0, 0, false, 0, 0), (0, 2555, false, 1, 0), (0, 10, false, 2, 0), (0, 3, false, 3, 0), (0, 1, false, 4, 0), (0, 1, false, 5, 0), (0, 8, false, 6, 0), (-9223372036854775808, 9223372036854775807, false, 7, 0), (-9223372036854775808, 9223372036854775807, false, 8, 0), (0, 256, false, 9, 0), (-9223372036854775808, 9223372036854775807, false, 10, 0), (0, 8, false, 11, 0)], [], [(5, 11, 6, 11, 0)])).any fun xs => xs.all fun x => (sl_x_S : List sm_t).any fun y => sm_is [] x y) = true := by decide +kernel
def sl_a_S : List sm_t := [
  (63, [(0, (0, 49, 0, 0)), (1, (1, 2, 0, 0)), (2, (1, 3, 0, 0)), (3, (1, 6, 0, 0)), (4, (1, 4, 0, 0)), (5, (1, 5, 0, 0)), (6, (2, 7, 0, 0)), (8, (2, 8, 0, 0)), (10, (1, 9, 0, 0)), (11, (2, 10, 0, 0)), (13, (1, 11, 0, 0))], [(1, 11, 0, 0), (1, 9, 0, 0)], [], [(0, 0, false, 0, 0), (0, 2555, false, 1, 0), (0, 10, false, 2, 0), (0, 3, false, 3, 0), (0, 1, false, 4, 0), (0, 1, false, 5, 0), (1, 8, false, 6, 0), (-9223372036854775808, 9223372036854775807, false, 7, 0), (-9223372036854775808, 9223372036854775807, false, 8, 0), (0, 256, false, 9, 0), (-9223372036854775808, 9223372036854775807, false, 10, 0), (0, 7, false, 11, 0)], [(4, 11, 6, 11, 0), (4, 11, 6, 11, 0)])]
theorem sl_a : ((ai_ex (hk []) 300 151 tb_m151 9 [63] (55, [(0, (0, 49, 0, 0)), (1, (1, 2, 0, 0)), (2, (1, 3, 0, 0)), (3, (1, 6, 0, 0)), (4, (1, 4, 0, 0)), (5, (1, 5, 0, 0)), (6, (2, 7, 0, 0)), (8, (2, 8, 0, 0)), (10, (1, 9, 0, 0)), (11, (2, 10, 0, 0)), (13, (1, 11, 0, 0))], [(1, 11, 0, 0)], [(0, 0, false, 0, 0), (0, 2555, false, 1, 0), (0, 10, false, 2, 0), (0, 3, false, 3, 0), (0, 1, false, 4, 0), (0, 1, false, 5, 0), (0, 8, false, 6, 0), (-9223372036854775808, 9223372036854775807, false, 7, 0), (-9223372036854775808, 9223372036854775807, false, 8, 0), (0, 256, false, 9, 0), (-9223372036854775808, 9223372036854775807, false, 10, 0), (0, 8, false, 11, 0)], [], [(4, 11, 6, 11, 0)])).any fun xs => xs.all fun x => (sl_a_S : List sm_t).any fun y => sm_is [] x y) = true := by decide +kernel
theorem sl_b : ((ai_ex (hk []) 300 151 tb_m151 9 [65] (64, [(0, (0, 49, 0, 0)), (1, (1, 2, 0, 0)), (2, (1, 3, 0, 0)), (3, (1, 6, 0, 0)), (4, (1, 4, 0, 0)), (5, (1, 5, 0, 0)), (6, (2, 7, 0, 0)), (8, (2, 8, 0, 0)), (10, (1, 9, 0, 0)), (11, (2, 10, 0, 0)), (13, (1, 11, 0, 0))], [(1, 12, 0, 0)], [(0, 0, false, 0, 0), (0, 2555, false, 1, 0), (0, 10, false, 2, 0), (0, 3, false, 3, 0), (0, 1, false, 4, 0), (0, 1, false, 5, 0), (0, 8, false, 6, 0), (-9223372036854775808, 9223372036854775807, false, 7, 0), (-9223372036854775808, 9223372036854775807, false, 8, 0), (0, 256, false, 9, 0), (-9223372036854775808, 9223372036854775807, false, 10, 0), (0, 8, false, 11, 0), (-2147483648, 2147483647, false, 12, 0)], [], [])).any fun xs => xs.all fun x => ([(65, [(0, (0, 49, 0, 0)), (1, (1, 2, 0, 0)), (2, (1, 3, 0, 0)), (3, (1, 6, 0, 0)), (4, (1, 4, 0, 0)), (5, (1, 5, 0, 0)), (6, (2, 7, 0, 0)), (8, (2, 8, 0, 0)), (10, (1, 9, 0, 0)), (11, (2, 10, 0, 0)), (13, (1, 11, 0, 0))], [(1, 0, 0, 1), (1, 12, 0, 0)], [], [(0, 0, false, 0, 0), (0, 2555, false, 1, 0), (0, 10, false, 2, 0), (0, 3, false, 3, 0), (0, 1, false, 4, 0), (0, 1, false, 5, 0), (0, 8, false, 6, 0), (-9223372036854775808, 9223372036854775807, false, 7, 0), (-9223372036854775808, 9223372036854775807, false, 8, 0), (0, 256, false, 9, 0), (-9223372036854775808, 9223372036854775807, false, 10, 0), (0, 8, false, 11, 0), (-2147483648, 2147483647, false, 12, 0)], [])] : List sm_t).any fun y => sm_is [] x y) = true := by decide +kernel
def sl_c_S (t : Nat) : List sm_t := [
  (53, [(0, (0, 49, 0, 0)), (1, (1, 2, 0, 0)), (2, (1, 0, 0, (t : Int))), (3, (1, 6, 0, 0)), (4, (1, 4, 0, 0)), (5, (1, 5, 0, 0)), (6, (2, 7, 0, 0)), (8, (2, 8, 0, 0)), (10, (1, 9, 0, 0)), (11, (2, 15, 0, 0)), (13, (1, 11, 0, 1))], [], [], [(0, 0, false, 0, 0), (0, 2555, false, 1, 0), (0, 10, false, 2, 0), (0, 3, false, 3, 0), (0, 1, false, 4, 0), (0, 1, false, 5, 0), (0, 8, false, 6, 0), (-9223372036854775808, 9223372036854775807, false, 7, 0), (-9223372036854775808, 9223372036854775807, false, 8, 0), (0, 256, false, 9, 0), (-9223372036854775808, 9223372036854775807, false, 10, 0), (0, 7, false, 11, 0), (1, 99, false, 12, 0), (0, 99, false, 13, 0), (0, 0, false, 14, 0), (-9223372036854775808, 9223372036854775807, false, 15, 0), (0, 1, false, 16, 0)], [(140, 13, 12, 13, 0)]),
  (113, [(0, (0, 49, 0, 0)), (1, (1, 2, 0, 0)), (2, (1, 0, 0, (t : Int))), (3, (1, 6, 0, 0)), (4, (1, 4, 0, 0)), (5, (1, 5, 0, 0)), (6, (2, 7, 0, 0)), (8, (2, 8, 0, 0)), (10, (1, 9, 0, 0)), (11, (2, 15, 0, 0)), (13, (1, 11, 0, 0))], [(1, 16, 0, 0), (1, 0, 0, (t : Int)), (1, 0, 0, 108), (0, 49, 0, 0)], [], [(0, 0, false, 0, 0), (0, 2555, false, 1, 0), (0, 10, false, 2, 0), (0, 3, false, 3, 0), (0, 1, false, 4, 0), (0, 1, false, 5, 0), (0, 8, false, 6, 0), (-9223372036854775808, 9223372036854775807, false, 7, 0), (-9223372036854775808, 9223372036854775807, false, 8, 0), (0, 256, false, 9, 0), (-9223372036854775808, 9223372036854775807, false, 10, 0), (0, 7, false, 11, 0), (1, 99, false, 12, 0), (0, 99, false, 13, 0), (1, 20, false, 14, 0), (-9223372036854775808, 9223372036854775807, false, 15, 0), (0, 1, false, 16, 0)], [(140, 13, 12, 13, 0)]),
  (53, [(0, (0, 49, 0, 0)), (1, (1, 2, 0, 0)), (2, (1, 0, 0, (t : Int))), (3, (1, 6, 0, 0)), (4, (1, 4, 0, 0)), (5, (1, 5, 0, 0)), (6, (2, 7, 0, 0)), (8, (2, 8, 0, 0)), (10, (1, 9, 0, 0)), (11, (2, 15, 0, 0)), (13, (1, 11, 0, 1))], [], [], [(0, 0, false, 0, 0), (0, 2555, false, 1, 0), (0, 10, false, 2, 0), (0, 3, false, 3, 0), (0, 1, false, 4, 0), (0, 1, false, 5, 0), (0, 8, false, 6, 0), (-9223372036854775808, 9223372036854775807, false, 7, 0), (-9223372036854775808, 9223372036854775807, false, 8, 0), (0, 256, false, 9, 0), (-9223372036854775808, 9223372036854775807, false, 10, 0), (0, 7, false, 11, 0), (1, 99, false, 12, 0), (1, 99, false, 13, 0), (0, 20, false, 14, 0), (-9223372036854775808, 9223372036854775807, false, 15, 0), (0, 1, false, 16, 0)], [(4, 13, 12, 13, 1), (5, 13, 12, 13, 0)])]
theorem sl_c : ((List.range 4).all fun t => (ai_ex (hk []) 300 151 tb_m151 9 [53, 113] (95, [(0, (0, 49, 0, 0)), (1, (1, 2, 0, 0)), (2, (1, 0, 0, (t : Int))), (3, (1, 6, 0, 0)), (4, (1, 4, 0, 0)), (5, (1, 5, 0, 0)), (6, (2, 7, 0, 0)), (8, (2, 8, 0, 0)), (10, (1, 9, 0, 0)), (11, (2, 10, 0, 0)), (13, (1, 11, 0, 0)), (14, (1, 16, 0, 0))], [(2, 15, 0, 0)], [(0, 0, false, 0, 0), (0, 2555, false, 1, 0), (0, 10, false, 2, 0), (0, 3, false, 3, 0), (0, 1, false, 4, 0), (0, 1, false, 5, 0), (0, 8, false, 6, 0), (-9223372036854775808, 9223372036854775807, false, 7, 0), (-9223372036854775808, 9223372036854775807, false, 8, 0), (0, 256, false, 9, 0), (-9223372036854775808, 9223372036854775807, false, 10, 0), (0, 7, false, 11, 0), (1, 99, false, 12, 0), (0, 99, false, 13, 0), (0, 20, false, 14, 0), (-9223372036854775808, 9223372036854775807, false, 15, 0), (0, 1, false, 16, 0)], [(50, 112 + t, (1, 12, 0, 0)), (50, 116 + t, (1, 13, 0, 0)), (50, 124, (1, 14, 0, -10))], [])).any fun xs => xs.all fun x => (sl_c_S t : List sm_t).any fun y => sm_is [] x y) = true := by decide +kernel
theorem sl_d : ((List.range 4).all fun t => (ai_ex (hk []) 300 151 tb_m151 9 [53] (116, [(0, (0, 49, 0, 0)), (1, (1, 2, 0, 0)), (2, (1, 0, 0, (t : Int))), (3, (1, 6, 0, 0)), (4, (1, 4, 0, 0)), (5, (1, 5, 0, 0)), (6, (2, 7, 0, 0)), (8, (2, 8, 0, 0)), (10, (1, 9, 0, 0)), (11, (2, 10, 0, 0)), (13, (1, 11, 0, 0))], [(1, 12, 0, 0)], [(0, 0, false, 0, 0), (0, 2555, false, 1, 0), (0, 10, false, 2, 0), (0, 3, false, 3, 0), (0, 1, false, 4, 0), (0, 1, false, 5, 0), (0, 8, false, 6, 0), (-9223372036854775808, 9223372036854775807, false, 7, 0), (-9223372036854775808, 9223372036854775807, false, 8, 0), (0, 256, false, 9, 0), (-9223372036854775808, 9223372036854775807, false, 10, 0), (0, 7, false, 11, 0), (0, 99, false, 12, 0)], [], [])).any fun xs => xs.all fun x => ([(53, [(0, (0, 49, 0, 0)), (1, (1, 2, 0, 0)), (2, (1, 0, 0, (t : Int))), (3, (1, 6, 0, 0)), (4, (1, 4, 0, 0)), (5, (1, 5, 0, 0)), (6, (2, 7, 0, 0)), (8, (2, 8, 0, 0)), (10, (1, 9, 0, 0)), (11, (2, 10, 0, 0)), (13, (1, 11, 0, 1))], [], [], [(0, 0, false, 0, 0), (0, 2555, false, 1, 0), (0, 10, false, 2, 0), (0, 3, false, 3, 0), (0, 1, false, 4, 0), (0, 1, false, 5, 0), (0, 8, false, 6, 0), (-9223372036854775808, 9223372036854775807, false, 7, 0), (-9223372036854775808, 9223372036854775807, false, 8, 0), (0, 256, false, 9, 0), (-9223372036854775808, 9223372036854775807, false, 10, 0), (0, 7, false, 11, 0), (0, 99, false, 12, 0)], [])] : List sm_t).any fun y => sm_is [] x y) = true := by decide +kernel
def sl_e1_S : List sm_t := [
  (94, [(0, (0, 49, 0, 0)), (1, (1, 2, 0, 0)), (2, (1, 3, 0, 0)), (3, (1, 6, 0, 0)), (4, (1, 4, 0, 0)), (5, (1, 5, 0, 0)), (6, (2, 7, 0, 0)), (8, (2, 8, 0, 0)), (10, (1, 9, 0, 0)), (11, (2, 10, 0, 0)), (13, (1, 11, 0, 0)), (14, (1, 0, 0, 1))], [(2, 2, 0, 0), (2, 10, 0, 0)], [], [(0, 0, false, 0, 0), (0, 2555, false, 1, 0), (0, 10, false, 2, 0), (0, 3, false, 3, 0), (0, 1, false, 4, 0), (0, 1, false, 5, 0), (0, 8, false, 6, 0), (-9223372036854775808, 9223372036854775807, false, 7, 0), (-9223372036854775808, 9223372036854775807, false, 8, 0), (0, 256, false, 9, 0), (-9223372036854775808, 9223372036854775807, false, 10, 0), (0, 8, false, 11, 0), (1, 1, false, 12, 0)], [])]
theorem sl_e1 : ((ai_ex (hk []) 300 151 tb_m151 9 [94] (66, [(0, (0, 49, 0, 0)), (1, (1, 2, 0, 0)), (2, (1, 3, 0, 0)), (3, (1, 6, 0, 0)), (4, (1, 4, 0, 0)), (5, (1, 5, 0, 0)), (6, (2, 7, 0, 0)), (8, (2, 8, 0, 0)), (10, (1, 9, 0, 0)), (11, (2, 10, 0, 0)), (13, (1, 11, 0, 0))], [(1, 12, 0, 0)], [(0, 0, false, 0, 0), (0, 2555, false, 1, 0), (0, 10, false, 2, 0), (0, 3, false, 3, 0), (0, 1, false, 4, 0), (0, 1, false, 5, 0), (0, 8, false, 6, 0), (-9223372036854775808, 9223372036854775807, false, 7, 0), (-9223372036854775808, 9223372036854775807, false, 8, 0), (0, 256, false, 9, 0), (-9223372036854775808, 9223372036854775807, false, 10, 0), (0, 8, false, 11, 0), (1, 1, false, 12, 0)], [], [])).any fun xs => xs.all fun x => (sl_e1_S : List sm_t).any fun y => sm_is [] x y) = true := by decide +kernel
def sl_e0_S : List sm_t := [
  (94, [(0, (0, 49, 0, 0)), (1, (1, 2, 0, 0)), (2, (1, 3, 0, 0)), (3, (1, 6, 0, 0)), (4, (1, 4, 0, 0)), (5, (1, 5, 0, 0)), (6, (2, 7, 0, 0)), (8, (2, 8, 0, 0)), (10, (1, 9, 0, 0)), (11, (2, 10, 0, 0)), (13, (1, 11, 0, 0)), (14, (1, 0, 0, 0))], [(2, 13, 0, 0), (2, 10, 0, 0)], [], [(0, 0, false, 0, 0), (0, 2555, false, 1, 0), (0, 10, false, 2, 0), (0, 3, false, 3, 0), (0, 1, false, 4, 0), (0, 1, false, 5, 0), (0, 8, false, 6, 0), (-9223372036854775808, 9223372036854775807, false, 7, 0), (-9223372036854775808, 9223372036854775807, false, 8, 0), (0, 256, false, 9, 0), (-9223372036854775808, 9223372036854775807, false, 10, 0), (0, 8, false, 11, 0), (0, 0, false, 12, 0), (0, 10, false, 13, 0)], [(0, 0, 2, 13, -10)])]
theorem sl_e0 : ((ai_ex (hk []) 300 151 tb_m151 9 [94] (66, [(0, (0, 49, 0, 0)), (1, (1, 2, 0, 0)), (2, (1, 3, 0, 0)), (3, (1, 6, 0, 0)), (4, (1, 4, 0, 0)), (5, (1, 5, 0, 0)), (6, (2, 7, 0, 0)), (8, (2, 8, 0, 0)), (10, (1, 9, 0, 0)), (11, (2, 10, 0, 0)), (13, (1, 11, 0, 0))], [(1, 12, 0, 0)], [(0, 0, false, 0, 0), (0, 2555, false, 1, 0), (0, 10, false, 2, 0), (0, 3, false, 3, 0), (0, 1, false, 4, 0), (0, 1, false, 5, 0), (0, 8, false, 6, 0), (-9223372036854775808, 9223372036854775807, false, 7, 0), (-9223372036854775808, 9223372036854775807, false, 8, 0), (0, 256, false, 9, 0), (-9223372036854775808, 9223372036854775807, false, 10, 0), (0, 8, false, 11, 0), (0, 0, false, 12, 0)], [], [])).any fun xs => xs.all fun x => (sl_e0_S : List sm_t).any fun y => sm_is [] x y) = true := by decide +kernel
theorem sl_s : ((ai_ex (hk []) 300 151 tb_m151 9 [36] (34, [(0, (0, 49, 0, 0)), (1, (1, 2, 0, 0)), (2, (1, 3, 0, 0)), (3, (1, 6, 0, 0)), (4, (1, 4, 0, 0)), (5, (1, 5, 0, 0)), (6, (2, 7, 0, 0)), (8, (2, 8, 0, 0)), (10, (1, 9, 0, 0))], [(1, 9, 0, 0)], [(0, 0, false, 0, 0), (0, 2555, false, 1, 0), (0, 10, false, 2, 0), (0, 3, false, 3, 0), (0, 1, false, 4, 0), (0, 1, false, 5, 0), (0, 8, false, 6, 0), (-9223372036854775808, 9223372036854775807, false, 7, 0), (-9223372036854775808, 9223372036854775807, false, 8, 0), (0, 256, false, 9, 0)], [], [])).any fun xs => xs.all fun x => ([(36, [(0, (0, 49, 0, 0)), (1, (1, 2, 0, 0)), (2, (1, 3, 0, 0)), (3, (1, 6, 0, 0)), (4, (1, 4, 0, 0)), (5, (1, 5, 0, 0)), (6, (2, 7, 0, 0)), (8, (2, 8, 0, 0)), (10, (1, 9, 0, 0))], [(1, 6, 0, 0), (1, 0, 0, 1), (1, 9, 0, 0)], [], [(0, 0, false, 0, 0), (0, 2555, false, 1, 0), (0, 10, false, 2, 0), (0, 3, false, 3, 0), (0, 1, false, 4, 0), (0, 1, false, 5, 0), (0, 8, false, 6, 0), (-9223372036854775808, 9223372036854775807, false, 7, 0), (-9223372036854775808, 9223372036854775807, false, 8, 0), (0, 256, false, 9, 0)], [])] : List sm_t).any fun y => sm_is [] x y) = true := by decide +kernel
def sl_y_S : List sm_t := [
  (176, [(0, (0, 49, 0, 0)), (1, (1, 2, 0, 0)), (2, (1, 3, 0, 0)), (3, (1, 6, 0, 0)), (4, (1, 4, 0, 0)), (5, (1, 5, 0, 0)), (6, (2, 7, 0, 0)), (8, (2, 8, 0, 0)), (10, (1, 9, 0, 0))], [(1, 5, 0, 0), (2, 8, 0, 0), (2, 7, 0, 0)], [], [(0, 0, false, 0, 0), (0, 2555, false, 1, 0), (0, 10, false, 2, 0), (0, 3, false, 3, 0), (0, 1, false, 4, 0), (0, 1, false, 5, 0), (0, 8, false, 6, 0), (-9223372036854775808, 9223372036854775807, false, 7, 0), (-9223372036854775808, 9223372036854775807, false, 8, 0), (1, 256, false, 9, 0), (1, 256, false, 10, 0)], [(5, 9, 10, 9, 0), (5, 9, 10, 9, 0)])]
theorem sl_y : ((ai_ex (hk []) 300 151 tb_m151 9 [176] (37, [(0, (0, 49, 0, 0)), (1, (1, 2, 0, 0)), (2, (1, 3, 0, 0)), (3, (1, 6, 0, 0)), (4, (1, 4, 0, 0)), (5, (1, 5, 0, 0)), (6, (2, 7, 0, 0)), (8, (2, 8, 0, 0)), (10, (1, 9, 0, 0))], [(1, 10, 0, 0), (1, 9, 0, 0)], [(0, 0, false, 0, 0), (0, 2555, false, 1, 0), (0, 10, false, 2, 0), (0, 3, false, 3, 0), (0, 1, false, 4, 0), (0, 1, false, 5, 0), (0, 8, false, 6, 0), (-9223372036854775808, 9223372036854775807, false, 7, 0), (-9223372036854775808, 9223372036854775807, false, 8, 0), (0, 256, false, 9, 0), (1, 256, false, 10, 0)], [], [(5, 9, 10, 9, 0)])).any fun xs => xs.all fun x => (sl_y_S : List sm_t).any fun y => sm_is [] x y) = true := by decide +kernel
def sl_z_S : List sm_t := [
  (47, [(0, (0, 49, 0, 0)), (1, (1, 2, 0, 0)), (2, (1, 3, 0, 0)), (3, (1, 6, 0, 0)), (4, (1, 4, 0, 0)), (5, (1, 5, 0, 0)), (6, (2, 7, 0, 0)), (8, (2, 8, 0, 0)), (10, (1, 9, 0, 0)), (11, (2, 0, 0, 1))], [(1, 0, 0, 108), (1, 0, 0, 0), (0, 49, 0, 0)], [], [(0, 0, false, 0, 0), (0, 2555, false, 1, 0), (0, 10, false, 2, 0), (0, 3, false, 3, 0), (0, 1, false, 4, 0), (0, 1, false, 5, 0), (0, 8, false, 6, 0), (-9223372036854775808, 9223372036854775807, false, 7, 0), (-9223372036854775808, 9223372036854775807, false, 8, 0), (0, 255, false, 9, 0), (1, 256, false, 10, 0)], [(4, 9, 10, 9, 0), (4, 9, 10, 9, 0)])]
theorem sl_z : ((ai_ex (hk []) 300 151 tb_m151 9 [47] (37, [(0, (0, 49, 0, 0)), (1, (1, 2, 0, 0)), (2, (1, 3, 0, 0)), (3, (1, 6, 0, 0)), (4, (1, 4, 0, 0)), (5, (1, 5, 0, 0)), (6, (2, 7, 0, 0)), (8, (2, 8, 0, 0)), (10, (1, 9, 0, 0))], [(1, 10, 0, 0), (1, 9, 0, 0)], [(0, 0, false, 0, 0), (0, 2555, false, 1, 0), (0, 10, false, 2, 0), (0, 3, false, 3, 0), (0, 1, false, 4, 0), (0, 1, false, 5, 0), (0, 8, false, 6, 0), (-9223372036854775808, 9223372036854775807, false, 7, 0), (-9223372036854775808, 9223372036854775807, false, 8, 0), (0, 256, false, 9, 0), (1, 256, false, 10, 0)], [], [(4, 9, 10, 9, 0)])).any fun xs => xs.all fun x => (sl_z_S : List sm_t).any fun y => sm_is [] x y) = true := by decide +kernel
theorem sl_r : ((ai_ex (hk []) 300 151 tb_m151 9 [53] (50, [(0, (0, 49, 0, 0)), (1, (1, 2, 0, 0)), (2, (1, 3, 0, 0)), (3, (1, 6, 0, 0)), (4, (1, 4, 0, 0)), (5, (1, 5, 0, 0)), (6, (2, 7, 0, 0)), (8, (2, 8, 0, 0)), (10, (1, 9, 0, 0)), (11, (2, 11, 0, 0))], [], [(0, 0, false, 0, 0), (0, 2555, false, 1, 0), (0, 10, false, 2, 0), (0, 3, false, 3, 0), (0, 1, false, 4, 0), (0, 1, false, 5, 0), (0, 8, false, 6, 0), (-9223372036854775808, 9223372036854775807, false, 7, 0), (-9223372036854775808, 9223372036854775807, false, 8, 0), (0, 256, false, 9, 0), (0, 0, false, 10, 0), (-9223372036854775808, 9223372036854775807, false, 11, 0)], [], [])).any fun xs => xs.all fun x => ([(53, [(0, (0, 49, 0, 0)), (1, (1, 2, 0, 0)), (2, (1, 3, 0, 0)), (3, (1, 6, 0, 0)), (4, (1, 4, 0, 0)), (5, (1, 5, 0, 0)), (6, (2, 7, 0, 0)), (8, (2, 8, 0, 0)), (10, (1, 9, 0, 0)), (11, (2, 11, 0, 0)), (13, (1, 0, 0, 0))], [], [], [(0, 0, false, 0, 0), (0, 2555, false, 1, 0), (0, 10, false, 2, 0), (0, 3, false, 3, 0), (0, 1, false, 4, 0), (0, 1, false, 5, 0), (0, 8, false, 6, 0), (-9223372036854775808, 9223372036854775807, false, 7, 0), (-9223372036854775808, 9223372036854775807, false, 8, 0), (0, 256, false, 9, 0), (0, 0, false, 10, 0), (-9223372036854775808, 9223372036854775807, false, 11, 0)], [])] : List sm_t).any fun y => sm_is [] x y) = true := by decide +kernel
theorem sl_t : ((ai_ex (hk []) 300 151 tb_m151 9 [32] (162, [(0, (0, 49, 0, 0)), (1, (1, 2, 0, 0)), (2, (1, 3, 0, 0)), (3, (1, 6, 0, 0)), (4, (1, 4, 0, 0)), (5, (1, 5, 0, 0)), (6, (2, 7, 0, 0)), (8, (2, 8, 0, 0)), (10, (1, 9, 0, 0)), (11, (2, 10, 0, 0)), (13, (1, 11, 0, 0))], [(2, 12, 0, 0)], [(0, 0, false, 0, 0), (0, 2555, false, 1, 0), (0, 10, false, 2, 0), (0, 3, false, 3, 0), (0, 1, false, 4, 0), (0, 1, false, 5, 0), (0, 8, false, 6, 0), (-9223372036854775808, 9223372036854775807, false, 7, 0), (-9223372036854775808, 9223372036854775807, false, 8, 0), (0, 255, false, 9, 0), (-9223372036854775808, 9223372036854775807, false, 10, 0), (0, 8, false, 11, 0), (-9223372036854775808, 9223372036854775807, false, 12, 0)], [], [])).any fun xs => xs.all fun x => ([(32, [(0, (0, 49, 0, 0)), (1, (1, 2, 0, 0)), (2, (1, 3, 0, 0)), (3, (1, 6, 0, 0)), (4, (1, 4, 0, 0)), (5, (1, 5, 0, 0)), (6, (2, 12, 0, 0)), (8, (2, 8, 0, 0)), (10, (1, 9, 0, 1))], [], [], [(0, 0, false, 0, 0), (0, 2555, false, 1, 0), (0, 10, false, 2, 0), (0, 3, false, 3, 0), (0, 1, false, 4, 0), (0, 1, false, 5, 0), (0, 8, false, 6, 0), (-9223372036854775808, 9223372036854775807, false, 7, 0), (-9223372036854775808, 9223372036854775807, false, 8, 0), (0, 255, false, 9, 0), (-9223372036854775808, 9223372036854775807, false, 10, 0), (0, 8, false, 11, 0), (-9223372036854775808, 9223372036854775807, false, 12, 0)], [])] : List sm_t).any fun y => sm_is [] x y) = true := by decide +kernel
def sl_f1_S (t : Nat) : List sm_t := [
  (160, [(0, (0, 49, 0, 0)), (1, (1, 2, 0, 0)), (2, (1, 0, 0, (t : Int))), (3, (1, 6, 0, 0)), (4, (1, 4, 0, 0)), (5, (1, 5, 0, 0)), (6, (2, 7, 0, 0)), (8, (2, 8, 0, 0)), (10, (1, 9, 0, 0)), (11, (2, 10, 0, 0)), (13, (1, 11, 0, 0))], [(2, 13, 0, 0), (2, 10, 0, 0), (2, 7, 0, 0)], [], [(0, 0, false, 0, 0), (0, 2555, false, 1, 0), (0, 10, false, 2, 0), (0, 3, false, 3, 0), (1, 1, true, 4, 0), (0, 1, false, 5, 0), (0, 8, false, 6, 0), (-9223372036854775808, 9223372036854775807, false, 7, 0), (-9223372036854775808, 9223372036854775807, false, 8, 0), (0, 256, false, 9, 0), (-9223372036854775808, 9223372036854775807, false, 10, 0), (0, 8, false, 11, 0), (1, 99, false, 12, 0), (0, 99, false, 13, 0)], [])]
theorem sl_f1 : ((List.range 4).all fun t => (ai_ex (hk []) 300 151 tb_m151 9 [160] (123, [(0, (0, 49, 0, 0)), (1, (1, 2, 0, 0)), (2, (1, 0, 0, (t : Int))), (3, (1, 6, 0, 0)), (4, (1, 4, 0, 0)), (5, (1, 5, 0, 0)), (6, (2, 7, 0, 0)), (8, (2, 8, 0, 0)), (10, (1, 9, 0, 0)), (11, (2, 10, 0, 0)), (13, (1, 11, 0, 0))], [], [(0, 0, false, 0, 0), (0, 2555, false, 1, 0), (0, 10, false, 2, 0), (0, 3, false, 3, 0), (1, 1, false, 4, 0), (0, 1, false, 5, 0), (0, 8, false, 6, 0), (-9223372036854775808, 9223372036854775807, false, 7, 0), (-9223372036854775808, 9223372036854775807, false, 8, 0), (0, 256, false, 9, 0), (-9223372036854775808, 9223372036854775807, false, 10, 0), (0, 8, false, 11, 0), (1, 99, false, 12, 0), (0, 99, false, 13, 0)], [(50, 112 + t, (1, 12, 0, 0)), (50, 116 + t, (1, 13, 0, 0))], [])).any fun xs => xs.all fun x => (sl_f1_S t : List sm_t).any fun y => sm_is [] x y) = true := by decide +kernel
def sl_f0_S (t : Nat) : List sm_t := [
  (160, [(0, (0, 49, 0, 0)), (1, (1, 2, 0, 0)), (2, (1, 0, 0, (t : Int))), (3, (1, 6, 0, 0)), (4, (1, 4, 0, 0)), (5, (1, 5, 0, 0)), (6, (2, 7, 0, 0)), (8, (2, 8, 0, 0)), (10, (1, 9, 0, 0)), (11, (2, 10, 0, 0)), (13, (1, 11, 0, 0))], [(2, 0, 0, 0), (2, 10, 0, 0), (2, 7, 0, 0)], [], [(0, 0, false, 0, 0), (0, 2555, false, 1, 0), (0, 10, false, 2, 0), (0, 3, false, 3, 0), (0, 0, false, 4, 0), (0, 1, false, 5, 0), (0, 8, false, 6, 0), (-9223372036854775808, 9223372036854775807, false, 7, 0), (-9223372036854775808, 9223372036854775807, false, 8, 0), (0, 256, false, 9, 0), (-9223372036854775808, 9223372036854775807, false, 10, 0), (0, 8, false, 11, 0), (1, 99, false, 12, 0), (0, 99, false, 13, 0)], [(140, 13, 12, 13, 0)]),
  (160, [(0, (0, 49, 0, 0)), (1, (1, 2, 0, 0)), (2, (1, 0, 0, (t : Int))), (3, (1, 6, 0, 0)), (4, (1, 4, 0, 0)), (5, (1, 5, 0, 0)), (6, (2, 7, 0, 0)), (8, (2, 8, 0, 0)), (10, (1, 9, 0, 0)), (11, (2, 10, 0, 0)), (13, (1, 11, 0, 0))], [(2, 0, 0, 1), (2, 10, 0, 0), (2, 7, 0, 0)], [], [(0, 0, false, 0, 0), (0, 2555, false, 1, 0), (0, 10, false, 2, 0), (0, 3, false, 3, 0), (0, 0, false, 4, 0), (0, 1, false, 5, 0), (0, 8, false, 6, 0), (-9223372036854775808, 9223372036854775807, false, 7, 0), (-9223372036854775808, 9223372036854775807, false, 8, 0), (0, 256, false, 9, 0), (-9223372036854775808, 9223372036854775807, false, 10, 0), (0, 8, false, 11, 0), (1, 99, false, 12, 0), (1, 99, false, 13, 0)], [(4, 13, 12, 13, 1), (5, 13, 12, 13, 0)])]
theorem sl_f0 : ((List.range 4).all fun t => (ai_ex (hk []) 300 151 tb_m151 9 [160] (123, [(0, (0, 49, 0, 0)), (1, (1, 2, 0, 0)), (2, (1, 0, 0, (t : Int))), (3, (1, 6, 0, 0)), (4, (1, 4, 0, 0)), (5, (1, 5, 0, 0)), (6, (2, 7, 0, 0)), (8, (2, 8, 0, 0)), (10, (1, 9, 0, 0)), (11, (2, 10, 0, 0)), (13, (1, 11, 0, 0))], [], [(0, 0, false, 0, 0), (0, 2555, false, 1, 0), (0, 10, false, 2, 0), (0, 3, false, 3, 0), (0, 0, false, 4, 0), (0, 1, false, 5, 0), (0, 8, false, 6, 0), (-9223372036854775808, 9223372036854775807, false, 7, 0), (-9223372036854775808, 9223372036854775807, false, 8, 0), (0, 256, false, 9, 0), (-9223372036854775808, 9223372036854775807, false, 10, 0), (0, 8, false, 11, 0), (1, 99, false, 12, 0), (0, 99, false, 13, 0)], [(50, 112 + t, (1, 12, 0, 0)), (50, 116 + t, (1, 13, 0, 0))], [])).any fun xs => xs.all fun x => (sl_f0_S t : List sm_t).any fun y => sm_is [] x y) = true := by decide +kernel
theorem sl_0 : ((List.range 9).all fun n => (ai_ex (hk []) 300 151 tb_m151 9 [32] (0, [(0, (0, 49, 0, 0)), (1, (1, 2, 0, 0)), (2, (1, 3, 0, 0)), (3, (1, 0, 0, (n : Int))), (4, (1, 4, 0, 0)), (5, (1, 5, 0, 0))], [], [(0, 0, false, 0, 0), (0, 2555, false, 1, 0), (0, 10, false, 2, 0), (0, 3, false, 3, 0), (0, 1, false, 4, 0), (0, 1, false, 5, 0)], [], [])).any fun xs => xs.all fun x => ([(32, [(0, (0, 49, 0, 0)), (1, (1, 2, 0, 0)), (2, (1, 3, 0, 0)), (3, (1, 0, 0, (n : Int))), (4, (1, 4, 0, 0)), (5, (1, 5, 0, 0)), (6, (2, 0, 0, 0)), (8, (2, 0, 0, tenP n)), (10, (1, 0, 0, 0))], [], [], [(0, 0, false, 0, 0), (0, 2555, false, 1, 0), (0, 10, false, 2, 0), (0, 3, false, 3, 0), (0, 1, false, 4, 0), (0, 1, false, 5, 0)], [])] : List sm_t).any fun y => sm_is [] x y) = true := by decide +kernel
section XSL
variable {ad : List Nat} {M : ai_m} {d : Nat} {p : Program} {l : Launch} {e : Env} {R9 : Room} {s : State} {m : MethodId} {args : Array Value} {below : List Frame} {meth : Method} {c : Code} {D : va_G} {tys : ai_ty} {A9 : Nat → Prop} {b L : Nat} {sx : Nat → Int32} {cells slots : Nat} {Q : State → Prop}
theorem sl_in {ar t n Z q : Nat} {K v : Int} {R9x : Int} {zv zt zn zm zw zq : Int32} {zu zd : Int64} {f : Nat → Int} {ws0 : va_W} (C : ai_cx tb_m151 9 p R9 s m args c D tys A9 b L sx cells slots) (ha : ad[49]? = some ar) (ht : t < 4) (et : zt.toInt = t) (ev : zv.toInt = v) (hv : 0 ≤ v ∧ v ≤ 10) (en : zn.toInt = n) (hn : n < 9) (hZ : 1 ≤ Z ∧ Z ≤ 99) (hK : 0 ≤ K ∧ K ≤ 3) (bm : 0 ≤ zm.toInt ∧ zm.toInt ≤ 1) (bw : 0 ≤ zw.toInt ∧ zw.toInt ≤ 1) (eq : zq.toInt = q) (hq : q < 256)
    (kk : ∀ (ws' : va_W) (zo : Int64) (zi : Int32) (o : Int) (mv : Nat) (pp ss ll : Int), ai_wd tb_TY ad tys ws' → ai_fr sl_W ws0 ws' → zo.toInt = o → 0 ≤ o ∧ o ≤ tenP n → mv ≤ Z → po_vi ws' 108 t K (Z : Int) (mv : Int) pp ss ll → o * f mv = R9x → zi.toInt = n → hG tb_m151 p l e R9 s m args below meth c D A9 cells slots Q 123 [(0, .ref ar), (1, .int zv), (2, .int zt), (3, .int zn), (4, .int zm), (5, .int zw), (6, .long zu), (8, .long zd), (10, .int zq), (11, .long zo), (13, .int zi)] [] ws') :
    ∀ (fu i : Nat) (zo : Int64) (zi : Int32) (o : Int) (mv : Nat) (pp ss ll : Int) (ws : va_W), i + fu = n → zi.toInt = i → zo.toInt = o → (0 ≤ o ∧ o ≤ tenP i) → mv ≤ Z → (0 ≤ pp ∧ pp ≤ 99) → (0 ≤ ss ∧ ss ≤ 20) → (0 ≤ ll ∧ ll ≤ 999) → po_vi ws 108 t K (Z : Int) (mv : Int) pp ss ll → mkF K v Z f fu (q / 2 ^ i) o mv pp ss = R9x → ai_wd tb_TY ad tys ws → ai_fr sl_W ws0 ws → hG tb_m151 p l e R9 s m args below meth c D A9 cells slots Q 53 [(0, .ref ar), (1, .int zv), (2, .int zt), (3, .int zn), (4, .int zm), (5, .int zw), (6, .long zu), (8, .long zd), (10, .int zq), (11, .long zo), (13, .int zi)] [] ws := by
  intro fu
  induction fu with
  | zero =>
    intro i zo zi o mv pp ss ll ws hf ei eo bo hm bp bs bl hpg hR hw hfr
    refine hildw (j := 13) (x := zi) C (tv_m151.1.1.1 (53, .iload 13, 2) (List.mem_of_getElem? (i := 30) rfl)) (List.mem_of_getElem? (i := 10) rfl) ?_
    have bu := ai_lrg zu
    have bd := ai_lrg zd
    have bo9 := ai_lrg zo
    have sba : ai_sb ws [0, 0, zv.toInt, zt.toInt, zm.toInt, zw.toInt, zn.toInt, zu.toInt, zd.toInt, zq.toInt, zo.toInt, zi.toInt] [(5, 11, 6, 11, 0)] := fun q hq => by
      rw [List.mem_singleton.mp hq]
      refine ⟨zi.toInt, zn.toInt, zi.toInt, rfl, rfl, rfl, fun h0 => ?_, fun h0 => ?_, fun h0 => ?_, fun h0 => ?_, fun h0 => ?_, fun h0 => ?_⟩
      all_goals dsimp only at h0 ⊢
      all_goals omega
    refine hsum (st := (55, [(0, (0, 49, 0, 0)), (1, (1, 2, 0, 0)), (2, (1, 3, 0, 0)), (3, (1, 6, 0, 0)), (4, (1, 4, 0, 0)), (5, (1, 5, 0, 0)), (6, (2, 7, 0, 0)), (8, (2, 8, 0, 0)), (10, (1, 9, 0, 0)), (11, (2, 10, 0, 0)), (13, (1, 11, 0, 0))], [(1, 11, 0, 0)], [(0, 0, false, 0, 0), (0, 2555, false, 1, 0), (0, 10, false, 2, 0), (0, 3, false, 3, 0), (0, 1, false, 4, 0), (0, 1, false, 5, 0), (0, 8, false, 6, 0), (-9223372036854775808, 9223372036854775807, false, 7, 0), (-9223372036854775808, 9223372036854775807, false, 8, 0), (0, 256, false, 9, 0), (-9223372036854775808, 9223372036854775807, false, 10, 0), (0, 8, false, 11, 0)], [], [(5, 11, 6, 11, 0)])) sl_x rfl C (r := [0, 0, zv.toInt, zt.toInt, zm.toInt, zw.toInt, zn.toInt, zu.toInt, zd.toInt, zq.toInt, zo.toInt, zi.toInt]) ⟨en_mk (by simp only [en_b, and_true]; omega) rfl, sba, ⟨rfl, Or.inl ⟨rfl, ar, ha, rfl⟩, rfl, int_dv (z := zv.toInt) rfl (by omega), rfl, int_dv (z := zt.toInt) rfl (by omega), rfl, int_dv (z := zn.toInt) rfl (by omega), rfl, int_dv (z := zm.toInt) rfl (by omega), rfl, int_dv (z := zw.toInt) rfl (by omega), rfl, lng_dv (z := zu.toInt) rfl (by omega), rfl, lng_dv (z := zd.toInt) rfl (by omega), rfl, int_dv (z := zq.toInt) rfl (by omega), rfl, lng_dv (z := zo.toInt) rfl (by omega), rfl, int_dv (z := zi.toInt) rfl (by omega), trivial⟩, ⟨int_dv (z := zi.toInt) rfl (by omega), trivial⟩, hw, k0, fun _ _ _ _ h => h, fun h => by cases h⟩ (fun x hx r1 lv1 st1 ws1 hx1 hb1 hl1 hs1 hlo1 hsk1 hw1 hV1 hf1 _ => ?_)
    unfold sl_x_S at hx
    have m1_2 := nm_x hx1 (k := 2) rfl
    have m1_3 := nm_x hx1 (k := 3) rfl
    have m1_4 := nm_x hx1 (k := 4) rfl
    have m1_5 := nm_x hx1 (k := 5) rfl
    have m1_6 := nm_x hx1 (k := 6) rfl
    have m1_7 := nm_x hx1 (k := 7) rfl
    have m1_8 := nm_x hx1 (k := 8) rfl
    have m1_9 := nm_x hx1 (k := 9) rfl
    have m1_10 := nm_x hx1 (k := 10) rfl
    have m1_11 := nm_x hx1 (k := 11) rfl
    have hx0 := List.mem_singleton.mp hx
    subst hx0
    dsimp only at hlo1 hsk1 ⊢
    simp (config := { decide := true }) only [bnd_b, lin_b, lin_q, Nat.reduceAdd, Nat.zero_add, Nat.reduceEqDiff, reduceIte, and_true, Int.add_zero] at hb1 hl1
    cases hsk1.nil
    obtain ⟨l10, rfl, p10⟩ := lo_ref ha hlo1
    obtain ⟨y11, l11, rfl, d11, p11⟩ := lo_int rfl p10
    obtain ⟨y12, l12, rfl, d12, p12⟩ := lo_int rfl p11
    obtain ⟨y13, l13, rfl, d13, p13⟩ := lo_int rfl p12
    obtain ⟨y14, l14, rfl, d14, p14⟩ := lo_int rfl p13
    obtain ⟨y15, l15, rfl, d15, p15⟩ := lo_int rfl p14
    obtain ⟨y16, l16, rfl, d16, p16⟩ := lo_lng rfl p15
    obtain ⟨y17, l17, rfl, d17, p17⟩ := lo_lng rfl p16
    obtain ⟨y18, l18, rfl, d18, p18⟩ := lo_int rfl p17
    obtain ⟨y19, l19, rfl, d19, p19⟩ := lo_lng rfl p18
    obtain ⟨y110, l110, rfl, d110, p110⟩ := lo_int rfl p19
    cases lo_nil p110
    rw [vn_at hx1 (n := 2) (z := zv.toInt) rfl] at d11
    have e11 : zv = y11 := Int32.toInt_inj.mp (by omega)
    subst e11
    rw [vn_at hx1 (n := 3) (z := zt.toInt) rfl] at d12
    have e12 : zt = y12 := Int32.toInt_inj.mp (by omega)
    subst e12
    rw [vn_at hx1 (n := 6) (z := zn.toInt) rfl] at d13
    have e13 : zn = y13 := Int32.toInt_inj.mp (by omega)
    subst e13
    rw [vn_at hx1 (n := 4) (z := zm.toInt) rfl] at d14
    have e14 : zm = y14 := Int32.toInt_inj.mp (by omega)
    subst e14
    rw [vn_at hx1 (n := 5) (z := zw.toInt) rfl] at d15
    have e15 : zw = y15 := Int32.toInt_inj.mp (by omega)
    subst e15
    rw [vnl_at hx1 (n := 7) (z := zu.toInt) rfl] at d16
    have e16 : zu = y16 := Int64.toInt_inj.mp (by omega)
    subst e16
    rw [vnl_at hx1 (n := 8) (z := zd.toInt) rfl] at d17
    have e17 : zd = y17 := Int64.toInt_inj.mp (by omega)
    subst e17
    rw [vn_at hx1 (n := 9) (z := zq.toInt) rfl] at d18
    have e18 : zq = y18 := Int32.toInt_inj.mp (by omega)
    subst e18
    rw [vnl_at hx1 (n := 10) (z := zo.toInt) rfl] at d19
    have e19 : zo = y19 := Int64.toInt_inj.mp (by omega)
    subst e19
    rw [vn_at hx1 (n := 11) (z := zi.toInt) rfl] at d110
    have e110 : zi = y110 := Int32.toInt_inj.mp (by omega)
    subst e110
    exact kk ws1 zo zi o mv pp ss ll hw1 (hfr.tr (wsub_ok (V := []) (by rfl) hf1)) eo (by rw [show n = i by omega]; exact bo) hm (hpg.fr hf1) hR (by omega)
  | succ fu ih =>
    intro i zo zi o mv pp ss ll ws hf ei eo bo hm bp bs bl hpg hR hw hfr
    have i8 : i < 8 := by omega
    have t8 := tenP_8 i (by omega)
    have tS : tenP (i + 1) = 10 * tenP i := rfl
    refine hildw (j := 13) (x := zi) C (tv_m151.1.1.1 (53, .iload 13, 2) (List.mem_of_getElem? (i := 30) rfl)) (List.mem_of_getElem? (i := 10) rfl) ?_
    have bu := ai_lrg zu
    have bd := ai_lrg zd
    have bo9 := ai_lrg zo
    have sba : ai_sb ws [0, 0, zv.toInt, zt.toInt, zm.toInt, zw.toInt, zn.toInt, zu.toInt, zd.toInt, zq.toInt, zo.toInt, zi.toInt] [(4, 11, 6, 11, 0)] := fun q hq => by
      rw [List.mem_singleton.mp hq]
      refine ⟨zi.toInt, zn.toInt, zi.toInt, rfl, rfl, rfl, fun h0 => ?_, fun h0 => ?_, fun h0 => ?_, fun h0 => ?_, fun h0 => ?_, fun h0 => ?_⟩
      all_goals dsimp only at h0 ⊢
      all_goals omega
    refine hsum (st := (55, [(0, (0, 49, 0, 0)), (1, (1, 2, 0, 0)), (2, (1, 3, 0, 0)), (3, (1, 6, 0, 0)), (4, (1, 4, 0, 0)), (5, (1, 5, 0, 0)), (6, (2, 7, 0, 0)), (8, (2, 8, 0, 0)), (10, (1, 9, 0, 0)), (11, (2, 10, 0, 0)), (13, (1, 11, 0, 0))], [(1, 11, 0, 0)], [(0, 0, false, 0, 0), (0, 2555, false, 1, 0), (0, 10, false, 2, 0), (0, 3, false, 3, 0), (0, 1, false, 4, 0), (0, 1, false, 5, 0), (0, 8, false, 6, 0), (-9223372036854775808, 9223372036854775807, false, 7, 0), (-9223372036854775808, 9223372036854775807, false, 8, 0), (0, 256, false, 9, 0), (-9223372036854775808, 9223372036854775807, false, 10, 0), (0, 8, false, 11, 0)], [], [(4, 11, 6, 11, 0)])) sl_a rfl C (r := [0, 0, zv.toInt, zt.toInt, zm.toInt, zw.toInt, zn.toInt, zu.toInt, zd.toInt, zq.toInt, zo.toInt, zi.toInt]) ⟨en_mk (by simp only [en_b, and_true]; omega) rfl, sba, ⟨rfl, Or.inl ⟨rfl, ar, ha, rfl⟩, rfl, int_dv (z := zv.toInt) rfl (by omega), rfl, int_dv (z := zt.toInt) rfl (by omega), rfl, int_dv (z := zn.toInt) rfl (by omega), rfl, int_dv (z := zm.toInt) rfl (by omega), rfl, int_dv (z := zw.toInt) rfl (by omega), rfl, lng_dv (z := zu.toInt) rfl (by omega), rfl, lng_dv (z := zd.toInt) rfl (by omega), rfl, int_dv (z := zq.toInt) rfl (by omega), rfl, lng_dv (z := zo.toInt) rfl (by omega), rfl, int_dv (z := zi.toInt) rfl (by omega), trivial⟩, ⟨int_dv (z := zi.toInt) rfl (by omega), trivial⟩, hw, k0, fun _ _ _ _ h => h, fun h => by cases h⟩ (fun x hx r1 lv1 st1 ws1 hx1 hb1 hl1 hs1 hlo1 hsk1 hw1 hV1 hf1 _ => ?_)
    unfold sl_a_S at hx
    have m1_2 := nm_x hx1 (k := 2) rfl
    have m1_3 := nm_x hx1 (k := 3) rfl
    have m1_4 := nm_x hx1 (k := 4) rfl
    have m1_5 := nm_x hx1 (k := 5) rfl
    have m1_6 := nm_x hx1 (k := 6) rfl
    have m1_7 := nm_x hx1 (k := 7) rfl
    have m1_8 := nm_x hx1 (k := 8) rfl
    have m1_9 := nm_x hx1 (k := 9) rfl
    have m1_10 := nm_x hx1 (k := 10) rfl
    have m1_11 := nm_x hx1 (k := 11) rfl
    have hx0 := List.mem_singleton.mp hx
    subst hx0
    dsimp only at hlo1 hsk1 ⊢
    simp (config := { decide := true }) only [bnd_b, lin_b, lin_q, Nat.reduceAdd, Nat.zero_add, Nat.reduceEqDiff, reduceIte, and_true, Int.add_zero] at hb1 hl1
    obtain ⟨l10, rfl, p10⟩ := lo_ref ha hlo1
    obtain ⟨y11, l11, rfl, d11, p11⟩ := lo_int rfl p10
    obtain ⟨y12, l12, rfl, d12, p12⟩ := lo_int rfl p11
    obtain ⟨y13, l13, rfl, d13, p13⟩ := lo_int rfl p12
    obtain ⟨y14, l14, rfl, d14, p14⟩ := lo_int rfl p13
    obtain ⟨y15, l15, rfl, d15, p15⟩ := lo_int rfl p14
    obtain ⟨y16, l16, rfl, d16, p16⟩ := lo_lng rfl p15
    obtain ⟨y17, l17, rfl, d17, p17⟩ := lo_lng rfl p16
    obtain ⟨y18, l18, rfl, d18, p18⟩ := lo_int rfl p17
    obtain ⟨y19, l19, rfl, d19, p19⟩ := lo_lng rfl p18
    obtain ⟨y110, l110, rfl, d110, p110⟩ := lo_int rfl p19
    cases lo_nil p110
    rw [vn_at hx1 (n := 2) (z := zv.toInt) rfl] at d11
    have e11 : zv = y11 := Int32.toInt_inj.mp (by omega)
    subst e11
    rw [vn_at hx1 (n := 3) (z := zt.toInt) rfl] at d12
    have e12 : zt = y12 := Int32.toInt_inj.mp (by omega)
    subst e12
    rw [vn_at hx1 (n := 6) (z := zn.toInt) rfl] at d13
    have e13 : zn = y13 := Int32.toInt_inj.mp (by omega)
    subst e13
    rw [vn_at hx1 (n := 4) (z := zm.toInt) rfl] at d14
    have e14 : zm = y14 := Int32.toInt_inj.mp (by omega)
    subst e14
    rw [vn_at hx1 (n := 5) (z := zw.toInt) rfl] at d15
    have e15 : zw = y15 := Int32.toInt_inj.mp (by omega)
    subst e15
    rw [vnl_at hx1 (n := 7) (z := zu.toInt) rfl] at d16
    have e16 : zu = y16 := Int64.toInt_inj.mp (by omega)
    subst e16
    rw [vnl_at hx1 (n := 8) (z := zd.toInt) rfl] at d17
    have e17 : zd = y17 := Int64.toInt_inj.mp (by omega)
    subst e17
    rw [vn_at hx1 (n := 9) (z := zq.toInt) rfl] at d18
    have e18 : zq = y18 := Int32.toInt_inj.mp (by omega)
    subst e18
    rw [vnl_at hx1 (n := 10) (z := zo.toInt) rfl] at d19
    have e19 : zo = y19 := Int64.toInt_inj.mp (by omega)
    subst e19
    rw [vn_at hx1 (n := 11) (z := zi.toInt) rfl] at d110
    have e110 : zi = y110 := Int32.toInt_inj.mp (by omega)
    subst e110
    obtain ⟨x10, s10, rfl, c10, g10⟩ := hsk1.cons
    obtain ⟨x11, s11, rfl, c11, g11⟩ := g10.cons
    cases g11.nil
    obtain ⟨u10, rfl, w10⟩ := dvn c10 (hx1.at (k := 11) rfl)
    obtain ⟨u11, rfl, w11⟩ := dvn c11 (hx1.at (k := 9) rfl)
    have q1 : u10 = Int32.ofNat i := i32_of (by omega) (by omega)
    have q2 : u11 = Int32.ofNat q := i32_of (by omega) (by omega)
    rw [q1, q2]
    have hbit := bit_b q hq i i8
    refine hishr C (tv_m151.1.1.1 (63, .ishr, 1) (List.mem_of_getElem? (i := 35) rfl)) ?_
    have bsh := ai_irg (Int32.ofNat q >>> (Int32.ofNat i &&& 31))
    generalize hsh : Int32.ofNat q >>> (Int32.ofNat i &&& 31) = zs at hbit bsh ⊢
    refine hsum (st := (64, [(0, (0, 49, 0, 0)), (1, (1, 2, 0, 0)), (2, (1, 3, 0, 0)), (3, (1, 6, 0, 0)), (4, (1, 4, 0, 0)), (5, (1, 5, 0, 0)), (6, (2, 7, 0, 0)), (8, (2, 8, 0, 0)), (10, (1, 9, 0, 0)), (11, (2, 10, 0, 0)), (13, (1, 11, 0, 0))], [(1, 12, 0, 0)], [(0, 0, false, 0, 0), (0, 2555, false, 1, 0), (0, 10, false, 2, 0), (0, 3, false, 3, 0), (0, 1, false, 4, 0), (0, 1, false, 5, 0), (0, 8, false, 6, 0), (-9223372036854775808, 9223372036854775807, false, 7, 0), (-9223372036854775808, 9223372036854775807, false, 8, 0), (0, 256, false, 9, 0), (-9223372036854775808, 9223372036854775807, false, 10, 0), (0, 8, false, 11, 0), (-2147483648, 2147483647, false, 12, 0)], [], [])) sl_b rfl C (r := [0, 0, zv.toInt, zt.toInt, zm.toInt, zw.toInt, zn.toInt, zu.toInt, zd.toInt, zq.toInt, zo.toInt, zi.toInt, zs.toInt]) ⟨en_mk (by simp only [en_b, and_true]; omega) rfl, sb0, ⟨rfl, Or.inl ⟨rfl, ar, ha, rfl⟩, rfl, int_dv (z := zv.toInt) rfl (by omega), rfl, int_dv (z := zt.toInt) rfl (by omega), rfl, int_dv (z := zn.toInt) rfl (by omega), rfl, int_dv (z := zm.toInt) rfl (by omega), rfl, int_dv (z := zw.toInt) rfl (by omega), rfl, lng_dv (z := zu.toInt) rfl (by omega), rfl, lng_dv (z := zd.toInt) rfl (by omega), rfl, int_dv (z := zq.toInt) rfl (by omega), rfl, lng_dv (z := zo.toInt) rfl (by omega), rfl, int_dv (z := zi.toInt) rfl (by omega), trivial⟩, ⟨int_dv (z := zs.toInt) rfl (by omega), trivial⟩, hw1, k0, fun _ _ _ _ h => h, fun h => by cases h⟩ (fun x hx r2 lv2 st2 ws2 hx2 hb2 hl2 hs2 hlo2 hsk2 hw2 hV2 hf2 _ => ?_)
    have hx9 := List.mem_singleton.mp hx
    subst hx9
    dsimp only at hlo2 hsk2 ⊢
    obtain ⟨l20, rfl, p20⟩ := lo_ref ha hlo2
    obtain ⟨y21, l21, rfl, d21, p21⟩ := lo_int rfl p20
    obtain ⟨y22, l22, rfl, d22, p22⟩ := lo_int rfl p21
    obtain ⟨y23, l23, rfl, d23, p23⟩ := lo_int rfl p22
    obtain ⟨y24, l24, rfl, d24, p24⟩ := lo_int rfl p23
    obtain ⟨y25, l25, rfl, d25, p25⟩ := lo_int rfl p24
    obtain ⟨y26, l26, rfl, d26, p26⟩ := lo_lng rfl p25
    obtain ⟨y27, l27, rfl, d27, p27⟩ := lo_lng rfl p26
    obtain ⟨y28, l28, rfl, d28, p28⟩ := lo_int rfl p27
    obtain ⟨y29, l29, rfl, d29, p29⟩ := lo_lng rfl p28
    obtain ⟨y210, l210, rfl, d210, p210⟩ := lo_int rfl p29
    cases lo_nil p210
    rw [vn_at hx2 (n := 2) (z := zv.toInt) rfl] at d21
    have e21 : zv = y21 := Int32.toInt_inj.mp (by omega)
    subst e21
    rw [vn_at hx2 (n := 3) (z := zt.toInt) rfl] at d22
    have e22 : zt = y22 := Int32.toInt_inj.mp (by omega)
    subst e22
    rw [vn_at hx2 (n := 6) (z := zn.toInt) rfl] at d23
    have e23 : zn = y23 := Int32.toInt_inj.mp (by omega)
    subst e23
    rw [vn_at hx2 (n := 4) (z := zm.toInt) rfl] at d24
    have e24 : zm = y24 := Int32.toInt_inj.mp (by omega)
    subst e24
    rw [vn_at hx2 (n := 5) (z := zw.toInt) rfl] at d25
    have e25 : zw = y25 := Int32.toInt_inj.mp (by omega)
    subst e25
    rw [vnl_at hx2 (n := 7) (z := zu.toInt) rfl] at d26
    have e26 : zu = y26 := Int64.toInt_inj.mp (by omega)
    subst e26
    rw [vnl_at hx2 (n := 8) (z := zd.toInt) rfl] at d27
    have e27 : zd = y27 := Int64.toInt_inj.mp (by omega)
    subst e27
    rw [vn_at hx2 (n := 9) (z := zq.toInt) rfl] at d28
    have e28 : zq = y28 := Int32.toInt_inj.mp (by omega)
    subst e28
    rw [vnl_at hx2 (n := 10) (z := zo.toInt) rfl] at d29
    have e29 : zo = y29 := Int64.toInt_inj.mp (by omega)
    subst e29
    rw [vn_at hx2 (n := 11) (z := zi.toInt) rfl] at d210
    have e210 : zi = y210 := Int32.toInt_inj.mp (by omega)
    subst e210
    obtain ⟨x20, s20, rfl, c20, g20⟩ := hsk2.cons
    obtain ⟨x21, s21, rfl, c21, g21⟩ := g20.cons
    cases g21.nil
    obtain ⟨u20, rfl, w20⟩ := dvn c20 (hx2.at (k := 0) rfl)
    obtain ⟨u21, rfl, w21⟩ := dvn c21 (hx2.at (k := 12) rfl)
    have q3 : u20 = 1 := Int32.toInt_inj.mp (by rw [show u20.toInt = 1 by omega]; decide)
    have q4 : u21 = zs := Int32.toInt_inj.mp (by omega)
    rw [q3, q4]
    refine hiand8 C (tv_m151.1.1.1 (65, .iand, 1) (List.mem_of_getElem? (i := 37) rfl)) ?_
    have b2 : q / 2 ^ i % 2 = 0 ∨ q / 2 ^ i % 2 = 1 := by omega
    generalize zs &&& 1 = zb at hbit ⊢
    have f2 : ai_fr [] ws ws2 := hf1.tr hf2
    have pg2 := hpg.fr f2
    have hdv : q / 2 ^ (i + 1) = q / 2 ^ i / 2 := by rw [Nat.pow_succ, Nat.div_div_eq_div_mul]
    -- what comes behind the odds: the same for both
    have rest : ∀ (ws3 : va_W) (zo3 : Int64) (zl : Int32) (o3 : Int) (sl : Bool), zo3.toInt = o3 → (0 ≤ o3 ∧ o3 ≤ tenP (i + 1)) → zl.toInt = (if sl = true then 1 else 0) → mkF K v Z f (fu + 1) (q / 2 ^ i) o mv pp ss = (if mv < Z ∧ 1 ≤ ss then mkF K v Z f fu (q / 2 ^ (i + 1)) o3 (if sl = true then mv else min Z (mv + (yl K ss pp).toNat)) (min 99 (pp + 1)) (ss - 1) else mkF K v Z f fu (q / 2 ^ (i + 1)) o3 mv pp ss) → ai_wd tb_TY ad tys ws3 → ai_fr [] ws ws3 → hG tb_m151 p l e R9 s m args below meth c D A9 cells slots Q 95 [(0, .ref ar), (1, .int zv), (2, .int zt), (3, .int zn), (4, .int zm), (5, .int zw), (6, .long zu), (8, .long zd), (10, .int zq), (11, .long zo), (13, .int zi), (14, .int zl)] [.long zo3] ws3 := by
      intro ws3 zo3 zl o3 sl eo3 bo3 ezl hmk hw3 hf3
      have pg3 := hpg.fr hf3
      obtain ⟨v1, v2, v3, v4, v5, v6⟩ := id pg3
      have bz : 0 ≤ zl.toInt ∧ zl.toInt ≤ 1 := by split at ezl <;> omega
      have b93 := ai_lrg zo3
      have v2' : vi ws3 50 (112 + t) (Z : Int) := by rw [show 112 + t = 4 + t + 108 by omega]; exact v2
      have v3' : vi ws3 50 (116 + t) (mv : Int) := by rw [show 116 + t = 8 + t + 108 by omega]; exact v3
      have sb9 : ai_sb ws3 [0, 0, zv.toInt, zt.toInt, zm.toInt, zw.toInt, zn.toInt, zu.toInt, zd.toInt, zq.toInt, zo.toInt, zi.toInt, (Z : Int), (mv : Int), ss, zo3.toInt, zl.toInt] [] := sb0
      refine hsum (st := (95, [(0, (0, 49, 0, 0)), (1, (1, 2, 0, 0)), (2, (1, 0, 0, (t : Int))), (3, (1, 6, 0, 0)), (4, (1, 4, 0, 0)), (5, (1, 5, 0, 0)), (6, (2, 7, 0, 0)), (8, (2, 8, 0, 0)), (10, (1, 9, 0, 0)), (11, (2, 10, 0, 0)), (13, (1, 11, 0, 0)), (14, (1, 16, 0, 0))], [(2, 15, 0, 0)], [(0, 0, false, 0, 0), (0, 2555, false, 1, 0), (0, 10, false, 2, 0), (0, 3, false, 3, 0), (0, 1, false, 4, 0), (0, 1, false, 5, 0), (0, 8, false, 6, 0), (-9223372036854775808, 9223372036854775807, false, 7, 0), (-9223372036854775808, 9223372036854775807, false, 8, 0), (0, 256, false, 9, 0), (-9223372036854775808, 9223372036854775807, false, 10, 0), (0, 7, false, 11, 0), (1, 99, false, 12, 0), (0, 99, false, 13, 0), (0, 20, false, 14, 0), (-9223372036854775808, 9223372036854775807, false, 15, 0), (0, 1, false, 16, 0)], [(50, 112 + t, (1, 12, 0, 0)), (50, 116 + t, (1, 13, 0, 0)), (50, 124, (1, 14, 0, -10))], [])) (List.all_eq_true.mp sl_c t (List.mem_range.mpr (by omega))) rfl C (r := [0, 0, zv.toInt, zt.toInt, zm.toInt, zw.toInt, zn.toInt, zu.toInt, zd.toInt, zq.toInt, zo.toInt, zi.toInt, (Z : Int), (mv : Int), ss, zo3.toInt, zl.toInt]) ⟨en_mk (by simp only [en_b, and_true]; omega) rfl, sb0, ⟨rfl, Or.inl ⟨rfl, ar, ha, rfl⟩, rfl, int_dv (z := zv.toInt) rfl (by omega), rfl, int_dv (z := 0) rfl (by omega), rfl, int_dv (z := zn.toInt) rfl (by omega), rfl, int_dv (z := zm.toInt) rfl (by omega), rfl, int_dv (z := zw.toInt) rfl (by omega), rfl, lng_dv (z := zu.toInt) rfl (by omega), rfl, lng_dv (z := zd.toInt) rfl (by omega), rfl, int_dv (z := zq.toInt) rfl (by omega), rfl, lng_dv (z := zo.toInt) rfl (by omega), rfl, int_dv (z := zi.toInt) rfl (by omega), rfl, int_dv (z := zl.toInt) rfl (by omega), trivial⟩, ⟨lng_dv (z := zo3.toInt) rfl (by omega), trivial⟩, hw3, kc (v2'.kn (n := 12) (t := (Z : Int)) rfl (by omega)) (kc (v3'.kn (n := 13) (t := (mv : Int)) rfl (by omega)) (kc (v5.kn (n := 14) (t := ss) rfl (by omega)) (k0))), fun _ _ _ _ h => h, fun h => by cases h⟩ (fun x hx r4 lv4 st4 ws4 hx4 hb4 hl4 hs4 hlo4 hsk4 hw4 hV4 hf4 _ => ?_)
      unfold sl_c_S at hx
      have m4_2 := nm_x hx4 (k := 2) rfl
      have m4_3 := nm_x hx4 (k := 3) rfl
      have m4_4 := nm_x hx4 (k := 4) rfl
      have m4_5 := nm_x hx4 (k := 5) rfl
      have m4_6 := nm_x hx4 (k := 6) rfl
      have m4_7 := nm_x hx4 (k := 7) rfl
      have m4_8 := nm_x hx4 (k := 8) rfl
      have m4_9 := nm_x hx4 (k := 9) rfl
      have m4_10 := nm_x hx4 (k := 10) rfl
      have m4_11 := nm_x hx4 (k := 11) rfl
      have m4_12 := nm_x hx4 (k := 12) rfl
      have m4_13 := nm_x hx4 (k := 13) rfl
      have m4_14 := nm_x hx4 (k := 14) rfl
      have m4_15 := nm_x hx4 (k := 15) rfl
      have m4_16 := nm_x hx4 (k := 16) rfl
      rcases List.mem_cons.mp hx with rfl | hx
      · skip
        dsimp only at hlo4 hsk4 ⊢
        simp (config := { decide := true }) only [bnd_b, lin_b, lin_q, Nat.reduceAdd, Nat.zero_add, Nat.reduceEqDiff, reduceIte, and_true, Int.add_zero] at hb4 hl4
        cases hsk4.nil
        obtain ⟨l40, rfl, p40⟩ := lo_ref ha hlo4
        obtain ⟨y41, l41, rfl, d41, p41⟩ := lo_int rfl p40
        obtain ⟨y42, l42, rfl, d42, p42⟩ := lo_int rfl p41
        obtain ⟨y43, l43, rfl, d43, p43⟩ := lo_int rfl p42
        obtain ⟨y44, l44, rfl, d44, p44⟩ := lo_int rfl p43
        obtain ⟨y45, l45, rfl, d45, p45⟩ := lo_int rfl p44
        obtain ⟨y46, l46, rfl, d46, p46⟩ := lo_lng rfl p45
        obtain ⟨y47, l47, rfl, d47, p47⟩ := lo_lng rfl p46
        obtain ⟨y48, l48, rfl, d48, p48⟩ := lo_int rfl p47
        obtain ⟨y49, l49, rfl, d49, p49⟩ := lo_lng rfl p48
        obtain ⟨y410, l410, rfl, d410, p410⟩ := lo_int rfl p49
        cases lo_nil p410
        rw [vn_at hx4 (n := 2) (z := zv.toInt) rfl] at d41
        have e41 : zv = y41 := Int32.toInt_inj.mp (by omega)
        subst e41
        rw [vn_at hx4 (n := 0) (z := 0) rfl] at d42
        have e42 : zt = y42 := Int32.toInt_inj.mp (by omega)
        subst e42
        rw [vn_at hx4 (n := 6) (z := zn.toInt) rfl] at d43
        have e43 : zn = y43 := Int32.toInt_inj.mp (by omega)
        subst e43
        rw [vn_at hx4 (n := 4) (z := zm.toInt) rfl] at d44
        have e44 : zm = y44 := Int32.toInt_inj.mp (by omega)
        subst e44
        rw [vn_at hx4 (n := 5) (z := zw.toInt) rfl] at d45
        have e45 : zw = y45 := Int32.toInt_inj.mp (by omega)
        subst e45
        rw [vnl_at hx4 (n := 7) (z := zu.toInt) rfl] at d46
        have e46 : zu = y46 := Int64.toInt_inj.mp (by omega)
        subst e46
        rw [vnl_at hx4 (n := 8) (z := zd.toInt) rfl] at d47
        have e47 : zd = y47 := Int64.toInt_inj.mp (by omega)
        subst e47
        rw [vn_at hx4 (n := 9) (z := zq.toInt) rfl] at d48
        have e48 : zq = y48 := Int32.toInt_inj.mp (by omega)
        subst e48
        rw [vnl_at hx4 (n := 15) (z := zo3.toInt) rfl] at d49
        rw [vn_at hx4 (n := 11) (z := zi.toInt) rfl] at d410
        have hno : ¬ (mv < Z ∧ 1 ≤ ss) := by omega
        rw [if_neg hno] at hmk
        exact ih (i + 1) y49 y410 o3 mv pp ss ll ws4 (by omega) (by omega) (by omega) bo3 hm bp bs bl (pg3.fr hf4) (hmk.symm.trans hR) hw4 ((hfr.tr (wsub_ok (V := []) (by rfl) hf3)).tr (wsub_ok (V := []) (by rfl) hf4))
      rcases List.mem_cons.mp hx with rfl | hx
      · skip
        dsimp only at hlo4 hsk4 ⊢
        simp (config := { decide := true }) only [bnd_b, lin_b, lin_q, Nat.reduceAdd, Nat.zero_add, Nat.reduceEqDiff, reduceIte, and_true, Int.add_zero] at hb4 hl4
        obtain ⟨l40, rfl, p40⟩ := lo_ref ha hlo4
        obtain ⟨y41, l41, rfl, d41, p41⟩ := lo_int rfl p40
        obtain ⟨y42, l42, rfl, d42, p42⟩ := lo_int rfl p41
        obtain ⟨y43, l43, rfl, d43, p43⟩ := lo_int rfl p42
        obtain ⟨y44, l44, rfl, d44, p44⟩ := lo_int rfl p43
        obtain ⟨y45, l45, rfl, d45, p45⟩ := lo_int rfl p44
        obtain ⟨y46, l46, rfl, d46, p46⟩ := lo_lng rfl p45
        obtain ⟨y47, l47, rfl, d47, p47⟩ := lo_lng rfl p46
        obtain ⟨y48, l48, rfl, d48, p48⟩ := lo_int rfl p47
        obtain ⟨y49, l49, rfl, d49, p49⟩ := lo_lng rfl p48
        obtain ⟨y410, l410, rfl, d410, p410⟩ := lo_int rfl p49
        cases lo_nil p410
        rw [vn_at hx4 (n := 2) (z := zv.toInt) rfl] at d41
        have e41 : zv = y41 := Int32.toInt_inj.mp (by omega)
        subst e41
        rw [vn_at hx4 (n := 0) (z := 0) rfl] at d42
        have e42 : zt = y42 := Int32.toInt_inj.mp (by omega)
        subst e42
        rw [vn_at hx4 (n := 6) (z := zn.toInt) rfl] at d43
        have e43 : zn = y43 := Int32.toInt_inj.mp (by omega)
        subst e43
        rw [vn_at hx4 (n := 4) (z := zm.toInt) rfl] at d44
        have e44 : zm = y44 := Int32.toInt_inj.mp (by omega)
        subst e44
        rw [vn_at hx4 (n := 5) (z := zw.toInt) rfl] at d45
        have e45 : zw = y45 := Int32.toInt_inj.mp (by omega)
        subst e45
        rw [vnl_at hx4 (n := 7) (z := zu.toInt) rfl] at d46
        have e46 : zu = y46 := Int64.toInt_inj.mp (by omega)
        subst e46
        rw [vnl_at hx4 (n := 8) (z := zd.toInt) rfl] at d47
        have e47 : zd = y47 := Int64.toInt_inj.mp (by omega)
        subst e47
        rw [vn_at hx4 (n := 9) (z := zq.toInt) rfl] at d48
        have e48 : zq = y48 := Int32.toInt_inj.mp (by omega)
        subst e48
        rw [vnl_at hx4 (n := 15) (z := zo3.toInt) rfl] at d49
        rw [vn_at hx4 (n := 11) (z := zi.toInt) rfl] at d410
        obtain ⟨x40, s40, rfl, c40, g40⟩ := hsk4.cons
        obtain ⟨x41, s41, rfl, c41, g41⟩ := g40.cons
        obtain ⟨x42, s42, rfl, c42, g42⟩ := g41.cons
        obtain ⟨x43, s43, rfl, c43, g43⟩ := g42.cons
        cases g43.nil
        obtain ⟨u40, rfl, w40⟩ := dvn c40 (hx4.at (k := 16) rfl)
        obtain ⟨u41, rfl, w41⟩ := dvn c41 (hx4.at (k := 0) rfl)
        obtain ⟨u42, rfl, w42⟩ := dvn c42 (hx4.at (k := 0) rfl)
        have f43 := ref_of49 ha c43
        subst f43
        have hyes : mv < Z ∧ 1 ≤ ss := by omega
        rw [if_pos hyes] at hmk
        obtain ⟨w1, w2, w3, w4, w5, w6⟩ := pg3.fr hf4
        have by1 := yl_rg (k := K) (s := ss) (p := pp) bs.1 bs.2 bp.1
        refine hcallI (q := (167, 0, 128, 3, 6)) (M' := tb_m128) (cl := 49) (a := ar) (As := [.int u42, .int u41, .int u40]) (rest := []) (rets := [178]) (P := fun w i => po_P ad tys 108 t sl K (Z : Int) (mv : Int) pp ss ll ws4 w i) C (by decide) (tv_m151.1.1.1 (113, .invokevirtual 167, 3) (List.mem_of_getElem? (i := 65) rfl)) (tv_m151.2 _ (List.mem_of_getElem? (i := 19) rfl)) rfl rfl rfl rfl (by decide) (Nat.le_of_ble_eq_true rfl) rfl rfl rfl rfl hw4 ha (Nat.le_of_ble_eq_true rfl) ?_ ?_ ?_
        · intro pcr hp
          simp only [List.mem_cons, List.not_mem_nil, or_false] at hp
          rcases hp with rfl
          · exact tv_m128.1.1.1 (178, .ireturn, 1) (List.mem_of_getElem? (i := 114) rfl)
        · intro p2 e2 R2 s2 m2 args2 below2 meth2 c2 Q2 C2 kk2
          exact po_all (sl := sl) (mm_cx (by decide) C2) (Or.inr rfl) ht ha (by omega) (by omega) (by rw [← ezl]; omega) ⟨by omega, by omega, by omega, by omega, by omega, by omega⟩ (by omega) hw4 ⟨w1, w2, w3, w4, w5, w6⟩ (fun w i lv2 hP => kk2 178 w i lv2 (by decide) hP)
        · intro ws5 zr hP
          obtain ⟨hw5, hf5, er, p1, p2, p3, p4⟩ := hP
          have br : 0 ≤ zr.toInt ∧ zr.toInt ≤ 99 := by split at er <;> omega
          have f5 : ai_fr sl_W ws0 ws5 := ((hfr.tr (wsub_ok (V := []) (by rfl) hf3)).tr (wsub_ok (V := []) (by rfl) hf4)).tr (sl_po ht hf5)
          have b49 := ai_lrg y49
          refine hsum (st := (116, [(0, (0, 49, 0, 0)), (1, (1, 2, 0, 0)), (2, (1, 0, 0, (t : Int))), (3, (1, 6, 0, 0)), (4, (1, 4, 0, 0)), (5, (1, 5, 0, 0)), (6, (2, 7, 0, 0)), (8, (2, 8, 0, 0)), (10, (1, 9, 0, 0)), (11, (2, 10, 0, 0)), (13, (1, 11, 0, 0))], [(1, 12, 0, 0)], [(0, 0, false, 0, 0), (0, 2555, false, 1, 0), (0, 10, false, 2, 0), (0, 3, false, 3, 0), (0, 1, false, 4, 0), (0, 1, false, 5, 0), (0, 8, false, 6, 0), (-9223372036854775808, 9223372036854775807, false, 7, 0), (-9223372036854775808, 9223372036854775807, false, 8, 0), (0, 256, false, 9, 0), (-9223372036854775808, 9223372036854775807, false, 10, 0), (0, 7, false, 11, 0), (0, 99, false, 12, 0)], [], [])) (List.all_eq_true.mp sl_d t (List.mem_range.mpr (by omega))) rfl C (r := [0, 0, zv.toInt, zt.toInt, zm.toInt, zw.toInt, zn.toInt, zu.toInt, zd.toInt, zq.toInt, y49.toInt, y410.toInt, zr.toInt]) ⟨en_mk (by simp only [en_b, and_true]; omega) rfl, sb0, ⟨rfl, Or.inl ⟨rfl, ar, ha, rfl⟩, rfl, int_dv (z := zv.toInt) rfl (by omega), rfl, int_dv (z := 0) rfl (by omega), rfl, int_dv (z := zn.toInt) rfl (by omega), rfl, int_dv (z := zm.toInt) rfl (by omega), rfl, int_dv (z := zw.toInt) rfl (by omega), rfl, lng_dv (z := zu.toInt) rfl (by omega), rfl, lng_dv (z := zd.toInt) rfl (by omega), rfl, int_dv (z := zq.toInt) rfl (by omega), rfl, lng_dv (z := y49.toInt) rfl (by omega), rfl, int_dv (z := y410.toInt) rfl (by omega), trivial⟩, ⟨int_dv (z := zr.toInt) rfl (by omega), trivial⟩, hw5, k0, fun _ _ _ _ h => h, fun h => by cases h⟩ (fun x hx r6 lv6 st6 ws6 hx6 hb6 hl6 hs6 hlo6 hsk6 hw6 hV6 hf6 _ => ?_)
          have hx9 := List.mem_singleton.mp hx
          subst hx9
          dsimp only at hlo6 hsk6 ⊢
          obtain ⟨l60, rfl, p60⟩ := lo_ref ha hlo6
          obtain ⟨y61, l61, rfl, d61, p61⟩ := lo_int rfl p60
          obtain ⟨y62, l62, rfl, d62, p62⟩ := lo_int rfl p61
          obtain ⟨y63, l63, rfl, d63, p63⟩ := lo_int rfl p62
          obtain ⟨y64, l64, rfl, d64, p64⟩ := lo_int rfl p63
          obtain ⟨y65, l65, rfl, d65, p65⟩ := lo_int rfl p64
          obtain ⟨y66, l66, rfl, d66, p66⟩ := lo_lng rfl p65
          obtain ⟨y67, l67, rfl, d67, p67⟩ := lo_lng rfl p66
          obtain ⟨y68, l68, rfl, d68, p68⟩ := lo_int rfl p67
          obtain ⟨y69, l69, rfl, d69, p69⟩ := lo_lng rfl p68
          obtain ⟨y610, l610, rfl, d610, p610⟩ := lo_int rfl p69
          cases lo_nil p610
          rw [vn_at hx6 (n := 2) (z := zv.toInt) rfl] at d61
          have e61 : zv = y61 := Int32.toInt_inj.mp (by omega)
          subst e61
          rw [vn_at hx6 (n := 0) (z := 0) rfl] at d62
          have e62 : zt = y62 := Int32.toInt_inj.mp (by omega)
          subst e62
          rw [vn_at hx6 (n := 6) (z := zn.toInt) rfl] at d63
          have e63 : zn = y63 := Int32.toInt_inj.mp (by omega)
          subst e63
          rw [vn_at hx6 (n := 4) (z := zm.toInt) rfl] at d64
          have e64 : zm = y64 := Int32.toInt_inj.mp (by omega)
          subst e64
          rw [vn_at hx6 (n := 5) (z := zw.toInt) rfl] at d65
          have e65 : zw = y65 := Int32.toInt_inj.mp (by omega)
          subst e65
          rw [vnl_at hx6 (n := 7) (z := zu.toInt) rfl] at d66
          have e66 : zu = y66 := Int64.toInt_inj.mp (by omega)
          subst e66
          rw [vnl_at hx6 (n := 8) (z := zd.toInt) rfl] at d67
          have e67 : zd = y67 := Int64.toInt_inj.mp (by omega)
          subst e67
          rw [vn_at hx6 (n := 9) (z := zq.toInt) rfl] at d68
          have e68 : zq = y68 := Int32.toInt_inj.mp (by omega)
          subst e68
          rw [vnl_at hx6 (n := 10) (z := y49.toInt) rfl] at d69
          rw [vn_at hx6 (n := 11) (z := y410.toInt) rfl] at d610
          cases hsk6.nil
          have hmv : ∃ mv2 : Nat, (mv2 : Int) = (mv : Int) + zr.toInt ∧ mv2 = (if sl = true then mv else min Z (mv + (yl K ss pp).toNat)) := by
            refine ⟨_, ?_, rfl⟩
            split at er
            · rename_i hsl
              rw [if_pos hsl]
              omega
            · rename_i hsl
              rw [if_neg hsl]
              omega
          obtain ⟨mv2, em2, ed2⟩ := hmv
          rw [← ed2] at hmk
          have hlr : 0 ≤ (if 2 * yl K ss pp < ss then min 999 (ll + 1) else ll) ∧ (if 2 * yl K ss pp < ss then min 999 (ll + 1) else ll) ≤ 999 := by
            split <;> omega
          have pg5 : po_vi ws5 108 t K (Z : Int) (mv2 : Int) (min 99 (pp + 1)) (ss - 1) (if 2 * yl K ss pp < ss then min 999 (ll + 1) else ll) := ⟨w1.fr hf5 (wr_no fun q hq => by simp only [List.mem_cons, List.not_mem_nil, or_false] at hq; rcases hq with rfl | rfl | rfl <;> dsimp only <;> omega), w2.fr hf5 (wr_no fun q hq => by simp only [List.mem_cons, List.not_mem_nil, or_false] at hq; rcases hq with rfl | rfl | rfl <;> dsimp only <;> omega), p1.eq (by omega), p2, p4, p3⟩
          exact ih (i + 1) y69 y610 o3 mv2 (min 99 (pp + 1)) (ss - 1) _ ws6 (by omega) (by omega) (by omega) bo3 (by rw [ed2]; split <;> omega) (by omega) (by omega) hlr (pg5.fr hf6) (hmk.symm.trans hR) hw6 (f5.tr (wsub_ok (V := []) (by rfl) hf6))
      have hx0 := List.mem_singleton.mp hx
      subst hx0
      dsimp only at hlo4 hsk4 ⊢
      simp (config := { decide := true }) only [bnd_b, lin_b, lin_q, Nat.reduceAdd, Nat.zero_add, Nat.reduceEqDiff, reduceIte, and_true, Int.add_zero] at hb4 hl4
      cases hsk4.nil
      obtain ⟨l40, rfl, p40⟩ := lo_ref ha hlo4
      obtain ⟨y41, l41, rfl, d41, p41⟩ := lo_int rfl p40
      obtain ⟨y42, l42, rfl, d42, p42⟩ := lo_int rfl p41
      obtain ⟨y43, l43, rfl, d43, p43⟩ := lo_int rfl p42
      obtain ⟨y44, l44, rfl, d44, p44⟩ := lo_int rfl p43
      obtain ⟨y45, l45, rfl, d45, p45⟩ := lo_int rfl p44
      obtain ⟨y46, l46, rfl, d46, p46⟩ := lo_lng rfl p45
      obtain ⟨y47, l47, rfl, d47, p47⟩ := lo_lng rfl p46
      obtain ⟨y48, l48, rfl, d48, p48⟩ := lo_int rfl p47
      obtain ⟨y49, l49, rfl, d49, p49⟩ := lo_lng rfl p48
      obtain ⟨y410, l410, rfl, d410, p410⟩ := lo_int rfl p49
      cases lo_nil p410
      rw [vn_at hx4 (n := 2) (z := zv.toInt) rfl] at d41
      have e41 : zv = y41 := Int32.toInt_inj.mp (by omega)
      subst e41
      rw [vn_at hx4 (n := 0) (z := 0) rfl] at d42
      have e42 : zt = y42 := Int32.toInt_inj.mp (by omega)
      subst e42
      rw [vn_at hx4 (n := 6) (z := zn.toInt) rfl] at d43
      have e43 : zn = y43 := Int32.toInt_inj.mp (by omega)
      subst e43
      rw [vn_at hx4 (n := 4) (z := zm.toInt) rfl] at d44
      have e44 : zm = y44 := Int32.toInt_inj.mp (by omega)
      subst e44
      rw [vn_at hx4 (n := 5) (z := zw.toInt) rfl] at d45
      have e45 : zw = y45 := Int32.toInt_inj.mp (by omega)
      subst e45
      rw [vnl_at hx4 (n := 7) (z := zu.toInt) rfl] at d46
      have e46 : zu = y46 := Int64.toInt_inj.mp (by omega)
      subst e46
      rw [vnl_at hx4 (n := 8) (z := zd.toInt) rfl] at d47
      have e47 : zd = y47 := Int64.toInt_inj.mp (by omega)
      subst e47
      rw [vn_at hx4 (n := 9) (z := zq.toInt) rfl] at d48
      have e48 : zq = y48 := Int32.toInt_inj.mp (by omega)
      subst e48
      rw [vnl_at hx4 (n := 15) (z := zo3.toInt) rfl] at d49
      rw [vn_at hx4 (n := 11) (z := zi.toInt) rfl] at d410
      have hno : ¬ (mv < Z ∧ 1 ≤ ss) := by omega
      rw [if_neg hno] at hmk
      exact ih (i + 1) y49 y410 o3 mv pp ss ll ws4 (by omega) (by omega) (by omega) bo3 hm bp bs bl (pg3.fr hf4) (hmk.symm.trans hR) hw4 ((hfr.tr (wsub_ok (V := []) (by rfl) hf3)).tr (wsub_ok (V := []) (by rfl) hf4))
    rcases b2.symm with h1 | h1
    · skip
      rw [h1] at hbit
      refine hsum (st := (66, [(0, (0, 49, 0, 0)), (1, (1, 2, 0, 0)), (2, (1, 3, 0, 0)), (3, (1, 6, 0, 0)), (4, (1, 4, 0, 0)), (5, (1, 5, 0, 0)), (6, (2, 7, 0, 0)), (8, (2, 8, 0, 0)), (10, (1, 9, 0, 0)), (11, (2, 10, 0, 0)), (13, (1, 11, 0, 0))], [(1, 12, 0, 0)], [(0, 0, false, 0, 0), (0, 2555, false, 1, 0), (0, 10, false, 2, 0), (0, 3, false, 3, 0), (0, 1, false, 4, 0), (0, 1, false, 5, 0), (0, 8, false, 6, 0), (-9223372036854775808, 9223372036854775807, false, 7, 0), (-9223372036854775808, 9223372036854775807, false, 8, 0), (0, 256, false, 9, 0), (-9223372036854775808, 9223372036854775807, false, 10, 0), (0, 8, false, 11, 0), (1, 1, false, 12, 0)], [], [])) sl_e1 rfl C (r := [0, 0, zv.toInt, zt.toInt, zm.toInt, zw.toInt, zn.toInt, zu.toInt, zd.toInt, zq.toInt, zo.toInt, zi.toInt, zb.toInt]) ⟨en_mk (by simp only [en_b, and_true]; omega) rfl, sb0, ⟨rfl, Or.inl ⟨rfl, ar, ha, rfl⟩, rfl, int_dv (z := zv.toInt) rfl (by omega), rfl, int_dv (z := zt.toInt) rfl (by omega), rfl, int_dv (z := zn.toInt) rfl (by omega), rfl, int_dv (z := zm.toInt) rfl (by omega), rfl, int_dv (z := zw.toInt) rfl (by omega), rfl, lng_dv (z := zu.toInt) rfl (by omega), rfl, lng_dv (z := zd.toInt) rfl (by omega), rfl, int_dv (z := zq.toInt) rfl (by omega), rfl, lng_dv (z := zo.toInt) rfl (by omega), rfl, int_dv (z := zi.toInt) rfl (by omega), trivial⟩, ⟨int_dv (z := zb.toInt) rfl (by omega), trivial⟩, hw2, k0, fun _ _ _ _ h => h, fun h => by cases h⟩ (fun x hx r3 lv3 st3 ws3 hx3 hb3 hl3 hs3 hlo3 hsk3 hw3 hV3 hf3 _ => ?_)
      unfold sl_e1_S at hx
      have m3_2 := nm_x hx3 (k := 2) rfl
      have m3_3 := nm_x hx3 (k := 3) rfl
      have m3_4 := nm_x hx3 (k := 4) rfl
      have m3_5 := nm_x hx3 (k := 5) rfl
      have m3_6 := nm_x hx3 (k := 6) rfl
      have m3_7 := nm_x hx3 (k := 7) rfl
      have m3_8 := nm_x hx3 (k := 8) rfl
      have m3_9 := nm_x hx3 (k := 9) rfl
      have m3_10 := nm_x hx3 (k := 10) rfl
      have m3_11 := nm_x hx3 (k := 11) rfl
      have m3_12 := nm_x hx3 (k := 12) rfl
      have hx0 := List.mem_singleton.mp hx
      subst hx0
      dsimp only at hlo3 hsk3 ⊢
      simp (config := { decide := true }) only [bnd_b, lin_b, lin_q, Nat.reduceAdd, Nat.zero_add, Nat.reduceEqDiff, reduceIte, and_true, Int.add_zero] at hb3 hl3
      obtain ⟨l30, rfl, p30⟩ := lo_ref ha hlo3
      obtain ⟨y31, l31, rfl, d31, p31⟩ := lo_int rfl p30
      obtain ⟨y32, l32, rfl, d32, p32⟩ := lo_int rfl p31
      obtain ⟨y33, l33, rfl, d33, p33⟩ := lo_int rfl p32
      obtain ⟨y34, l34, rfl, d34, p34⟩ := lo_int rfl p33
      obtain ⟨y35, l35, rfl, d35, p35⟩ := lo_int rfl p34
      obtain ⟨y36, l36, rfl, d36, p36⟩ := lo_lng rfl p35
      obtain ⟨y37, l37, rfl, d37, p37⟩ := lo_lng rfl p36
      obtain ⟨y38, l38, rfl, d38, p38⟩ := lo_int rfl p37
      obtain ⟨y39, l39, rfl, d39, p39⟩ := lo_lng rfl p38
      obtain ⟨y310, l310, rfl, d310, p310⟩ := lo_int rfl p39
      obtain ⟨y311, l311, rfl, d311, p311⟩ := lo_int rfl p310
      cases lo_nil p311
      rw [vn_at hx3 (n := 2) (z := zv.toInt) rfl] at d31
      have e31 : zv = y31 := Int32.toInt_inj.mp (by omega)
      subst e31
      rw [vn_at hx3 (n := 3) (z := zt.toInt) rfl] at d32
      have e32 : zt = y32 := Int32.toInt_inj.mp (by omega)
      subst e32
      rw [vn_at hx3 (n := 6) (z := zn.toInt) rfl] at d33
      have e33 : zn = y33 := Int32.toInt_inj.mp (by omega)
      subst e33
      rw [vn_at hx3 (n := 4) (z := zm.toInt) rfl] at d34
      have e34 : zm = y34 := Int32.toInt_inj.mp (by omega)
      subst e34
      rw [vn_at hx3 (n := 5) (z := zw.toInt) rfl] at d35
      have e35 : zw = y35 := Int32.toInt_inj.mp (by omega)
      subst e35
      rw [vnl_at hx3 (n := 7) (z := zu.toInt) rfl] at d36
      have e36 : zu = y36 := Int64.toInt_inj.mp (by omega)
      subst e36
      rw [vnl_at hx3 (n := 8) (z := zd.toInt) rfl] at d37
      have e37 : zd = y37 := Int64.toInt_inj.mp (by omega)
      subst e37
      rw [vn_at hx3 (n := 9) (z := zq.toInt) rfl] at d38
      have e38 : zq = y38 := Int32.toInt_inj.mp (by omega)
      subst e38
      rw [vnl_at hx3 (n := 10) (z := zo.toInt) rfl] at d39
      have e39 : zo = y39 := Int64.toInt_inj.mp (by omega)
      subst e39
      rw [vn_at hx3 (n := 11) (z := zi.toInt) rfl] at d310
      have e310 : zi = y310 := Int32.toInt_inj.mp (by omega)
      subst e310
      rw [vn_at hx3 (n := 0) (z := 0) rfl] at d311
      obtain ⟨x30, s30, rfl, c30, g30⟩ := hsk3.cons
      obtain ⟨x31, s31, rfl, c31, g31⟩ := g30.cons
      cases g31.nil
      obtain ⟨u30, rfl, w30⟩ := dvl c30 (hx3.at (k := 2) rfl)
      obtain ⟨u31, rfl, w31⟩ := dvl c31 (hx3.at (k := 10) rfl)
      have e30 : u30.toInt = v := by omega
      have e31 : u31.toInt = o := by omega
      obtain ⟨m1, m2⟩ := mulB bo.1 bo.2 (show 0 ≤ v by omega) (show v ≤ 10 by omega)
      refine hlmul C (tv_m151.1.1.1 (94, .lmul, 1) (List.mem_of_getElem? (i := 54) rfl)) (by rw [e30, e31]; omega) (fun z4 e4 => ?_)
      rw [e30, e31] at e4
      refine rest ws3 z4 y311 (o * v) true e4 ⟨m1, by omega⟩ (by show _ = (1 : Int); omega) ?_ hw3 (f2.tr hf3)
      show (if mv < Z ∧ 1 ≤ ss then (if q / 2 ^ i % 2 = 1 then mkF K v Z f fu (q / 2 ^ i / 2) (o * v) mv (min 99 (pp + 1)) (ss - 1) else mkF K v Z f fu (q / 2 ^ i / 2) (o * (10 - v)) (min Z (mv + (yl K ss pp).toNat)) (min 99 (pp + 1)) (ss - 1)) else (if q / 2 ^ i % 2 = 1 then mkF K v Z f fu (q / 2 ^ i / 2) (o * v) mv pp ss else mkF K v Z f fu (q / 2 ^ i / 2) (o * (10 - v)) mv pp ss)) = _
      rw [hdv, h1]
      rfl
    · skip
      rw [h1] at hbit
      refine hsum (st := (66, [(0, (0, 49, 0, 0)), (1, (1, 2, 0, 0)), (2, (1, 3, 0, 0)), (3, (1, 6, 0, 0)), (4, (1, 4, 0, 0)), (5, (1, 5, 0, 0)), (6, (2, 7, 0, 0)), (8, (2, 8, 0, 0)), (10, (1, 9, 0, 0)), (11, (2, 10, 0, 0)), (13, (1, 11, 0, 0))], [(1, 12, 0, 0)], [(0, 0, false, 0, 0), (0, 2555, false, 1, 0), (0, 10, false, 2, 0), (0, 3, false, 3, 0), (0, 1, false, 4, 0), (0, 1, false, 5, 0), (0, 8, false, 6, 0), (-9223372036854775808, 9223372036854775807, false, 7, 0), (-9223372036854775808, 9223372036854775807, false, 8, 0), (0, 256, false, 9, 0), (-9223372036854775808, 9223372036854775807, false, 10, 0), (0, 8, false, 11, 0), (0, 0, false, 12, 0)], [], [])) sl_e0 rfl C (r := [0, 0, zv.toInt, zt.toInt, zm.toInt, zw.toInt, zn.toInt, zu.toInt, zd.toInt, zq.toInt, zo.toInt, zi.toInt, zb.toInt]) ⟨en_mk (by simp only [en_b, and_true]; omega) rfl, sb0, ⟨rfl, Or.inl ⟨rfl, ar, ha, rfl⟩, rfl, int_dv (z := zv.toInt) rfl (by omega), rfl, int_dv (z := zt.toInt) rfl (by omega), rfl, int_dv (z := zn.toInt) rfl (by omega), rfl, int_dv (z := zm.toInt) rfl (by omega), rfl, int_dv (z := zw.toInt) rfl (by omega), rfl, lng_dv (z := zu.toInt) rfl (by omega), rfl, lng_dv (z := zd.toInt) rfl (by omega), rfl, int_dv (z := zq.toInt) rfl (by omega), rfl, lng_dv (z := zo.toInt) rfl (by omega), rfl, int_dv (z := zi.toInt) rfl (by omega), trivial⟩, ⟨int_dv (z := zb.toInt) rfl (by omega), trivial⟩, hw2, k0, fun _ _ _ _ h => h, fun h => by cases h⟩ (fun x hx r3 lv3 st3 ws3 hx3 hb3 hl3 hs3 hlo3 hsk3 hw3 hV3 hf3 _ => ?_)
      unfold sl_e0_S at hx
      have m3_2 := nm_x hx3 (k := 2) rfl
      have m3_3 := nm_x hx3 (k := 3) rfl
      have m3_4 := nm_x hx3 (k := 4) rfl
      have m3_5 := nm_x hx3 (k := 5) rfl
      have m3_6 := nm_x hx3 (k := 6) rfl
      have m3_7 := nm_x hx3 (k := 7) rfl
      have m3_8 := nm_x hx3 (k := 8) rfl
      have m3_9 := nm_x hx3 (k := 9) rfl
      have m3_10 := nm_x hx3 (k := 10) rfl
      have m3_11 := nm_x hx3 (k := 11) rfl
      have m3_12 := nm_x hx3 (k := 12) rfl
      have hx0 := List.mem_singleton.mp hx
      subst hx0
      dsimp only at hlo3 hsk3 ⊢
      simp (config := { decide := true }) only [bnd_b, lin_b, lin_q, Nat.reduceAdd, Nat.zero_add, Nat.reduceEqDiff, reduceIte, and_true, Int.add_zero] at hb3 hl3
      obtain ⟨l30, rfl, p30⟩ := lo_ref ha hlo3
      obtain ⟨y31, l31, rfl, d31, p31⟩ := lo_int rfl p30
      obtain ⟨y32, l32, rfl, d32, p32⟩ := lo_int rfl p31
      obtain ⟨y33, l33, rfl, d33, p33⟩ := lo_int rfl p32
      obtain ⟨y34, l34, rfl, d34, p34⟩ := lo_int rfl p33
      obtain ⟨y35, l35, rfl, d35, p35⟩ := lo_int rfl p34
      obtain ⟨y36, l36, rfl, d36, p36⟩ := lo_lng rfl p35
      obtain ⟨y37, l37, rfl, d37, p37⟩ := lo_lng rfl p36
      obtain ⟨y38, l38, rfl, d38, p38⟩ := lo_int rfl p37
      obtain ⟨y39, l39, rfl, d39, p39⟩ := lo_lng rfl p38
      obtain ⟨y310, l310, rfl, d310, p310⟩ := lo_int rfl p39
      obtain ⟨y311, l311, rfl, d311, p311⟩ := lo_int rfl p310
      cases lo_nil p311
      rw [vn_at hx3 (n := 2) (z := zv.toInt) rfl] at d31
      have e31 : zv = y31 := Int32.toInt_inj.mp (by omega)
      subst e31
      rw [vn_at hx3 (n := 3) (z := zt.toInt) rfl] at d32
      have e32 : zt = y32 := Int32.toInt_inj.mp (by omega)
      subst e32
      rw [vn_at hx3 (n := 6) (z := zn.toInt) rfl] at d33
      have e33 : zn = y33 := Int32.toInt_inj.mp (by omega)
      subst e33
      rw [vn_at hx3 (n := 4) (z := zm.toInt) rfl] at d34
      have e34 : zm = y34 := Int32.toInt_inj.mp (by omega)
      subst e34
      rw [vn_at hx3 (n := 5) (z := zw.toInt) rfl] at d35
      have e35 : zw = y35 := Int32.toInt_inj.mp (by omega)
      subst e35
      rw [vnl_at hx3 (n := 7) (z := zu.toInt) rfl] at d36
      have e36 : zu = y36 := Int64.toInt_inj.mp (by omega)
      subst e36
      rw [vnl_at hx3 (n := 8) (z := zd.toInt) rfl] at d37
      have e37 : zd = y37 := Int64.toInt_inj.mp (by omega)
      subst e37
      rw [vn_at hx3 (n := 9) (z := zq.toInt) rfl] at d38
      have e38 : zq = y38 := Int32.toInt_inj.mp (by omega)
      subst e38
      rw [vnl_at hx3 (n := 10) (z := zo.toInt) rfl] at d39
      have e39 : zo = y39 := Int64.toInt_inj.mp (by omega)
      subst e39
      rw [vn_at hx3 (n := 11) (z := zi.toInt) rfl] at d310
      have e310 : zi = y310 := Int32.toInt_inj.mp (by omega)
      subst e310
      rw [vn_at hx3 (n := 0) (z := 0) rfl] at d311
      obtain ⟨x30, s30, rfl, c30, g30⟩ := hsk3.cons
      obtain ⟨x31, s31, rfl, c31, g31⟩ := g30.cons
      cases g31.nil
      obtain ⟨u30, rfl, w30⟩ := lng_any c30
      unfold vn at w30
      dsimp only at w30
      obtain ⟨u31, rfl, w31⟩ := dvl c31 (hx3.at (k := 10) rfl)
      have e30 : u30.toInt = (10 - v) := by omega
      have e31 : u31.toInt = o := by omega
      obtain ⟨m1, m2⟩ := mulB bo.1 bo.2 (show 0 ≤ (10 - v) by omega) (show (10 - v) ≤ 10 by omega)
      refine hlmul C (tv_m151.1.1.1 (94, .lmul, 1) (List.mem_of_getElem? (i := 54) rfl)) (by rw [e30, e31]; omega) (fun z4 e4 => ?_)
      rw [e30, e31] at e4
      refine rest ws3 z4 y311 (o * (10 - v)) false e4 ⟨m1, by omega⟩ (by show _ = (0 : Int); omega) ?_ hw3 (f2.tr hf3)
      show (if mv < Z ∧ 1 ≤ ss then (if q / 2 ^ i % 2 = 1 then mkF K v Z f fu (q / 2 ^ i / 2) (o * v) mv (min 99 (pp + 1)) (ss - 1) else mkF K v Z f fu (q / 2 ^ i / 2) (o * (10 - v)) (min Z (mv + (yl K ss pp).toNat)) (min 99 (pp + 1)) (ss - 1)) else (if q / 2 ^ i % 2 = 1 then mkF K v Z f fu (q / 2 ^ i / 2) (o * v) mv pp ss else mkF K v Z f fu (q / 2 ^ i / 2) (o * (10 - v)) mv pp ss)) = _
      rw [hdv, h1]
      rfl
theorem sl_out {ar t n Z M0 : Nat} {K v PP SS LL : Int} {zv zt zn zm zw : Int32} {zd : Int64} {ws0 : va_W} (C : ai_cx tb_m151 9 p R9 s m args c D tys A9 b L sx cells slots) (ha : ad[49]? = some ar) (ht : t < 4) (et : zt.toInt = t) (ev : zv.toInt = v) (hv : 0 ≤ v ∧ v ≤ 10) (en : zn.toInt = n) (hn : n < 9) (hZ : 1 ≤ Z ∧ Z ≤ 99) (hK : 0 ≤ K ∧ K ≤ 3) (bm : 0 ≤ zm.toInt ∧ zm.toInt ≤ 1) (bw : 0 ≤ zw.toInt ∧ zw.toInt ≤ 1) (hM : M0 ≤ Z) (bP : 0 ≤ PP ∧ PP ≤ 99) (bS : 0 ≤ SS ∧ SS ≤ 20) (bL : 0 ≤ LL ∧ LL ≤ 999) (hpg0 : po_vi ws0 0 t K (Z : Int) (M0 : Int) PP SS LL) (ed : zd.toInt = tenP n)
    (kk : ∀ (ws' : va_W) (z : Int64) (lv' : List (Nat × Value)), ai_wd tb_TY ad tys ws' → ai_fr sl_W ws0 ws' → z.toInt = ansF (wv K v Z (slF Z zm.toInt) n M0 PP SS).toNat (tenP n).toNat zw.toInt → hG tb_m151 p l e R9 s m args below meth c D A9 cells slots Q 179 lv' [.long z] ws') :
    ∀ (fu i : Nat) (zu : Int64) (zq : Int32) (ws : va_W), i + fu = 2 ^ n → zq.toInt = i → zu.toInt = sumN (fun q => mkF K v Z (slF Z zm.toInt) n q 1 M0 PP SS) i → ai_wd tb_TY ad tys ws → ai_fr sl_W ws0 ws → hG tb_m151 p l e R9 s m args below meth c D A9 cells slots Q 32 [(0, .ref ar), (1, .int zv), (2, .int zt), (3, .int zn), (4, .int zm), (5, .int zw), (6, .long zu), (8, .long zd), (10, .int zq)] [] ws := by
  have hf9 : ∀ x, 0 ≤ slF Z zm.toInt x ∧ (x ≤ Z → slF Z zm.toInt x ≤ 99) := fun x => by
    unfold slF
    split
    · omega
    · split <;> omega
  have p8 := pow_8 n hn
  have t8 := tenP_8 n (by omega)
  have t1 := tenP_pos n
  intro fu
  induction fu with
  | zero =>
    intro i zu zq ws hf eq eu hw hfr
    refine hildw (j := 10) (x := zq) C (tv_m151.1.1.1 (32, .iload 10, 2) (List.mem_of_getElem? (i := 17) rfl)) (List.mem_of_getElem? (i := 8) rfl) ?_
    have bu := ai_lrg zu
    have bd := ai_lrg zd
    refine hsum (st := (34, [(0, (0, 49, 0, 0)), (1, (1, 2, 0, 0)), (2, (1, 3, 0, 0)), (3, (1, 6, 0, 0)), (4, (1, 4, 0, 0)), (5, (1, 5, 0, 0)), (6, (2, 7, 0, 0)), (8, (2, 8, 0, 0)), (10, (1, 9, 0, 0))], [(1, 9, 0, 0)], [(0, 0, false, 0, 0), (0, 2555, false, 1, 0), (0, 10, false, 2, 0), (0, 3, false, 3, 0), (0, 1, false, 4, 0), (0, 1, false, 5, 0), (0, 8, false, 6, 0), (-9223372036854775808, 9223372036854775807, false, 7, 0), (-9223372036854775808, 9223372036854775807, false, 8, 0), (0, 256, false, 9, 0)], [], [])) sl_s rfl C (r := [0, 0, zv.toInt, zt.toInt, zm.toInt, zw.toInt, zn.toInt, zu.toInt, zd.toInt, zq.toInt]) ⟨en_mk (by simp only [en_b, and_true]; omega) rfl, sb0, ⟨rfl, Or.inl ⟨rfl, ar, ha, rfl⟩, rfl, int_dv (z := zv.toInt) rfl (by omega), rfl, int_dv (z := zt.toInt) rfl (by omega), rfl, int_dv (z := zn.toInt) rfl (by omega), rfl, int_dv (z := zm.toInt) rfl (by omega), rfl, int_dv (z := zw.toInt) rfl (by omega), rfl, lng_dv (z := zu.toInt) rfl (by omega), rfl, lng_dv (z := zd.toInt) rfl (by omega), rfl, int_dv (z := zq.toInt) rfl (by omega), trivial⟩, ⟨int_dv (z := zq.toInt) rfl (by omega), trivial⟩, hw, k0, fun _ _ _ _ h => h, fun h => by cases h⟩ (fun x hx r1 lv1 st1 ws1 hx1 hb1 hl1 hs1 hlo1 hsk1 hw1 hV1 hf1 _ => ?_)
    have hx9 := List.mem_singleton.mp hx
    subst hx9
    dsimp only at hlo1 hsk1 ⊢
    obtain ⟨l10, rfl, p10⟩ := lo_ref ha hlo1
    obtain ⟨y11, l11, rfl, d11, p11⟩ := lo_int rfl p10
    obtain ⟨y12, l12, rfl, d12, p12⟩ := lo_int rfl p11
    obtain ⟨y13, l13, rfl, d13, p13⟩ := lo_int rfl p12
    obtain ⟨y14, l14, rfl, d14, p14⟩ := lo_int rfl p13
    obtain ⟨y15, l15, rfl, d15, p15⟩ := lo_int rfl p14
    obtain ⟨y16, l16, rfl, d16, p16⟩ := lo_lng rfl p15
    obtain ⟨y17, l17, rfl, d17, p17⟩ := lo_lng rfl p16
    obtain ⟨y18, l18, rfl, d18, p18⟩ := lo_int rfl p17
    cases lo_nil p18
    rw [vn_at hx1 (n := 2) (z := zv.toInt) rfl] at d11
    have e11 : zv = y11 := Int32.toInt_inj.mp (by omega)
    subst e11
    rw [vn_at hx1 (n := 3) (z := zt.toInt) rfl] at d12
    have e12 : zt = y12 := Int32.toInt_inj.mp (by omega)
    subst e12
    rw [vn_at hx1 (n := 6) (z := zn.toInt) rfl] at d13
    have e13 : zn = y13 := Int32.toInt_inj.mp (by omega)
    subst e13
    rw [vn_at hx1 (n := 4) (z := zm.toInt) rfl] at d14
    have e14 : zm = y14 := Int32.toInt_inj.mp (by omega)
    subst e14
    rw [vn_at hx1 (n := 5) (z := zw.toInt) rfl] at d15
    have e15 : zw = y15 := Int32.toInt_inj.mp (by omega)
    subst e15
    rw [vnl_at hx1 (n := 7) (z := zu.toInt) rfl] at d16
    have e16 : zu = y16 := Int64.toInt_inj.mp (by omega)
    subst e16
    rw [vnl_at hx1 (n := 8) (z := zd.toInt) rfl] at d17
    have e17 : zd = y17 := Int64.toInt_inj.mp (by omega)
    subst e17
    rw [vn_at hx1 (n := 9) (z := zq.toInt) rfl] at d18
    have e18 : zq = y18 := Int32.toInt_inj.mp (by omega)
    subst e18
    obtain ⟨x10, s10, rfl, c10, g10⟩ := hsk1.cons
    obtain ⟨x11, s11, rfl, c11, g11⟩ := g10.cons
    obtain ⟨x12, s12, rfl, c12, g12⟩ := g11.cons
    cases g12.nil
    obtain ⟨u10, rfl, w10⟩ := dvn c10 (hx1.at (k := 6) rfl)
    obtain ⟨u11, rfl, w11⟩ := dvn c11 (hx1.at (k := 0) rfl)
    obtain ⟨u12, rfl, w12⟩ := dvn c12 (hx1.at (k := 9) rfl)
    have q1 : u10 = Int32.ofNat n := i32_of (by omega) (by omega)
    have q2 : u11 = 1 := Int32.toInt_inj.mp (by rw [show u11.toInt = 1 by omega]; decide)
    rw [q1, q2]
    have hsl := shl_b n hn
    refine hishl C (tv_m151.1.1.1 (36, .ishl, 1) (List.mem_of_getElem? (i := 20) rfl)) ?_
    generalize (1 : Int32) <<< (Int32.ofNat n &&& 31) = zp at hsl ⊢
    have p1 : 1 ≤ 2 ^ n := Nat.one_le_two_pow
    have sba : ai_sb ws1 [0, 0, zv.toInt, zt.toInt, zm.toInt, zw.toInt, zn.toInt, zu.toInt, zd.toInt, zq.toInt, zp.toInt] [(5, 9, 10, 9, 0)] := fun q hq => by
      rw [List.mem_singleton.mp hq]
      refine ⟨zq.toInt, zp.toInt, zq.toInt, rfl, rfl, rfl, fun h0 => ?_, fun h0 => ?_, fun h0 => ?_, fun h0 => ?_, fun h0 => ?_, fun h0 => ?_⟩
      all_goals dsimp only at h0 ⊢
      all_goals omega
    have e12 : u12 = zq := Int32.toInt_inj.mp (by omega)
    subst e12
    refine hsum (st := (37, [(0, (0, 49, 0, 0)), (1, (1, 2, 0, 0)), (2, (1, 3, 0, 0)), (3, (1, 6, 0, 0)), (4, (1, 4, 0, 0)), (5, (1, 5, 0, 0)), (6, (2, 7, 0, 0)), (8, (2, 8, 0, 0)), (10, (1, 9, 0, 0))], [(1, 10, 0, 0), (1, 9, 0, 0)], [(0, 0, false, 0, 0), (0, 2555, false, 1, 0), (0, 10, false, 2, 0), (0, 3, false, 3, 0), (0, 1, false, 4, 0), (0, 1, false, 5, 0), (0, 8, false, 6, 0), (-9223372036854775808, 9223372036854775807, false, 7, 0), (-9223372036854775808, 9223372036854775807, false, 8, 0), (0, 256, false, 9, 0), (1, 256, false, 10, 0)], [], [(5, 9, 10, 9, 0)])) sl_y rfl C (r := [0, 0, zv.toInt, zt.toInt, zm.toInt, zw.toInt, zn.toInt, zu.toInt, zd.toInt, u12.toInt, zp.toInt]) ⟨en_mk (by simp only [en_b, and_true]; omega) rfl, sba, ⟨rfl, Or.inl ⟨rfl, ar, ha, rfl⟩, rfl, int_dv (z := zv.toInt) rfl (by omega), rfl, int_dv (z := zt.toInt) rfl (by omega), rfl, int_dv (z := zn.toInt) rfl (by omega), rfl, int_dv (z := zm.toInt) rfl (by omega), rfl, int_dv (z := zw.toInt) rfl (by omega), rfl, lng_dv (z := zu.toInt) rfl (by omega), rfl, lng_dv (z := zd.toInt) rfl (by omega), rfl, int_dv (z := u12.toInt) rfl (by omega), trivial⟩, ⟨int_dv (z := zp.toInt) rfl (by omega), int_dv (z := u12.toInt) rfl (by omega), trivial⟩, hw1, k0, fun _ _ _ _ h => h, fun h => by cases h⟩ (fun x hx r2 lv2 st2 ws2 hx2 hb2 hl2 hs2 hlo2 hsk2 hw2 hV2 hf2 _ => ?_)
    unfold sl_y_S at hx
    have m2_2 := nm_x hx2 (k := 2) rfl
    have m2_3 := nm_x hx2 (k := 3) rfl
    have m2_4 := nm_x hx2 (k := 4) rfl
    have m2_5 := nm_x hx2 (k := 5) rfl
    have m2_6 := nm_x hx2 (k := 6) rfl
    have m2_7 := nm_x hx2 (k := 7) rfl
    have m2_8 := nm_x hx2 (k := 8) rfl
    have m2_9 := nm_x hx2 (k := 9) rfl
    have m2_10 := nm_x hx2 (k := 10) rfl
    have hx0 := List.mem_singleton.mp hx
    subst hx0
    dsimp only at hlo2 hsk2 ⊢
    simp (config := { decide := true }) only [bnd_b, lin_b, lin_q, Nat.reduceAdd, Nat.zero_add, Nat.reduceEqDiff, reduceIte, and_true, Int.add_zero] at hb2 hl2
    obtain ⟨l20, rfl, p20⟩ := lo_ref ha hlo2
    obtain ⟨y21, l21, rfl, d21, p21⟩ := lo_int rfl p20
    obtain ⟨y22, l22, rfl, d22, p22⟩ := lo_int rfl p21
    obtain ⟨y23, l23, rfl, d23, p23⟩ := lo_int rfl p22
    obtain ⟨y24, l24, rfl, d24, p24⟩ := lo_int rfl p23
    obtain ⟨y25, l25, rfl, d25, p25⟩ := lo_int rfl p24
    obtain ⟨y26, l26, rfl, d26, p26⟩ := lo_lng rfl p25
    obtain ⟨y27, l27, rfl, d27, p27⟩ := lo_lng rfl p26
    obtain ⟨y28, l28, rfl, d28, p28⟩ := lo_int rfl p27
    cases lo_nil p28
    rw [vn_at hx2 (n := 2) (z := zv.toInt) rfl] at d21
    have e21 : zv = y21 := Int32.toInt_inj.mp (by omega)
    subst e21
    rw [vn_at hx2 (n := 3) (z := zt.toInt) rfl] at d22
    have e22 : zt = y22 := Int32.toInt_inj.mp (by omega)
    subst e22
    rw [vn_at hx2 (n := 6) (z := zn.toInt) rfl] at d23
    have e23 : zn = y23 := Int32.toInt_inj.mp (by omega)
    subst e23
    rw [vn_at hx2 (n := 4) (z := zm.toInt) rfl] at d24
    have e24 : zm = y24 := Int32.toInt_inj.mp (by omega)
    subst e24
    rw [vn_at hx2 (n := 5) (z := zw.toInt) rfl] at d25
    have e25 : zw = y25 := Int32.toInt_inj.mp (by omega)
    subst e25
    rw [vnl_at hx2 (n := 7) (z := zu.toInt) rfl] at d26
    have e26 : zu = y26 := Int64.toInt_inj.mp (by omega)
    subst e26
    rw [vnl_at hx2 (n := 8) (z := zd.toInt) rfl] at d27
    have e27 : zd = y27 := Int64.toInt_inj.mp (by omega)
    subst e27
    rw [vn_at hx2 (n := 9) (z := u12.toInt) rfl] at d28
    have e28 : u12 = y28 := Int32.toInt_inj.mp (by omega)
    subst e28
    obtain ⟨x20, s20, rfl, c20, g20⟩ := hsk2.cons
    obtain ⟨x21, s21, rfl, c21, g21⟩ := g20.cons
    obtain ⟨x22, s22, rfl, c22, g22⟩ := g21.cons
    cases g22.nil
    obtain ⟨u20, rfl, w20⟩ := dvn c20 (hx2.at (k := 5) rfl)
    obtain ⟨u21, rfl, w21⟩ := dvl c21 (hx2.at (k := 8) rfl)
    obtain ⟨u22, rfl, w22⟩ := dvl c22 (hx2.at (k := 7) rfl)
    have hsum := mk_sum K v Z (slF Z zm.toInt) n 1 M0 PP SS
    rw [Int.one_mul] at hsum
    rw [show i = 2 ^ n by omega, hsum] at eu
    have hw0 : 0 ≤ wv K v Z (slF Z zm.toInt) n M0 PP SS := by
      rw [← hsum]
      exact sumN_nn fun q _ => mk_nn hv (fun m => (hf9 m).1) n q 1 M0 PP SS (by omega)
    refine hcallSJ (q := (209, 1, 150, 3, 0)) (M' := tb_m150) (As := [.long u22, .long u21, .int u20]) (rest := []) (rets := [44]) (P := fun w' z => ai_wd tb_TY ad tys w' ∧ ai_fr [] ws2 w' ∧ z.toInt = ansF (wv K v Z (slF Z zm.toInt) n M0 PP SS).toNat (tenP n).toNat zw.toInt) C (by decide) (tv_m151.1.1.1 (176, .invokestatic 209, 3) (List.mem_of_getElem? (i := 97) rfl)) (tv_m151.2 _ (List.mem_of_getElem? (i := 30) rfl)) (Or.inl rfl) rfl rfl rfl (Nat.le_of_ble_eq_true rfl) (Nat.le_of_ble_eq_true rfl) rfl (Nat.le_of_ble_eq_true rfl) ?_ ?_ ?_
    · intro pcr hp
      rw [List.mem_singleton.mp hp]
      exact tv_m150.1.1.1 (44, .lreturn, 1) (List.mem_of_getElem? (i := 24) rfl)
    · intro p2 e2 R2 s2 m2 args2 below2 meth2 c2 Q2 C2 kk2
      exact lo2_all C2 (u := (wv K v Z (slF Z zm.toInt) n M0 PP SS).toNat) (v := (tenP n).toNat) (by omega) (by omega) (by omega) (fun z lv2 h => kk2 44 ws2 z lv2 (by decide) ⟨hw2, fun _ _ _ _ h => h, by rw [h, show u20.toInt = zw.toInt by omega]⟩)
    · intro ws3 z3 hP
      exact kk ws3 z3 _ hP.1 (hfr.tr (wsub_ok (V := []) (by rfl) ((hf1.tr hf2).tr hP.2.1))) hP.2.2
  | succ fu ih =>
    intro i zu zq ws hf eq eu hw hfr
    refine hildw (j := 10) (x := zq) C (tv_m151.1.1.1 (32, .iload 10, 2) (List.mem_of_getElem? (i := 17) rfl)) (List.mem_of_getElem? (i := 8) rfl) ?_
    have bu := ai_lrg zu
    have bd := ai_lrg zd
    refine hsum (st := (34, [(0, (0, 49, 0, 0)), (1, (1, 2, 0, 0)), (2, (1, 3, 0, 0)), (3, (1, 6, 0, 0)), (4, (1, 4, 0, 0)), (5, (1, 5, 0, 0)), (6, (2, 7, 0, 0)), (8, (2, 8, 0, 0)), (10, (1, 9, 0, 0))], [(1, 9, 0, 0)], [(0, 0, false, 0, 0), (0, 2555, false, 1, 0), (0, 10, false, 2, 0), (0, 3, false, 3, 0), (0, 1, false, 4, 0), (0, 1, false, 5, 0), (0, 8, false, 6, 0), (-9223372036854775808, 9223372036854775807, false, 7, 0), (-9223372036854775808, 9223372036854775807, false, 8, 0), (0, 256, false, 9, 0)], [], [])) sl_s rfl C (r := [0, 0, zv.toInt, zt.toInt, zm.toInt, zw.toInt, zn.toInt, zu.toInt, zd.toInt, zq.toInt]) ⟨en_mk (by simp only [en_b, and_true]; omega) rfl, sb0, ⟨rfl, Or.inl ⟨rfl, ar, ha, rfl⟩, rfl, int_dv (z := zv.toInt) rfl (by omega), rfl, int_dv (z := zt.toInt) rfl (by omega), rfl, int_dv (z := zn.toInt) rfl (by omega), rfl, int_dv (z := zm.toInt) rfl (by omega), rfl, int_dv (z := zw.toInt) rfl (by omega), rfl, lng_dv (z := zu.toInt) rfl (by omega), rfl, lng_dv (z := zd.toInt) rfl (by omega), rfl, int_dv (z := zq.toInt) rfl (by omega), trivial⟩, ⟨int_dv (z := zq.toInt) rfl (by omega), trivial⟩, hw, k0, fun _ _ _ _ h => h, fun h => by cases h⟩ (fun x hx r1 lv1 st1 ws1 hx1 hb1 hl1 hs1 hlo1 hsk1 hw1 hV1 hf1 _ => ?_)
    have hx9 := List.mem_singleton.mp hx
    subst hx9
    dsimp only at hlo1 hsk1 ⊢
    obtain ⟨l10, rfl, p10⟩ := lo_ref ha hlo1
    obtain ⟨y11, l11, rfl, d11, p11⟩ := lo_int rfl p10
    obtain ⟨y12, l12, rfl, d12, p12⟩ := lo_int rfl p11
    obtain ⟨y13, l13, rfl, d13, p13⟩ := lo_int rfl p12
    obtain ⟨y14, l14, rfl, d14, p14⟩ := lo_int rfl p13
    obtain ⟨y15, l15, rfl, d15, p15⟩ := lo_int rfl p14
    obtain ⟨y16, l16, rfl, d16, p16⟩ := lo_lng rfl p15
    obtain ⟨y17, l17, rfl, d17, p17⟩ := lo_lng rfl p16
    obtain ⟨y18, l18, rfl, d18, p18⟩ := lo_int rfl p17
    cases lo_nil p18
    rw [vn_at hx1 (n := 2) (z := zv.toInt) rfl] at d11
    have e11 : zv = y11 := Int32.toInt_inj.mp (by omega)
    subst e11
    rw [vn_at hx1 (n := 3) (z := zt.toInt) rfl] at d12
    have e12 : zt = y12 := Int32.toInt_inj.mp (by omega)
    subst e12
    rw [vn_at hx1 (n := 6) (z := zn.toInt) rfl] at d13
    have e13 : zn = y13 := Int32.toInt_inj.mp (by omega)
    subst e13
    rw [vn_at hx1 (n := 4) (z := zm.toInt) rfl] at d14
    have e14 : zm = y14 := Int32.toInt_inj.mp (by omega)
    subst e14
    rw [vn_at hx1 (n := 5) (z := zw.toInt) rfl] at d15
    have e15 : zw = y15 := Int32.toInt_inj.mp (by omega)
    subst e15
    rw [vnl_at hx1 (n := 7) (z := zu.toInt) rfl] at d16
    have e16 : zu = y16 := Int64.toInt_inj.mp (by omega)
    subst e16
    rw [vnl_at hx1 (n := 8) (z := zd.toInt) rfl] at d17
    have e17 : zd = y17 := Int64.toInt_inj.mp (by omega)
    subst e17
    rw [vn_at hx1 (n := 9) (z := zq.toInt) rfl] at d18
    have e18 : zq = y18 := Int32.toInt_inj.mp (by omega)
    subst e18
    obtain ⟨x10, s10, rfl, c10, g10⟩ := hsk1.cons
    obtain ⟨x11, s11, rfl, c11, g11⟩ := g10.cons
    obtain ⟨x12, s12, rfl, c12, g12⟩ := g11.cons
    cases g12.nil
    obtain ⟨u10, rfl, w10⟩ := dvn c10 (hx1.at (k := 6) rfl)
    obtain ⟨u11, rfl, w11⟩ := dvn c11 (hx1.at (k := 0) rfl)
    obtain ⟨u12, rfl, w12⟩ := dvn c12 (hx1.at (k := 9) rfl)
    have q1 : u10 = Int32.ofNat n := i32_of (by omega) (by omega)
    have q2 : u11 = 1 := Int32.toInt_inj.mp (by rw [show u11.toInt = 1 by omega]; decide)
    rw [q1, q2]
    have hsl := shl_b n hn
    refine hishl C (tv_m151.1.1.1 (36, .ishl, 1) (List.mem_of_getElem? (i := 20) rfl)) ?_
    generalize (1 : Int32) <<< (Int32.ofNat n &&& 31) = zp at hsl ⊢
    have p1 : 1 ≤ 2 ^ n := Nat.one_le_two_pow
    have sba : ai_sb ws1 [0, 0, zv.toInt, zt.toInt, zm.toInt, zw.toInt, zn.toInt, zu.toInt, zd.toInt, zq.toInt, zp.toInt] [(4, 9, 10, 9, 0)] := fun q hq => by
      rw [List.mem_singleton.mp hq]
      refine ⟨zq.toInt, zp.toInt, zq.toInt, rfl, rfl, rfl, fun h0 => ?_, fun h0 => ?_, fun h0 => ?_, fun h0 => ?_, fun h0 => ?_, fun h0 => ?_⟩
      all_goals dsimp only at h0 ⊢
      all_goals omega
    have e12 : u12 = zq := Int32.toInt_inj.mp (by omega)
    subst e12
    refine hsum (st := (37, [(0, (0, 49, 0, 0)), (1, (1, 2, 0, 0)), (2, (1, 3, 0, 0)), (3, (1, 6, 0, 0)), (4, (1, 4, 0, 0)), (5, (1, 5, 0, 0)), (6, (2, 7, 0, 0)), (8, (2, 8, 0, 0)), (10, (1, 9, 0, 0))], [(1, 10, 0, 0), (1, 9, 0, 0)], [(0, 0, false, 0, 0), (0, 2555, false, 1, 0), (0, 10, false, 2, 0), (0, 3, false, 3, 0), (0, 1, false, 4, 0), (0, 1, false, 5, 0), (0, 8, false, 6, 0), (-9223372036854775808, 9223372036854775807, false, 7, 0), (-9223372036854775808, 9223372036854775807, false, 8, 0), (0, 256, false, 9, 0), (1, 256, false, 10, 0)], [], [(4, 9, 10, 9, 0)])) sl_z rfl C (r := [0, 0, zv.toInt, zt.toInt, zm.toInt, zw.toInt, zn.toInt, zu.toInt, zd.toInt, u12.toInt, zp.toInt]) ⟨en_mk (by simp only [en_b, and_true]; omega) rfl, sba, ⟨rfl, Or.inl ⟨rfl, ar, ha, rfl⟩, rfl, int_dv (z := zv.toInt) rfl (by omega), rfl, int_dv (z := zt.toInt) rfl (by omega), rfl, int_dv (z := zn.toInt) rfl (by omega), rfl, int_dv (z := zm.toInt) rfl (by omega), rfl, int_dv (z := zw.toInt) rfl (by omega), rfl, lng_dv (z := zu.toInt) rfl (by omega), rfl, lng_dv (z := zd.toInt) rfl (by omega), rfl, int_dv (z := u12.toInt) rfl (by omega), trivial⟩, ⟨int_dv (z := zp.toInt) rfl (by omega), int_dv (z := u12.toInt) rfl (by omega), trivial⟩, hw1, k0, fun _ _ _ _ h => h, fun h => by cases h⟩ (fun x hx r2 lv2 st2 ws2 hx2 hb2 hl2 hs2 hlo2 hsk2 hw2 hV2 hf2 _ => ?_)
    unfold sl_z_S at hx
    have m2_2 := nm_x hx2 (k := 2) rfl
    have m2_3 := nm_x hx2 (k := 3) rfl
    have m2_4 := nm_x hx2 (k := 4) rfl
    have m2_5 := nm_x hx2 (k := 5) rfl
    have m2_6 := nm_x hx2 (k := 6) rfl
    have m2_7 := nm_x hx2 (k := 7) rfl
    have m2_8 := nm_x hx2 (k := 8) rfl
    have m2_9 := nm_x hx2 (k := 9) rfl
    have m2_10 := nm_x hx2 (k := 10) rfl
    have hx0 := List.mem_singleton.mp hx
    subst hx0
    dsimp only at hlo2 hsk2 ⊢
    simp (config := { decide := true }) only [bnd_b, lin_b, lin_q, Nat.reduceAdd, Nat.zero_add, Nat.reduceEqDiff, reduceIte, and_true, Int.add_zero] at hb2 hl2
    obtain ⟨l20, rfl, p20⟩ := lo_ref ha hlo2
    obtain ⟨y21, l21, rfl, d21, p21⟩ := lo_int rfl p20
    obtain ⟨y22, l22, rfl, d22, p22⟩ := lo_int rfl p21
    obtain ⟨y23, l23, rfl, d23, p23⟩ := lo_int rfl p22
    obtain ⟨y24, l24, rfl, d24, p24⟩ := lo_int rfl p23
    obtain ⟨y25, l25, rfl, d25, p25⟩ := lo_int rfl p24
    obtain ⟨y26, l26, rfl, d26, p26⟩ := lo_lng rfl p25
    obtain ⟨y27, l27, rfl, d27, p27⟩ := lo_lng rfl p26
    obtain ⟨y28, l28, rfl, d28, p28⟩ := lo_int rfl p27
    obtain ⟨y29, l29, rfl, d29, p29⟩ := lo_lng rfl p28
    cases lo_nil p29
    rw [vn_at hx2 (n := 2) (z := zv.toInt) rfl] at d21
    have e21 : zv = y21 := Int32.toInt_inj.mp (by omega)
    subst e21
    rw [vn_at hx2 (n := 3) (z := zt.toInt) rfl] at d22
    have e22 : zt = y22 := Int32.toInt_inj.mp (by omega)
    subst e22
    rw [vn_at hx2 (n := 6) (z := zn.toInt) rfl] at d23
    have e23 : zn = y23 := Int32.toInt_inj.mp (by omega)
    subst e23
    rw [vn_at hx2 (n := 4) (z := zm.toInt) rfl] at d24
    have e24 : zm = y24 := Int32.toInt_inj.mp (by omega)
    subst e24
    rw [vn_at hx2 (n := 5) (z := zw.toInt) rfl] at d25
    have e25 : zw = y25 := Int32.toInt_inj.mp (by omega)
    subst e25
    rw [vnl_at hx2 (n := 7) (z := zu.toInt) rfl] at d26
    have e26 : zu = y26 := Int64.toInt_inj.mp (by omega)
    subst e26
    rw [vnl_at hx2 (n := 8) (z := zd.toInt) rfl] at d27
    have e27 : zd = y27 := Int64.toInt_inj.mp (by omega)
    subst e27
    rw [vn_at hx2 (n := 9) (z := u12.toInt) rfl] at d28
    have e28 : u12 = y28 := Int32.toInt_inj.mp (by omega)
    subst e28
    rw [vnl_at hx2 (n := 0) (z := 0) rfl] at d29
    obtain ⟨x20, s20, rfl, c20, g20⟩ := hsk2.cons
    obtain ⟨x21, s21, rfl, c21, g21⟩ := g20.cons
    obtain ⟨x22, s22, rfl, c22, g22⟩ := g21.cons
    cases g22.nil
    obtain ⟨u20, rfl, w20⟩ := dvn c20 (hx2.at (k := 0) rfl)
    obtain ⟨u21, rfl, w21⟩ := dvn c21 (hx2.at (k := 0) rfl)
    have f22 := ref_of49 ha c22
    subst f22
    refine hcallV (q := (174, 0, 134, 2, 6)) (M' := tb_m134) (cl := 49) (a := ar) (As := [.int u21, .int u20]) (rest := []) (rets := [30]) (P := cs_P ad tys 0 108 ws2) C (by decide) (tv_m151.1.1.1 (47, .invokevirtual 174, 3) (List.mem_of_getElem? (i := 27) rfl)) (tv_m151.2 _ (List.mem_of_getElem? (i := 21) rfl)) rfl rfl rfl rfl (by decide) (Nat.le_of_ble_eq_true rfl) rfl rfl rfl rfl hw2 ha (Nat.le_of_ble_eq_true rfl) ?_ ?_ ?_
    · intro pcr hp
      simp only [List.mem_cons, List.not_mem_nil, or_false] at hp
      rcases hp with rfl
      · exact tv_m134.1.1.1 (30, .return_, 1) (List.mem_of_getElem? (i := 19) rfl)
    · intro p2 e2 R2 s2 m2 args2 below2 meth2 c2 Q2 C2 kk2
      exact cs_all cs_r7 (by decide +kernel) (by decide) (mm_cx (by decide) C2) hw2 ha (by omega) (by omega) (fun pcr w lv2 hp hP => kk2 pcr w lv2 hp hP)
    · intro ws3 hcs
      have f2 : ai_fr sl_W ws0 ws2 := hfr.tr (wsub_ok (V := []) (by rfl) (hf1.tr hf2))
      have pg2 : po_vi ws2 0 t K (Z : Int) (M0 : Int) PP SS LL := po_off hpg0 ht f2
      have pg3 : po_vi ws3 108 t K (Z : Int) (M0 : Int) PP SS LL := po_cp ht hcs pg2
      have f3 : ai_fr sl_W ws0 ws3 := f2.tr (wsub_ok (V := [(50, 108, 135)]) (by decide) hcs.2.1)
      have b29 := ai_lrg y29
      refine hsum (st := (50, [(0, (0, 49, 0, 0)), (1, (1, 2, 0, 0)), (2, (1, 3, 0, 0)), (3, (1, 6, 0, 0)), (4, (1, 4, 0, 0)), (5, (1, 5, 0, 0)), (6, (2, 7, 0, 0)), (8, (2, 8, 0, 0)), (10, (1, 9, 0, 0)), (11, (2, 11, 0, 0))], [], [(0, 0, false, 0, 0), (0, 2555, false, 1, 0), (0, 10, false, 2, 0), (0, 3, false, 3, 0), (0, 1, false, 4, 0), (0, 1, false, 5, 0), (0, 8, false, 6, 0), (-9223372036854775808, 9223372036854775807, false, 7, 0), (-9223372036854775808, 9223372036854775807, false, 8, 0), (0, 256, false, 9, 0), (0, 0, false, 10, 0), (-9223372036854775808, 9223372036854775807, false, 11, 0)], [], [])) sl_r rfl C (r := [0, 0, zv.toInt, zt.toInt, zm.toInt, zw.toInt, zn.toInt, zu.toInt, zd.toInt, u12.toInt, 0, y29.toInt]) ⟨en_mk (by simp only [en_b, and_true]; omega) rfl, sb0, ⟨rfl, Or.inl ⟨rfl, ar, ha, rfl⟩, rfl, int_dv (z := zv.toInt) rfl (by omega), rfl, int_dv (z := zt.toInt) rfl (by omega), rfl, int_dv (z := zn.toInt) rfl (by omega), rfl, int_dv (z := zm.toInt) rfl (by omega), rfl, int_dv (z := zw.toInt) rfl (by omega), rfl, lng_dv (z := zu.toInt) rfl (by omega), rfl, lng_dv (z := zd.toInt) rfl (by omega), rfl, int_dv (z := u12.toInt) rfl (by omega), rfl, lng_dv (z := y29.toInt) rfl (by omega), trivial⟩, trivial, hcs.1, k0, fun _ _ _ _ h => h, fun h => by cases h⟩ (fun x hx r4 lv4 st4 ws4 hx4 hb4 hl4 hs4 hlo4 hsk4 hw4 hV4 hf4 _ => ?_)
      have hx9 := List.mem_singleton.mp hx
      subst hx9
      dsimp only at hlo4 hsk4 ⊢
      obtain ⟨l40, rfl, p40⟩ := lo_ref ha hlo4
      obtain ⟨y41, l41, rfl, d41, p41⟩ := lo_int rfl p40
      obtain ⟨y42, l42, rfl, d42, p42⟩ := lo_int rfl p41
      obtain ⟨y43, l43, rfl, d43, p43⟩ := lo_int rfl p42
      obtain ⟨y44, l44, rfl, d44, p44⟩ := lo_int rfl p43
      obtain ⟨y45, l45, rfl, d45, p45⟩ := lo_int rfl p44
      obtain ⟨y46, l46, rfl, d46, p46⟩ := lo_lng rfl p45
      obtain ⟨y47, l47, rfl, d47, p47⟩ := lo_lng rfl p46
      obtain ⟨y48, l48, rfl, d48, p48⟩ := lo_int rfl p47
      obtain ⟨y49, l49, rfl, d49, p49⟩ := lo_lng rfl p48
      obtain ⟨y410, l410, rfl, d410, p410⟩ := lo_int rfl p49
      cases lo_nil p410
      rw [vn_at hx4 (n := 2) (z := zv.toInt) rfl] at d41
      have e41 : zv = y41 := Int32.toInt_inj.mp (by omega)
      subst e41
      rw [vn_at hx4 (n := 3) (z := zt.toInt) rfl] at d42
      have e42 : zt = y42 := Int32.toInt_inj.mp (by omega)
      subst e42
      rw [vn_at hx4 (n := 6) (z := zn.toInt) rfl] at d43
      have e43 : zn = y43 := Int32.toInt_inj.mp (by omega)
      subst e43
      rw [vn_at hx4 (n := 4) (z := zm.toInt) rfl] at d44
      have e44 : zm = y44 := Int32.toInt_inj.mp (by omega)
      subst e44
      rw [vn_at hx4 (n := 5) (z := zw.toInt) rfl] at d45
      have e45 : zw = y45 := Int32.toInt_inj.mp (by omega)
      subst e45
      rw [vnl_at hx4 (n := 7) (z := zu.toInt) rfl] at d46
      have e46 : zu = y46 := Int64.toInt_inj.mp (by omega)
      subst e46
      rw [vnl_at hx4 (n := 8) (z := zd.toInt) rfl] at d47
      have e47 : zd = y47 := Int64.toInt_inj.mp (by omega)
      subst e47
      rw [vn_at hx4 (n := 9) (z := u12.toInt) rfl] at d48
      have e48 : u12 = y48 := Int32.toInt_inj.mp (by omega)
      subst e48
      rw [vnl_at hx4 (n := 11) (z := y29.toInt) rfl] at d49
      have e49 : y29 = y49 := Int64.toInt_inj.mp (by omega)
      subst e49
      rw [vn_at hx4 (n := 0) (z := 0) rfl] at d410
      cases hsk4.nil
      have q256 : i < 256 := by omega
      refine sl_in (q := i) (f := slF Z zm.toInt) (R9x := mkF K v Z (slF Z zm.toInt) n i 1 M0 PP SS) (ws0 := ws4) C ha ht et ev hv en hn hZ hK bm bw eq q256 (fun ws5 zo zi o mv pp ss ll hw5 hf5 eo bo hmv pg5 hval ei => ?_) n 0 y29 y410 1 M0 PP SS LL ws4 (Nat.zero_add n) (by omega) (by omega) ⟨by omega, Int.le_refl 1⟩ hM bP bS bL (pg3.fr hf4) (by rw [Nat.pow_zero, Nat.div_one]) hw4 (fun _ _ _ _ h => h)
      have f5 : ai_fr sl_W ws0 ws5 := (f3.tr (wsub_ok (V := []) (by rfl) hf4)).tr hf5
      obtain ⟨w1, w2, w3, w4, w5, w6⟩ := pg5
      have w2' : vi ws5 50 (112 + t) (Z : Int) := by rw [show 112 + t = 4 + t + 108 by omega]; exact w2
      have w3' : vi ws5 50 (116 + t) (mv : Int) := by rw [show 116 + t = 8 + t + 108 by omega]; exact w3
      have bo9 := ai_lrg zo
      have bfm := hf9 mv
      obtain ⟨g1, g2⟩ := mulB bo.1 bo.2 bfm.1 (bfm.2 hmv)
      have hpart : 0 ≤ sumN (fun q => mkF K v Z (slF Z zm.toInt) n q 1 M0 PP SS) i ∧ sumN (fun q => mkF K v Z (slF Z zm.toInt) n q 1 M0 PP SS) i ≤ 9900000000 * (i : Int) := sl_part hv hn (fun m => (hf9 m).1) (fun m hm => (hf9 m).2 hm) hM i
      have hnext : sumN (fun q => mkF K v Z (slF Z zm.toInt) n q 1 M0 PP SS) (i + 1) = sumN (fun q => mkF K v Z (slF Z zm.toInt) n q 1 M0 PP SS) i + mkF K v Z (slF Z zm.toInt) n i 1 M0 PP SS := rfl
      -- the last addition, whatever the factor was
      have fin : ∀ (ws6 : va_W) (zF : Int64), zF.toInt = slF Z zm.toInt mv → ai_wd tb_TY ad tys ws6 → ai_fr [] ws5 ws6 → hG tb_m151 p l e R9 s m args below meth c D A9 cells slots Q 160 [(0, .ref ar), (1, .int zv), (2, .int zt), (3, .int zn), (4, .int zm), (5, .int zw), (6, .long zu), (8, .long zd), (10, .int u12), (11, .long zo), (13, .int zi)] [.long zF, .long zo, .long zu] ws6 := by
        intro ws6 zF eF hw6 hf6
        refine hlmul C (tv_m151.1.1.1 (160, .lmul, 1) (List.mem_of_getElem? (i := 89) rfl)) (by rw [eo, eF]; omega) (fun z7 e7 => ?_)
        rw [eo, eF, hval] at e7
        have hmk0 : 0 ≤ mkF K v Z (slF Z zm.toInt) n i 1 M0 PP SS ∧ mkF K v Z (slF Z zm.toInt) n i 1 M0 PP SS ≤ 9900000000 := by
          rw [← hval]
          omega
        refine hladd C (tv_m151.1.1.1 (161, .ladd, 1) (List.mem_of_getElem? (i := 90) rfl)) (by rw [e7, eu]; omega) (fun z8 e8 => ?_)
        rw [e7, eu] at e8
        have b8 := ai_lrg z8
        refine hsum (st := (162, [(0, (0, 49, 0, 0)), (1, (1, 2, 0, 0)), (2, (1, 3, 0, 0)), (3, (1, 6, 0, 0)), (4, (1, 4, 0, 0)), (5, (1, 5, 0, 0)), (6, (2, 7, 0, 0)), (8, (2, 8, 0, 0)), (10, (1, 9, 0, 0)), (11, (2, 10, 0, 0)), (13, (1, 11, 0, 0))], [(2, 12, 0, 0)], [(0, 0, false, 0, 0), (0, 2555, false, 1, 0), (0, 10, false, 2, 0), (0, 3, false, 3, 0), (0, 1, false, 4, 0), (0, 1, false, 5, 0), (0, 8, false, 6, 0), (-9223372036854775808, 9223372036854775807, false, 7, 0), (-9223372036854775808, 9223372036854775807, false, 8, 0), (0, 255, false, 9, 0), (-9223372036854775808, 9223372036854775807, false, 10, 0), (0, 8, false, 11, 0), (-9223372036854775808, 9223372036854775807, false, 12, 0)], [], [])) sl_t rfl C (r := [0, 0, zv.toInt, zt.toInt, zm.toInt, zw.toInt, zn.toInt, zu.toInt, zd.toInt, u12.toInt, zo.toInt, zi.toInt, z8.toInt]) ⟨en_mk (by simp only [en_b, and_true]; omega) rfl, sb0, ⟨rfl, Or.inl ⟨rfl, ar, ha, rfl⟩, rfl, int_dv (z := zv.toInt) rfl (by omega), rfl, int_dv (z := zt.toInt) rfl (by omega), rfl, int_dv (z := zn.toInt) rfl (by omega), rfl, int_dv (z := zm.toInt) rfl (by omega), rfl, int_dv (z := zw.toInt) rfl (by omega), rfl, lng_dv (z := zu.toInt) rfl (by omega), rfl, lng_dv (z := zd.toInt) rfl (by omega), rfl, int_dv (z := u12.toInt) rfl (by omega), rfl, lng_dv (z := zo.toInt) rfl (by omega), rfl, int_dv (z := zi.toInt) rfl (by omega), trivial⟩, ⟨lng_dv (z := z8.toInt) rfl (by omega), trivial⟩, hw6, k0, fun _ _ _ _ h => h, fun h => by cases h⟩ (fun x hx r7 lv7 st7 ws7 hx7 hb7 hl7 hs7 hlo7 hsk7 hw7 hV7 hf7 _ => ?_)
        have hx9 := List.mem_singleton.mp hx
        subst hx9
        dsimp only at hlo7 hsk7 ⊢
        obtain ⟨l70, rfl, p70⟩ := lo_ref ha hlo7
        obtain ⟨y71, l71, rfl, d71, p71⟩ := lo_int rfl p70
        obtain ⟨y72, l72, rfl, d72, p72⟩ := lo_int rfl p71
        obtain ⟨y73, l73, rfl, d73, p73⟩ := lo_int rfl p72
        obtain ⟨y74, l74, rfl, d74, p74⟩ := lo_int rfl p73
        obtain ⟨y75, l75, rfl, d75, p75⟩ := lo_int rfl p74
        obtain ⟨y76, l76, rfl, d76, p76⟩ := lo_lng rfl p75
        obtain ⟨y77, l77, rfl, d77, p77⟩ := lo_lng rfl p76
        obtain ⟨y78, l78, rfl, d78, p78⟩ := lo_int rfl p77
        cases lo_nil p78
        rw [vn_at hx7 (n := 2) (z := zv.toInt) rfl] at d71
        have e71 : zv = y71 := Int32.toInt_inj.mp (by omega)
        subst e71
        rw [vn_at hx7 (n := 3) (z := zt.toInt) rfl] at d72
        have e72 : zt = y72 := Int32.toInt_inj.mp (by omega)
        subst e72
        rw [vn_at hx7 (n := 6) (z := zn.toInt) rfl] at d73
        have e73 : zn = y73 := Int32.toInt_inj.mp (by omega)
        subst e73
        rw [vn_at hx7 (n := 4) (z := zm.toInt) rfl] at d74
        have e74 : zm = y74 := Int32.toInt_inj.mp (by omega)
        subst e74
        rw [vn_at hx7 (n := 5) (z := zw.toInt) rfl] at d75
        have e75 : zw = y75 := Int32.toInt_inj.mp (by omega)
        subst e75
        rw [vnl_at hx7 (n := 12) (z := z8.toInt) rfl] at d76
        rw [vnl_at hx7 (n := 8) (z := zd.toInt) rfl] at d77
        have e77 : zd = y77 := Int64.toInt_inj.mp (by omega)
        subst e77
        rw [vn_at hx7 (n := 9) (z := u12.toInt) rfl] at d78
        cases hsk7.nil
        exact ih (i + 1) y76 y78 ws7 (by omega) (by omega) (by rw [hnext]; omega) hw7 ((f5.tr (wsub_ok (V := []) (by rfl) hf6)).tr (wsub_ok (V := []) (by rfl) hf7))
      by_cases hmean : zm.toInt = 1
      · skip
        refine hsum (st := (123, [(0, (0, 49, 0, 0)), (1, (1, 2, 0, 0)), (2, (1, 0, 0, (t : Int))), (3, (1, 6, 0, 0)), (4, (1, 4, 0, 0)), (5, (1, 5, 0, 0)), (6, (2, 7, 0, 0)), (8, (2, 8, 0, 0)), (10, (1, 9, 0, 0)), (11, (2, 10, 0, 0)), (13, (1, 11, 0, 0))], [], [(0, 0, false, 0, 0), (0, 2555, false, 1, 0), (0, 10, false, 2, 0), (0, 3, false, 3, 0), (1, 1, false, 4, 0), (0, 1, false, 5, 0), (0, 8, false, 6, 0), (-9223372036854775808, 9223372036854775807, false, 7, 0), (-9223372036854775808, 9223372036854775807, false, 8, 0), (0, 256, false, 9, 0), (-9223372036854775808, 9223372036854775807, false, 10, 0), (0, 8, false, 11, 0), (1, 99, false, 12, 0), (0, 99, false, 13, 0)], [(50, 112 + t, (1, 12, 0, 0)), (50, 116 + t, (1, 13, 0, 0))], [])) (List.all_eq_true.mp sl_f1 t (List.mem_range.mpr (by omega))) rfl C (r := [0, 0, zv.toInt, zt.toInt, zm.toInt, zw.toInt, zn.toInt, zu.toInt, zd.toInt, u12.toInt, zo.toInt, zi.toInt, (Z : Int), (mv : Int)]) ⟨en_mk (by simp only [en_b, and_true]; omega) rfl, sb0, ⟨rfl, Or.inl ⟨rfl, ar, ha, rfl⟩, rfl, int_dv (z := zv.toInt) rfl (by omega), rfl, int_dv (z := 0) rfl (by omega), rfl, int_dv (z := zn.toInt) rfl (by omega), rfl, int_dv (z := zm.toInt) rfl (by omega), rfl, int_dv (z := zw.toInt) rfl (by omega), rfl, lng_dv (z := zu.toInt) rfl (by omega), rfl, lng_dv (z := zd.toInt) rfl (by omega), rfl, int_dv (z := u12.toInt) rfl (by omega), rfl, lng_dv (z := zo.toInt) rfl (by omega), rfl, int_dv (z := zi.toInt) rfl (by omega), trivial⟩, trivial, hw5, kc (w2'.kn (n := 12) (t := (Z : Int)) rfl (by omega)) (kc (w3'.kn (n := 13) (t := (mv : Int)) rfl (by omega)) (k0)), fun _ _ _ _ h => h, fun h => by cases h⟩ (fun x hx r6 lv6 st6 ws6 hx6 hb6 hl6 hs6 hlo6 hsk6 hw6 hV6 hf6 _ => ?_)
        unfold sl_f1_S at hx
        have m6_2 := nm_x hx6 (k := 2) rfl
        have m6_3 := nm_x hx6 (k := 3) rfl
        have m6_4 := nm_x hx6 (k := 4) rfl
        have m6_5 := nm_x hx6 (k := 5) rfl
        have m6_6 := nm_x hx6 (k := 6) rfl
        have m6_7 := nm_x hx6 (k := 7) rfl
        have m6_8 := nm_x hx6 (k := 8) rfl
        have m6_9 := nm_x hx6 (k := 9) rfl
        have m6_10 := nm_x hx6 (k := 10) rfl
        have m6_11 := nm_x hx6 (k := 11) rfl
        have m6_12 := nm_x hx6 (k := 12) rfl
        have m6_13 := nm_x hx6 (k := 13) rfl
        have hx0 := List.mem_singleton.mp hx
        subst hx0
        dsimp only at hlo6 hsk6 ⊢
        simp (config := { decide := true }) only [bnd_b, lin_b, lin_q, Nat.reduceAdd, Nat.zero_add, Nat.reduceEqDiff, reduceIte, and_true, Int.add_zero] at hb6 hl6
        obtain ⟨l60, rfl, p60⟩ := lo_ref ha hlo6
        obtain ⟨y61, l61, rfl, d61, p61⟩ := lo_int rfl p60
        obtain ⟨y62, l62, rfl, d62, p62⟩ := lo_int rfl p61
        obtain ⟨y63, l63, rfl, d63, p63⟩ := lo_int rfl p62
        obtain ⟨y64, l64, rfl, d64, p64⟩ := lo_int rfl p63
        obtain ⟨y65, l65, rfl, d65, p65⟩ := lo_int rfl p64
        obtain ⟨y66, l66, rfl, d66, p66⟩ := lo_lng rfl p65
        obtain ⟨y67, l67, rfl, d67, p67⟩ := lo_lng rfl p66
        obtain ⟨y68, l68, rfl, d68, p68⟩ := lo_int rfl p67
        obtain ⟨y69, l69, rfl, d69, p69⟩ := lo_lng rfl p68
        obtain ⟨y610, l610, rfl, d610, p610⟩ := lo_int rfl p69
        cases lo_nil p610
        rw [vn_at hx6 (n := 2) (z := zv.toInt) rfl] at d61
        have e61 : zv = y61 := Int32.toInt_inj.mp (by omega)
        subst e61
        rw [vn_at hx6 (n := 0) (z := 0) rfl] at d62
        have e62 : zt = y62 := Int32.toInt_inj.mp (by omega)
        subst e62
        rw [vn_at hx6 (n := 6) (z := zn.toInt) rfl] at d63
        have e63 : zn = y63 := Int32.toInt_inj.mp (by omega)
        subst e63
        rw [vn_at hx6 (n := 4) (z := zm.toInt) rfl] at d64
        have e64 : zm = y64 := Int32.toInt_inj.mp (by omega)
        subst e64
        rw [vn_at hx6 (n := 5) (z := zw.toInt) rfl] at d65
        have e65 : zw = y65 := Int32.toInt_inj.mp (by omega)
        subst e65
        rw [vnl_at hx6 (n := 7) (z := zu.toInt) rfl] at d66
        have e66 : zu = y66 := Int64.toInt_inj.mp (by omega)
        subst e66
        rw [vnl_at hx6 (n := 8) (z := zd.toInt) rfl] at d67
        have e67 : zd = y67 := Int64.toInt_inj.mp (by omega)
        subst e67
        rw [vn_at hx6 (n := 9) (z := u12.toInt) rfl] at d68
        have e68 : u12 = y68 := Int32.toInt_inj.mp (by omega)
        subst e68
        rw [vnl_at hx6 (n := 10) (z := zo.toInt) rfl] at d69
        have e69 : zo = y69 := Int64.toInt_inj.mp (by omega)
        subst e69
        rw [vn_at hx6 (n := 11) (z := zi.toInt) rfl] at d610
        have e610 : zi = y610 := Int32.toInt_inj.mp (by omega)
        subst e610
        obtain ⟨x60, s60, rfl, c60, g60⟩ := hsk6.cons
        obtain ⟨x61, s61, rfl, c61, g61⟩ := g60.cons
        obtain ⟨x62, s62, rfl, c62, g62⟩ := g61.cons
        cases g62.nil
        obtain ⟨u60, rfl, w60⟩ := dvl c60 (hx6.at (k := 13) rfl)
        obtain ⟨u61, rfl, w61⟩ := dvl c61 (hx6.at (k := 10) rfl)
        obtain ⟨u62, rfl, w62⟩ := dvl c62 (hx6.at (k := 7) rfl)
        have e61 : u61 = zo := Int64.toInt_inj.mp (by omega)
        have e62 : u62 = zu := Int64.toInt_inj.mp (by omega)
        rw [e61, e62]
        exact fin ws6 u60 (by unfold slF; rw [if_pos hmean]; omega) hw6 hf6
      · skip
        refine hsum (st := (123, [(0, (0, 49, 0, 0)), (1, (1, 2, 0, 0)), (2, (1, 0, 0, (t : Int))), (3, (1, 6, 0, 0)), (4, (1, 4, 0, 0)), (5, (1, 5, 0, 0)), (6, (2, 7, 0, 0)), (8, (2, 8, 0, 0)), (10, (1, 9, 0, 0)), (11, (2, 10, 0, 0)), (13, (1, 11, 0, 0))], [], [(0, 0, false, 0, 0), (0, 2555, false, 1, 0), (0, 10, false, 2, 0), (0, 3, false, 3, 0), (0, 0, false, 4, 0), (0, 1, false, 5, 0), (0, 8, false, 6, 0), (-9223372036854775808, 9223372036854775807, false, 7, 0), (-9223372036854775808, 9223372036854775807, false, 8, 0), (0, 256, false, 9, 0), (-9223372036854775808, 9223372036854775807, false, 10, 0), (0, 8, false, 11, 0), (1, 99, false, 12, 0), (0, 99, false, 13, 0)], [(50, 112 + t, (1, 12, 0, 0)), (50, 116 + t, (1, 13, 0, 0))], [])) (List.all_eq_true.mp sl_f0 t (List.mem_range.mpr (by omega))) rfl C (r := [0, 0, zv.toInt, zt.toInt, zm.toInt, zw.toInt, zn.toInt, zu.toInt, zd.toInt, u12.toInt, zo.toInt, zi.toInt, (Z : Int), (mv : Int)]) ⟨en_mk (by simp only [en_b, and_true]; omega) rfl, sb0, ⟨rfl, Or.inl ⟨rfl, ar, ha, rfl⟩, rfl, int_dv (z := zv.toInt) rfl (by omega), rfl, int_dv (z := 0) rfl (by omega), rfl, int_dv (z := zn.toInt) rfl (by omega), rfl, int_dv (z := zm.toInt) rfl (by omega), rfl, int_dv (z := zw.toInt) rfl (by omega), rfl, lng_dv (z := zu.toInt) rfl (by omega), rfl, lng_dv (z := zd.toInt) rfl (by omega), rfl, int_dv (z := u12.toInt) rfl (by omega), rfl, lng_dv (z := zo.toInt) rfl (by omega), rfl, int_dv (z := zi.toInt) rfl (by omega), trivial⟩, trivial, hw5, kc (w2'.kn (n := 12) (t := (Z : Int)) rfl (by omega)) (kc (w3'.kn (n := 13) (t := (mv : Int)) rfl (by omega)) (k0)), fun _ _ _ _ h => h, fun h => by cases h⟩ (fun x hx r6 lv6 st6 ws6 hx6 hb6 hl6 hs6 hlo6 hsk6 hw6 hV6 hf6 _ => ?_)
        unfold sl_f0_S at hx
        have m6_2 := nm_x hx6 (k := 2) rfl
        have m6_3 := nm_x hx6 (k := 3) rfl
        have m6_4 := nm_x hx6 (k := 4) rfl
        have m6_5 := nm_x hx6 (k := 5) rfl
        have m6_6 := nm_x hx6 (k := 6) rfl
        have m6_7 := nm_x hx6 (k := 7) rfl
        have m6_8 := nm_x hx6 (k := 8) rfl
        have m6_9 := nm_x hx6 (k := 9) rfl
        have m6_10 := nm_x hx6 (k := 10) rfl
        have m6_11 := nm_x hx6 (k := 11) rfl
        have m6_12 := nm_x hx6 (k := 12) rfl
        have m6_13 := nm_x hx6 (k := 13) rfl
        rcases List.mem_cons.mp hx with rfl | hx
        · skip
          dsimp only at hlo6 hsk6 ⊢
          simp (config := { decide := true }) only [bnd_b, lin_b, lin_q, Nat.reduceAdd, Nat.zero_add, Nat.reduceEqDiff, reduceIte, and_true, Int.add_zero] at hb6 hl6
          obtain ⟨l60, rfl, p60⟩ := lo_ref ha hlo6
          obtain ⟨y61, l61, rfl, d61, p61⟩ := lo_int rfl p60
          obtain ⟨y62, l62, rfl, d62, p62⟩ := lo_int rfl p61
          obtain ⟨y63, l63, rfl, d63, p63⟩ := lo_int rfl p62
          obtain ⟨y64, l64, rfl, d64, p64⟩ := lo_int rfl p63
          obtain ⟨y65, l65, rfl, d65, p65⟩ := lo_int rfl p64
          obtain ⟨y66, l66, rfl, d66, p66⟩ := lo_lng rfl p65
          obtain ⟨y67, l67, rfl, d67, p67⟩ := lo_lng rfl p66
          obtain ⟨y68, l68, rfl, d68, p68⟩ := lo_int rfl p67
          obtain ⟨y69, l69, rfl, d69, p69⟩ := lo_lng rfl p68
          obtain ⟨y610, l610, rfl, d610, p610⟩ := lo_int rfl p69
          cases lo_nil p610
          rw [vn_at hx6 (n := 2) (z := zv.toInt) rfl] at d61
          have e61 : zv = y61 := Int32.toInt_inj.mp (by omega)
          subst e61
          rw [vn_at hx6 (n := 0) (z := 0) rfl] at d62
          have e62 : zt = y62 := Int32.toInt_inj.mp (by omega)
          subst e62
          rw [vn_at hx6 (n := 6) (z := zn.toInt) rfl] at d63
          have e63 : zn = y63 := Int32.toInt_inj.mp (by omega)
          subst e63
          rw [vn_at hx6 (n := 4) (z := zm.toInt) rfl] at d64
          have e64 : zm = y64 := Int32.toInt_inj.mp (by omega)
          subst e64
          rw [vn_at hx6 (n := 5) (z := zw.toInt) rfl] at d65
          have e65 : zw = y65 := Int32.toInt_inj.mp (by omega)
          subst e65
          rw [vnl_at hx6 (n := 7) (z := zu.toInt) rfl] at d66
          have e66 : zu = y66 := Int64.toInt_inj.mp (by omega)
          subst e66
          rw [vnl_at hx6 (n := 8) (z := zd.toInt) rfl] at d67
          have e67 : zd = y67 := Int64.toInt_inj.mp (by omega)
          subst e67
          rw [vn_at hx6 (n := 9) (z := u12.toInt) rfl] at d68
          have e68 : u12 = y68 := Int32.toInt_inj.mp (by omega)
          subst e68
          rw [vnl_at hx6 (n := 10) (z := zo.toInt) rfl] at d69
          have e69 : zo = y69 := Int64.toInt_inj.mp (by omega)
          subst e69
          rw [vn_at hx6 (n := 11) (z := zi.toInt) rfl] at d610
          have e610 : zi = y610 := Int32.toInt_inj.mp (by omega)
          subst e610
          obtain ⟨x60, s60, rfl, c60, g60⟩ := hsk6.cons
          obtain ⟨x61, s61, rfl, c61, g61⟩ := g60.cons
          obtain ⟨x62, s62, rfl, c62, g62⟩ := g61.cons
          cases g62.nil
          obtain ⟨u60, rfl, w60⟩ := dvl c60 (hx6.at (k := 0) rfl)
          obtain ⟨u61, rfl, w61⟩ := dvl c61 (hx6.at (k := 10) rfl)
          obtain ⟨u62, rfl, w62⟩ := dvl c62 (hx6.at (k := 7) rfl)
          have e61 : u61 = zo := Int64.toInt_inj.mp (by omega)
          have e62 : u62 = zu := Int64.toInt_inj.mp (by omega)
          rw [e61, e62]
          exact fin ws6 u60 (by unfold slF; rw [if_neg hmean, if_neg (by omega)]; omega) hw6 hf6
        have hx0 := List.mem_singleton.mp hx
        subst hx0
        dsimp only at hlo6 hsk6 ⊢
        simp (config := { decide := true }) only [bnd_b, lin_b, lin_q, Nat.reduceAdd, Nat.zero_add, Nat.reduceEqDiff, reduceIte, and_true, Int.add_zero] at hb6 hl6
        obtain ⟨l60, rfl, p60⟩ := lo_ref ha hlo6
        obtain ⟨y61, l61, rfl, d61, p61⟩ := lo_int rfl p60
        obtain ⟨y62, l62, rfl, d62, p62⟩ := lo_int rfl p61
        obtain ⟨y63, l63, rfl, d63, p63⟩ := lo_int rfl p62
        obtain ⟨y64, l64, rfl, d64, p64⟩ := lo_int rfl p63
        obtain ⟨y65, l65, rfl, d65, p65⟩ := lo_int rfl p64
        obtain ⟨y66, l66, rfl, d66, p66⟩ := lo_lng rfl p65
        obtain ⟨y67, l67, rfl, d67, p67⟩ := lo_lng rfl p66
        obtain ⟨y68, l68, rfl, d68, p68⟩ := lo_int rfl p67
        obtain ⟨y69, l69, rfl, d69, p69⟩ := lo_lng rfl p68
        obtain ⟨y610, l610, rfl, d610, p610⟩ := lo_int rfl p69
        cases lo_nil p610
        rw [vn_at hx6 (n := 2) (z := zv.toInt) rfl] at d61
        have e61 : zv = y61 := Int32.toInt_inj.mp (by omega)
        subst e61
        rw [vn_at hx6 (n := 0) (z := 0) rfl] at d62
        have e62 : zt = y62 := Int32.toInt_inj.mp (by omega)
        subst e62
        rw [vn_at hx6 (n := 6) (z := zn.toInt) rfl] at d63
        have e63 : zn = y63 := Int32.toInt_inj.mp (by omega)
        subst e63
        rw [vn_at hx6 (n := 4) (z := zm.toInt) rfl] at d64
        have e64 : zm = y64 := Int32.toInt_inj.mp (by omega)
        subst e64
        rw [vn_at hx6 (n := 5) (z := zw.toInt) rfl] at d65
        have e65 : zw = y65 := Int32.toInt_inj.mp (by omega)
        subst e65
        rw [vnl_at hx6 (n := 7) (z := zu.toInt) rfl] at d66
        have e66 : zu = y66 := Int64.toInt_inj.mp (by omega)
        subst e66
        rw [vnl_at hx6 (n := 8) (z := zd.toInt) rfl] at d67
        have e67 : zd = y67 := Int64.toInt_inj.mp (by omega)
        subst e67
        rw [vn_at hx6 (n := 9) (z := u12.toInt) rfl] at d68
        have e68 : u12 = y68 := Int32.toInt_inj.mp (by omega)
        subst e68
        rw [vnl_at hx6 (n := 10) (z := zo.toInt) rfl] at d69
        have e69 : zo = y69 := Int64.toInt_inj.mp (by omega)
        subst e69
        rw [vn_at hx6 (n := 11) (z := zi.toInt) rfl] at d610
        have e610 : zi = y610 := Int32.toInt_inj.mp (by omega)
        subst e610
        obtain ⟨x60, s60, rfl, c60, g60⟩ := hsk6.cons
        obtain ⟨x61, s61, rfl, c61, g61⟩ := g60.cons
        obtain ⟨x62, s62, rfl, c62, g62⟩ := g61.cons
        cases g62.nil
        obtain ⟨u60, rfl, w60⟩ := dvl c60 (hx6.at (k := 0) rfl)
        obtain ⟨u61, rfl, w61⟩ := dvl c61 (hx6.at (k := 10) rfl)
        obtain ⟨u62, rfl, w62⟩ := dvl c62 (hx6.at (k := 7) rfl)
        have e61 : u61 = zo := Int64.toInt_inj.mp (by omega)
        have e62 : u62 = zu := Int64.toInt_inj.mp (by omega)
        rw [e61, e62]
        exact fin ws6 u60 (by unfold slF; rw [if_neg hmean, if_pos (by omega)]; omega) hw6 hf6
theorem sl_all {ar t n Z M0 : Nat} {K v PP SS LL : Int} {zv zt zn zm zw : Int32} {ws : va_W} (C : ai_cx tb_m151 9 p R9 s m args c D tys A9 b L sx cells slots) (ha : ad[49]? = some ar) (ht : t < 4) (et : zt.toInt = t) (ev : zv.toInt = v) (hv : 0 ≤ v ∧ v ≤ 10) (en : zn.toInt = n) (hn : n < 9) (hZ : 1 ≤ Z ∧ Z ≤ 99) (hK : 0 ≤ K ∧ K ≤ 3) (bm : 0 ≤ zm.toInt ∧ zm.toInt ≤ 1) (bw : 0 ≤ zw.toInt ∧ zw.toInt ≤ 1) (hM : M0 ≤ Z) (bP : 0 ≤ PP ∧ PP ≤ 99) (bS : 0 ≤ SS ∧ SS ≤ 20) (bL : 0 ≤ LL ∧ LL ≤ 999) (hpg0 : po_vi ws 0 t K (Z : Int) (M0 : Int) PP SS LL) (hw : ai_wd tb_TY ad tys ws)
    (kk : ∀ (ws' : va_W) (z : Int64) (lv' : List (Nat × Value)), ai_wd tb_TY ad tys ws' → ai_fr sl_W ws ws' → z.toInt = ansF (wv K v Z (slF Z zm.toInt) n M0 PP SS).toNat (tenP n).toNat zw.toInt → hG tb_m151 p l e R9 s m args below meth c D A9 cells slots Q 179 lv' [.long z] ws') : hG tb_m151 p l e R9 s m args below meth c D A9 cells slots Q 0 [(0, .ref ar), (1, .int zv), (2, .int zt), (3, .int zn), (4, .int zm), (5, .int zw)] [] ws := by
  refine hsum (st := (0, [(0, (0, 49, 0, 0)), (1, (1, 2, 0, 0)), (2, (1, 3, 0, 0)), (3, (1, 0, 0, (n : Int))), (4, (1, 4, 0, 0)), (5, (1, 5, 0, 0))], [], [(0, 0, false, 0, 0), (0, 2555, false, 1, 0), (0, 10, false, 2, 0), (0, 3, false, 3, 0), (0, 1, false, 4, 0), (0, 1, false, 5, 0)], [], [])) (List.all_eq_true.mp sl_0 n (List.mem_range.mpr (by omega))) rfl C (r := [0, 0, zv.toInt, zt.toInt, zm.toInt, zw.toInt]) ⟨en_mk (by simp only [en_b, and_true]; omega) rfl, sb0, ⟨rfl, Or.inl ⟨rfl, ar, ha, rfl⟩, rfl, int_dv (z := zv.toInt) rfl (by omega), rfl, int_dv (z := zt.toInt) rfl (by omega), rfl, int_dv (z := 0) rfl (by omega), rfl, int_dv (z := zm.toInt) rfl (by omega), rfl, int_dv (z := zw.toInt) rfl (by omega), trivial⟩, trivial, hw, k0, fun _ _ _ _ h => h, fun h => by cases h⟩ (fun x hx r1 lv1 st1 ws1 hx1 hb1 hl1 hs1 hlo1 hsk1 hw1 hV1 hf1 _ => ?_)
  have hx9 := List.mem_singleton.mp hx
  subst hx9
  dsimp only at hlo1 hsk1 ⊢
  obtain ⟨l10, rfl, p10⟩ := lo_ref ha hlo1
  obtain ⟨y11, l11, rfl, d11, p11⟩ := lo_int rfl p10
  obtain ⟨y12, l12, rfl, d12, p12⟩ := lo_int rfl p11
  obtain ⟨y13, l13, rfl, d13, p13⟩ := lo_int rfl p12
  obtain ⟨y14, l14, rfl, d14, p14⟩ := lo_int rfl p13
  obtain ⟨y15, l15, rfl, d15, p15⟩ := lo_int rfl p14
  obtain ⟨y16, l16, rfl, d16, p16⟩ := lo_lng rfl p15
  obtain ⟨y17, l17, rfl, d17, p17⟩ := lo_lng rfl p16
  obtain ⟨y18, l18, rfl, d18, p18⟩ := lo_int rfl p17
  cases lo_nil p18
  rw [vn_at hx1 (n := 2) (z := zv.toInt) rfl] at d11
  have e11 : zv = y11 := Int32.toInt_inj.mp (by omega)
  subst e11
  rw [vn_at hx1 (n := 3) (z := zt.toInt) rfl] at d12
  have e12 : zt = y12 := Int32.toInt_inj.mp (by omega)
  subst e12
  rw [vn_at hx1 (n := 0) (z := 0) rfl] at d13
  have e13 : zn = y13 := Int32.toInt_inj.mp (by omega)
  subst e13
  rw [vn_at hx1 (n := 4) (z := zm.toInt) rfl] at d14
  have e14 : zm = y14 := Int32.toInt_inj.mp (by omega)
  subst e14
  rw [vn_at hx1 (n := 5) (z := zw.toInt) rfl] at d15
  have e15 : zw = y15 := Int32.toInt_inj.mp (by omega)
  subst e15
  rw [vnl_at hx1 (n := 0) (z := 0) rfl] at d16
  rw [vnl_at hx1 (n := 0) (z := 0) rfl] at d17
  rw [vn_at hx1 (n := 0) (z := 0) rfl] at d18
  cases hsk1.nil
  exact sl_out (ws0 := ws) C ha ht et ev hv en hn hZ hK bm bw hM bP bS bL hpg0 (by omega) kk (2 ^ n) 0 y16 y18 ws1 (Nat.zero_add _) (by omega) (by show _ = (0 : Int); omega) hw1 (wsub_ok (V := []) (by rfl) hf1)
end XSL
