/-! the start: the strings; the new objects; the loop -/
def st_k (i : Nat) : Nat := ([149, 151, 153, 155, 157, 159, 160] : List Nat).getD i 0
def st_t (i : Nat) : Term := .string RX2 (st_k i)
def st_v (i : Nat) : Term := .field (st_t i) "java/lang/String" "value" "[B"
def st_F : List Cond := flatC (Jvm.Cond.and given_1 narrow_1)
theorem st_1 : ∀ i : Nat, i < 7 → Cond.exactly (st_t i) "java/lang/String" ∈ st_F := by decide +kernel
theorem st_2 : ∀ i : Nat, i < 7 → Cond.eq (.field (st_t i) "java/lang/String" "coder" "B") (.int 0) ∈ st_F := by decide +kernel
theorem st_3 : ∀ i : Nat, i < 7 → Cond.arrayOf (st_v i) .byte ∈ st_F := by decide +kernel
theorem st_4 : ∀ i : Nat, i < 7 → Cond.eq (.length (st_v i)) (.int (Int32.ofNat (ai_JL.getD i 0))) ∈ st_F := by decide +kernel
theorem st_5 : ∀ i : Nat, i < 7 → ∀ j : Nat, j < ai_JL.getD i 0 → Cond.eq (.elem (st_v i) (.int (Int32.ofNat j))) (.int ((ai_JB.getD i []).getD j 0)) ∈ st_F := by decide +kernel
theorem st_6 : ∀ i : Nat, i < 7 → ∀ j : Nat, j < 7 → i ≠ j → Cond.not (Cond.eq (st_t i) (st_t j)) ∈ st_F ∨ Cond.not (Cond.eq (st_t j) (st_t i)) ∈ st_F := by decide +kernel
theorem st_7 : ∀ i : Nat, i < 7 → ai_JL.getD i 0 < 2 ^ 31 := by decide +kernel
theorem st_8 : ∀ i : Nat, i < 7 → Cond.stringRef RX2 (st_k i) (ai_JX.getD i (0, "")).2 ∈ lw_tbl := by decide +kernel
theorem st_9 : Cond.laysStatic "java/lang/String" "COMPACT_STRINGS" "Z" ∈ lw_tbl := by decide +kernel
theorem st_10 : Cond.laysStatic "jdk/internal/util/Preconditions" "SIOOBE_FORMATTER" "Ljava/util/function/BiFunction;" ∈ lw_tbl := by decide +kernel
theorem st_11 : Cond.initialized "java/lang/String" ∈ lw_tbl := by decide +kernel
theorem st_12 : Cond.initialized "jdk/internal/util/Preconditions" ∈ lw_tbl := by decide +kernel
theorem st_13 : Cond.eq (.static "java/lang/String" "COMPACT_STRINGS" "Z") (.int 1) ∈ st_F := by decide +kernel
theorem st_14 : Cond.isRef (.static "jdk/internal/util/Preconditions" "SIOOBE_FORMATTER" "Ljava/util/function/BiFunction;") ∈ st_F := by decide +kernel
theorem st_15 : ct_AO ∈ lw_tbl := by decide +kernel
theorem st_nj {s : State} {b : Nat} (hts : ∀ w ∈ lw_tbl, w.before #[Value.ref b] s = true) (hgv : (Jvm.Cond.and given_1 narrow_1).before #[Value.ref b] s = true) : ai_nj (fun q => s.heap.size ≤ q) s := by
  have hs := flat_of_before _ hgv
  have hA : ∀ a : Nat, a < s.heap.size → ¬ (fun q => s.heap.size ≤ q) a := fun a h => Nat.not_le.mpr h
  refine ⟨fun w hw => ?_, ?_⟩
  · obtain ⟨a, i, y, h, rfl⟩ := ai_NW_on w hw
    exact va_Nw.of rfl (hts _ (List.mem_filter.mp hw).1)
  · obtain ⟨adK, adV, h1, h2⟩ := vk_Sof (args := #[Value.ref b]) (s := s) (N := 7) (tm := st_t) (len := ai_JL) (byt := ai_JB) (A := fun q => s.heap.size ≤ q) st_7 (fun i hi => hs _ (st_1 i hi)) (fun i hi => hs _ (st_2 i hi)) (fun i hi => hs _ (st_3 i hi)) (fun i hi => hs _ (st_4 i hi)) (fun i hi j hj => hs _ (st_5 i hi j hj)) (fun i j hi hj hij => (st_6 i hi j hj hij).imp (fun h => hs _ h) (fun h => hs _ h)) hA
    refine ⟨adK, adV, h1, fun i x hx => ?_, va_Zof (hts _ st_9) (hts _ st_11) (va_eqt (hs _ st_13)) hA, va_Zqof (hts _ st_10) (hts _ st_12) (hs _ st_14) hA⟩
    have key : ∀ i : Nat, i < 7 → vk_R RX2 (st_k i) (ai_JX.getD i (0, "")).2 (adK i) s := fun i hi => vk_R.of (hts _ (st_8 i hi)) (h2 i hi)
    match i, hx with
    | 0, hx => cases hx; exact key 0 (by decide)
    | 1, hx => cases hx; exact key 1 (by decide)
    | 2, hx => cases hx; exact key 2 (by decide)
    | 3, hx => cases hx; exact key 3 (by decide)
    | 4, hx => cases hx; exact key 4 (by decide)
    | 5, hx => cases hx; exact key 5 (by decide)
    | 6, hx => cases hx; exact key 6 (by decide)
    | i + 7, hx => cases hx
