/-! the constructors -/
def km0 : ai_m := jm yX0_init cX0_init 1 none
def kd0 : List Value := [.int 0, .int 0, .int 0, .int 0, .null, .null, .null, .null, .null]
def kT0 : List ai_c := [(0, 0, [(1, 0, 0, 0), (1, 0, 10, 10), (1, 0, 0, 0), (1, 0, 0, 0), (0, 1, 0, 0), (0, 2, 0, 0), (0, 3, 0, 0), (0, 4, 0, 0), (0, 5, 0, 0)]), (1, 4, [(1, 0, 0, 0)]), (1, 4, [(1, 0, 0, 0)]), (1, 4, [(1, 0, 0, 0)]), (1, 4, [(1, 0, 0, 0)]), (1, 8, [(1, 0, 0, 0)])]
set_option maxRecDepth 100000 in
theorem kc0 : Cond.code km0.1 km0.2.1 km0.2.2.1 km0.2.2.2.1 ∈ ai_GT := List.mem_filter.mpr ⟨List.mem_of_getElem? (i := 78) rfl, rfl⟩
theorem knD0 : ∀ j, j < 9 → defaultValue (tyX0 j) = vp_V kd0 j := fun j hj => by
  match j, hj with
  | 0, _ => rfl
  | 1, _ => rfl
  | 2, _ => rfl
  | 3, _ => rfl
  | 4, _ => rfl
  | 5, _ => rfl
  | 6, _ => rfl
  | 7, _ => rfl
  | 8, _ => rfl
  | j + 9, hj => exact absurd hj (by omega)
def km1 : ai_m := jm yX1_init cX1_init 1 none
def kd1 : List Value := [.null, .long 0, .int 0]
def kT1 : List ai_c := [(0, 1, [(0, 1, 0, 0), (2, 0, 0, 0), (1, 0, 0, 0)]), (3, 100, [])]
set_option maxRecDepth 100000 in
theorem kc1 : Cond.code km1.1 km1.2.1 km1.2.2.1 km1.2.2.2.1 ∈ ai_GT := List.mem_filter.mpr ⟨List.mem_of_getElem? (i := 206) rfl, rfl⟩
theorem knD1 : ∀ j, j < 3 → defaultValue (tyX1 j) = vp_V kd1 j := fun j hj => by
  match j, hj with
  | 0, _ => rfl
  | 1, _ => rfl
  | 2, _ => rfl
  | j + 3, hj => exact absurd hj (by omega)
def km2 : ai_m := jm yX2_init cX2_init 1 none
def kd2 : List Value := [.null, .int 0, .null, .int 0, .int 0, .int 0, .int 0, .int 0, .int 0, .int 0, .int 0]
def kT2 : List ai_c := [(0, 2, [(0, 1, 0, 0), (1, 0, 0, 0), (0, 2, 0, 0), (1, 0, 0, 0), (1, 0, 0, 0), (1, 0, 0, 0), (1, 0, 0, 0), (1, 0, 0, 0), (1, 0, 0, 0), (1, 0, 0, 0), (1, 0, 0, 0)]), (1, 160, [(1, 0, 0, 0)]), (0, 0, [(1, 0, 0, 0), (1, 0, 10, 10), (1, 0, 0, 0), (1, 0, 0, 0), (0, 3, 0, 0), (0, 4, 0, 0), (0, 5, 0, 0), (0, 6, 0, 0), (0, 7, 0, 0)]), (1, 4, [(1, 0, 0, 0)]), (1, 4, [(1, 0, 0, 0)]), (1, 4, [(1, 0, 0, 0)]), (1, 4, [(1, 0, 0, 0)]), (1, 8, [(1, 0, 0, 0)])]
set_option maxRecDepth 100000 in
theorem kc2 : Cond.code km2.1 km2.2.1 km2.2.2.1 km2.2.2.2.1 ∈ ai_GT := List.mem_filter.mpr ⟨List.mem_of_getElem? (i := 135) rfl, rfl⟩
theorem knD2 : ∀ j, j < 11 → defaultValue (tyX2 j) = vp_V kd2 j := fun j hj => by
  match j, hj with
  | 0, _ => rfl
  | 1, _ => rfl
  | 2, _ => rfl
  | 3, _ => rfl
  | 4, _ => rfl
  | 5, _ => rfl
  | 6, _ => rfl
  | 7, _ => rfl
  | 8, _ => rfl
  | 9, _ => rfl
  | 10, _ => rfl
  | j + 11, hj => exact absurd hj (by omega)
def km3 : ai_m := jm yX3_init cX3_init 2 none
def kd3 : List Value := [.null, .null, .null]
def kT3 : List ai_c := [(0, 3, [(0, 1, 0, 0), (0, 2, 0, 0), (0, 3, 0, 0)]), (1, 4, [(1, 0, (-1), (-1)), (1, 0, (-1), (-1)), (1, 0, (-1), (-1)), (1, 0, (-1), (-1))]), (1, 4, [(1, 0, 0, 0)]), (4, 4, [(0, 4, 0, 0), (0, 5, 0, 0), (0, 6, 0, 0), (0, 7, 0, 0)]), (1, 40, [(1, 0, (-2147483648), 2147483647)]), (1, 40, [(1, 0, (-2147483648), 2147483647)]), (1, 40, [(1, 0, (-2147483648), 2147483647)]), (1, 40, [(1, 0, (-2147483648), 2147483647)])]
set_option maxRecDepth 100000 in
theorem kc3 : Cond.code km3.1 km3.2.1 km3.2.2.1 km3.2.2.2.1 ∈ ai_GT := List.mem_filter.mpr ⟨List.mem_of_getElem? (i := 223) rfl, rfl⟩
theorem knD3 : ∀ j, j < 3 → defaultValue (tyX3 j) = vp_V kd3 j := fun j hj => by
  match j, hj with
  | 0, _ => rfl
  | 1, _ => rfl
  | 2, _ => rfl
  | j + 3, hj => exact absurd hj (by omega)
def km4 : ai_m := jm yX4_init cX4_init 1 none
def kd4 : List Value := [.int 0, .null, .null, .null, .null]
def kT4 : List ai_c := [(0, 4, [(1, 0, 0, 0), (0, 1, 0, 0), (0, 2, 0, 0), (0, 3, 0, 0), (0, 4, 0, 0)]), (1, 6, [(1, 0, 0, 0)]), (1, 6, [(1, 0, 0, 0)]), (1, 6, [(1, 0, 0, 0)]), (1, 6, [(1, 0, 0, 0)])]
set_option maxRecDepth 100000 in
theorem kc4 : Cond.code km4.1 km4.2.1 km4.2.2.1 km4.2.2.2.1 ∈ ai_GT := List.mem_filter.mpr ⟨List.mem_of_getElem? (i := 183) rfl, rfl⟩
theorem knD4 : ∀ j, j < 5 → defaultValue (tyX4 j) = vp_V kd4 j := fun j hj => by
  match j, hj with
  | 0, _ => rfl
  | 1, _ => rfl
  | 2, _ => rfl
  | 3, _ => rfl
  | 4, _ => rfl
  | j + 5, hj => exact absurd hj (by omega)
def km5 : ai_m := jm yX5_init cX5_init 1 none
def kd5 : List Value := [.null, .null, .null, .null, .null, .null, .null, .null, .null, .int 0, .int 0]
def kT5 : List ai_c := [(0, 5, [(0, 1, 0, 0), (0, 7, 0, 0), (0, 13, 0, 0), (0, 19, 0, 0), (0, 25, 0, 0), (0, 26, 0, 0), (0, 34, 0, 0), (0, 39, 0, 0), (0, 41, 0, 0), (1, 0, 0, 0), (1, 0, 0, 0)]), (0, 0, [(1, 0, 0, 0), (1, 0, 10, 10), (1, 0, 0, 0), (1, 0, 0, 0), (0, 2, 0, 0), (0, 3, 0, 0), (0, 4, 0, 0), (0, 5, 0, 0), (0, 6, 0, 0)]), (1, 4, [(1, 0, 0, 0)]), (1, 4, [(1, 0, 0, 0)]), (1, 4, [(1, 0, 0, 0)]), (1, 4, [(1, 0, 0, 0)]), (1, 8, [(1, 0, 0, 0)]), (0, 0, [(1, 0, 0, 0), (1, 0, 10, 10), (1, 0, 0, 0), (1, 0, 0, 0), (0, 8, 0, 0), (0, 9, 0, 0), (0, 10, 0, 0), (0, 11, 0, 0), (0, 12, 0, 0)]), (1, 4, [(1, 0, 0, 0)]), (1, 4, [(1, 0, 0, 0)]), (1, 4, [(1, 0, 0, 0)]), (1, 4, [(1, 0, 0, 0)]), (1, 8, [(1, 0, 0, 0)]), (0, 0, [(1, 0, 0, 0), (1, 0, 10, 10), (1, 0, 0, 0), (1, 0, 0, 0), (0, 14, 0, 0), (0, 15, 0, 0), (0, 16, 0, 0), (0, 17, 0, 0), (0, 18, 0, 0)]), (1, 4, [(1, 0, 0, 0)]), (1, 4, [(1, 0, 0, 0)]), (1, 4, [(1, 0, 0, 0)]), (1, 4, [(1, 0, 0, 0)]), (1, 8, [(1, 0, 0, 0)]), (0, 0, [(1, 0, 0, 0), (1, 0, 10, 10), (1, 0, 0, 0), (1, 0, 0, 0), (0, 20, 0, 0), (0, 21, 0, 0), (0, 22, 0, 0), (0, 23, 0, 0), (0, 24, 0, 0)]), (1, 4, [(1, 0, 0, 0)]), (1, 4, [(1, 0, 0, 0)]), (1, 4, [(1, 0, 0, 0)]), (1, 4, [(1, 0, 0, 0)]), (1, 8, [(1, 0, 0, 0)]), (2, 2, [(1, 0, 0, 0)]), (0, 2, [(0, 27, 0, 0), (1, 0, 0, 0), (0, 28, 0, 0), (1, 0, 0, 0), (1, 0, 0, 0), (1, 0, 0, 0), (1, 0, 0, 0), (1, 0, 0, 0), (1, 0, 0, 0), (1, 0, 0, 0), (1, 0, 0, 0)]), (1, 160, [(1, 0, 0, 0)]), (0, 0, [(1, 0, 0, 0), (1, 0, 10, 10), (1, 0, 0, 0), (1, 0, 0, 0), (0, 29, 0, 0), (0, 30, 0, 0), (0, 31, 0, 0), (0, 32, 0, 0), (0, 33, 0, 0)]), (1, 4, [(1, 0, 0, 0)]), (1, 4, [(1, 0, 0, 0)]), (1, 4, [(1, 0, 0, 0)]), (1, 4, [(1, 0, 0, 0)]), (1, 8, [(1, 0, 0, 0)]), (0, 4, [(1, 0, 0, 0), (0, 35, 0, 0), (0, 36, 0, 0), (0, 37, 0, 0), (0, 38, 0, 0)]), (1, 6, [(1, 0, 0, 0)]), (1, 6, [(1, 0, 0, 0)]), (1, 6, [(1, 0, 0, 0)]), (1, 6, [(1, 0, 0, 0)]), (0, 1, [(0, 40, 0, 0), (2, 0, 0, 0), (1, 0, 0, 0)]), (3, 100, []), (0, 3, [(0, 42, 0, 0), (0, 43, 0, 0), (0, 44, 0, 0)]), (1, 4, [(1, 0, (-1), (-1)), (1, 0, (-1), (-1)), (1, 0, (-1), (-1)), (1, 0, (-1), (-1))]), (1, 4, [(1, 0, 0, 0)]), (4, 4, [(0, 45, 0, 0), (0, 46, 0, 0), (0, 47, 0, 0), (0, 48, 0, 0)]), (1, 40, [(1, 0, (-2147483648), 2147483647)]), (1, 40, [(1, 0, (-2147483648), 2147483647)]), (1, 40, [(1, 0, (-2147483648), 2147483647)]), (1, 40, [(1, 0, (-2147483648), 2147483647)])]
set_option maxRecDepth 100000 in
theorem kc5 : Cond.code km5.1 km5.2.1 km5.2.2.1 km5.2.2.2.1 ∈ ai_GT := List.mem_filter.mpr ⟨List.mem_of_getElem? (i := 70) rfl, rfl⟩
theorem knD5 : ∀ j, j < 11 → defaultValue (tyX5 j) = vp_V kd5 j := fun j hj => by
  match j, hj with
  | 0, _ => rfl
  | 1, _ => rfl
  | 2, _ => rfl
  | 3, _ => rfl
  | 4, _ => rfl
  | 5, _ => rfl
  | 6, _ => rfl
  | 7, _ => rfl
  | 8, _ => rfl
  | 9, _ => rfl
  | 10, _ => rfl
  | j + 11, hj => exact absurd hj (by omega)
def km6 : ai_m := jm yX6_init cX6_init 1 none
def kd6 : List Value := [.null, .int 0, .null, .int 0, .int 0, .int 0, .null, .int 0, .int 0, .int 0, .int 0, .int 0, .int 0, .int 0, .int 0, .null, .null, .int 0, .null, .int 0, .null, .null, .null, .null, .int 0]
def kT6 : List ai_c := [(0, 6, [(0, 1, 0, 0), (1, 0, 0, 0), (0, 2, 0, 0), (1, 0, 0, 0), (1, 0, 0, 0), (1, 0, 0, 0), (0, 3, 0, 0), (1, 0, 0, 0), (1, 0, 0, 0), (1, 0, 0, 0), (1, 0, 0, 0), (1, 0, 0, 0), (1, 0, 0, 0), (1, 0, 0, 0), (1, 0, 0, 0), (0, 4, 0, 0), (0, 5, 0, 0), (1, 0, 0, 0), (0, 6, 0, 0), (1, 0, 0, 0), (0, 7, 0, 0), (0, 8, 0, 0), (0, 9, 0, 0), (0, 10, 0, 0), (1, 0, 0, 0)]), (1, 162, [(1, 0, 0, 0)]), (1, 27, [(1, 0, 0, 0)]), (1, 160, [(1, 0, 0, 0)]), (1, 8, [(1, 0, 0, 0), (1, 0, 5, 5), (1, 0, 10, 10), (1, 0, 13, 13), (1, 0, 16, 16), (1, 0, 21, 21), (1, 0, 27, 27), (1, 0, 31, 31)]), (1, 31, [(1, 0, 112, 112), (1, 0, 108, 108), (1, 0, 97, 97), (1, 0, 105, 105), (1, 0, 110, 110), (1, 0, 115, 115), (1, 0, 110, 110), (1, 0, 97, 97), (1, 0, 107, 107), (1, 0, 101, 101), (1, 0, 115, 115), (1, 0, 101, 101), (1, 0, 97, 97), (1, 0, 97, 97), (1, 0, 103, 103), (1, 0, 101, 101), (1, 0, 103, 103), (1, 0, 117, 117), (1, 0, 101, 101), (1, 0, 115, 115), (1, 0, 116, 116), (1, 0, 108, 108), (1, 0, 97, 97), (1, 0, 117, 117), (1, 0, 103, 103), (1, 0, 104, 104), (1, 0, 115, 115), (1, 0, 112, 112), (1, 0, 108, 108), (1, 0, 97, 97), (1, 0, 110, 110)]), (1, 24, [(1, 0, 0, 0)]), (2, 2, [(1, 0, 0, 0)]), (1, 4, [(1, 0, (-4), (-4)), (1, 0, (-4), (-4)), (1, 0, (-4), (-4)), (1, 0, (-4), (-4))]), (1, 4, [(1, 0, 0, 0)]), (1, 160, [(1, 0, 0, 0)])]
set_option maxRecDepth 100000 in
theorem kc6 : Cond.code km6.1 km6.2.1 km6.2.2.1 km6.2.2.2.1 ∈ ai_GT := List.mem_filter.mpr ⟨List.mem_of_getElem? (i := 759) rfl, rfl⟩
theorem knD6 : ∀ j, j < 25 → defaultValue (tyX6 j) = vp_V kd6 j := fun j hj => by
  match j, hj with
  | 0, _ => rfl
  | 1, _ => rfl
  | 2, _ => rfl
  | 3, _ => rfl
  | 4, _ => rfl
  | 5, _ => rfl
  | 6, _ => rfl
  | 7, _ => rfl
  | 8, _ => rfl
  | 9, _ => rfl
  | 10, _ => rfl
  | 11, _ => rfl
  | 12, _ => rfl
  | 13, _ => rfl
  | 14, _ => rfl
  | 15, _ => rfl
  | 16, _ => rfl
  | 17, _ => rfl
  | 18, _ => rfl
  | 19, _ => rfl
  | 20, _ => rfl
  | 21, _ => rfl
  | 22, _ => rfl
  | 23, _ => rfl
  | 24, _ => rfl
  | j + 25, hj => exact absurd hj (by omega)
theorem ko1 : Cond.instanceMethod objectInit ∈ ai_GT := (tv_mem (by decide +kernel))
set_option maxRecDepth 100000 in
theorem ko2 : Cond.code objectInit ⟨#[0xb1]⟩ 1 none ∈ ai_GT := List.mem_filter.mpr ⟨List.mem_of_getElem? (i := 73) rfl, rfl⟩
theorem ka_int : Cond.arrayClass .int ∈ ai_GT := (tv_mem (by decide +kernel))
theorem ka_boolean : Cond.arrayClass .boolean ∈ ai_GT := (tv_mem (by decide +kernel))
theorem ka_long : Cond.arrayClass .long ∈ ai_GT := (tv_mem (by decide +kernel))
theorem kw_aa : Cond.classLink RX3 18 "[[I" ∈ ai_GT := (tv_mem (by decide +kernel))
def ki0_0 : List (Nat × Instr × Nat) := [(0, .aload_n 0, 1), (1, .invokespecial 3, 3), (4, .aload_n 0, 1), (5, .bipush 10, 2), (7, .putfield 9, 3), (10, .aload_n 0, 1), (11, .iconst 4, 1), (12, .newarray .int, 2), (14, .putfield 15, 3), (17, .aload_n 0, 1), (18, .iconst 4, 1), (19, .newarray .int, 2), (21, .putfield 19, 3), (24, .aload_n 0, 1), (25, .iconst 4, 1), (26, .newarray .int, 2), (28, .putfield 22, 3), (31, .aload_n 0, 1), (32, .iconst 4, 1), (33, .newarray .int, 2), (35, .putfield 25, 3), (38, .aload_n 0, 1), (39, .bipush 8, 2), (41, .newarray .int, 2), (43, .putfield 28, 3), (46, .return_, 1)]
theorem kj0_0 : ∀ q ∈ ki0_0, decode cX0_init q.1 = .ok (q.2.1, q.2.2) := by decide +kernel
set_option maxHeartbeats 4000000 in
set_option maxRecDepth 100000 in
theorem kx0 (l : Launch) (d : Nat) (hd : 1 ≤ d) : ct_Met l km0 d 5 24 0 kd0 kT0 := by
  refine ct_met l (by decide) rfl (by decide) rfl ?_
  intro p e s m args below meth c ls D q0 A C I hl hr hlk
  have hl : lv_has ls 1 [(0, .ref q0)] := hl
  generalize ([] : List Loc) = locs at I ⊢
  refine lv_aload_n C.1 C.2.1 (kj0_0 (0, .aload_n 0, 1) (List.mem_of_getElem? (i := 0) rfl)) rfl (lv_at hl 0 rfl) ?_
  refine ct_obj C (by omega) (tv_mem (by decide +kernel)) ko1 ko2 hl.1 (kj0_0 (1, .invokespecial 3, 3) (List.mem_of_getElem? (i := 1) rfl)) ?_
  refine lv_aload_n C.1 C.2.1 (kj0_0 (4, .aload_n 0, 1) (List.mem_of_getElem? (i := 2) rfl)) rfl (lv_at hl 0 rfl) ?_
  refine lv_bipush (v := 10) C.1 C.2.1 (kj0_0 (5, .bipush 10, 2) (List.mem_of_getElem? (i := 3) rfl)) (by decide) ?_
  refine ct_putN C I (r := (RX0, TX0, 9)) rfl (j := 1) (by decide) (tv_mem (by decide +kernel)) rfl (ty := .int) (v := .int 10) (by decide +kernel) rfl rfl (Nat.le_of_ble_eq_true rfl) (kj0_0 (7, .putfield 9, 3) (List.mem_of_getElem? (i := 4) rfl)) (fun H locs I => ?_)
  have I : ct_I D A s q0 0 [.int 0, .int 10, .int 0, .int 0, .null, .null, .null, .null, .null] [] [] H locs := I
  refine lv_aload_n C.1 C.2.1 (kj0_0 (10, .aload_n 0, 1) (List.mem_of_getElem? (i := 5) rfl)) rfl (lv_at hl 0 rfl) ?_
  refine lv_iconst (v := 4) C.1 C.2.1 (kj0_0 (11, .iconst 4, 1) (List.mem_of_getElem? (i := 6) rfl)) (by decide) ?_
  refine ct_arr (at_ := .int) (N := 4) (ty := .int) (a0 := (4, .inl (fun _ => 0))) (t := (1, 4, [(1, 0, 0, 0)])) C I ka_int rfl (fun _ => rfl) (by decide) (by decide) (by decide) (Nat.le_of_ble_eq_true (rfl : Nat.ble 1 _ = true)) (Nat.le_of_ble_eq_true (rfl : Nat.ble 4 _ = true)) (ct_z1 (by decide)) (kj0_0 (12, .newarray .int, 2) (List.mem_of_getElem? (i := 7) rfl)) (fun q1 H I => ?_)
  have I : ct_I D A s q0 0 [.int 0, .int 10, .int 0, .int 0, .null, .null, .null, .null, .null] [(1, 4, [(1, 0, 0, 0)])] [(1, q1)] H locs := I
  refine W.widen (k := 1) (n := 4) (by decide) (by decide) ?_
  refine ct_putF C I (r := (RX0, TX0, 9)) rfl (j := 4) (by decide) (tv_mem (by decide +kernel)) rfl rfl (ty := (.array .int)) (v := .ref q1) (by decide +kernel) rfl rfl (Nat.le_of_ble_eq_true rfl) (kj0_0 (14, .putfield 15, 3) (List.mem_of_getElem? (i := 8) rfl)) (fun H locs I => ?_)
  have I : ct_I D A s q0 0 [.int 0, .int 10, .int 0, .int 0, .ref q1, .null, .null, .null, .null] [(1, 4, [(1, 0, 0, 0)])] [(1, q1)] H locs := I
  refine lv_aload_n C.1 C.2.1 (kj0_0 (17, .aload_n 0, 1) (List.mem_of_getElem? (i := 9) rfl)) rfl (lv_at hl 0 rfl) ?_
  refine lv_iconst (v := 4) C.1 C.2.1 (kj0_0 (18, .iconst 4, 1) (List.mem_of_getElem? (i := 10) rfl)) (by decide) ?_
  refine ct_arr (at_ := .int) (N := 4) (ty := .int) (a0 := (4, .inl (fun _ => 0))) (t := (1, 4, [(1, 0, 0, 0)])) C I ka_int rfl (fun _ => rfl) (by decide) (by decide) (by decide) (Nat.le_of_ble_eq_true (rfl : Nat.ble 2 _ = true)) (Nat.le_of_ble_eq_true (rfl : Nat.ble 8 _ = true)) (ct_z1 (by decide)) (kj0_0 (19, .newarray .int, 2) (List.mem_of_getElem? (i := 11) rfl)) (fun q2 H I => ?_)
  have I : ct_I D A s q0 0 [.int 0, .int 10, .int 0, .int 0, .ref q1, .null, .null, .null, .null] [(1, 4, [(1, 0, 0, 0)]), (1, 4, [(1, 0, 0, 0)])] [(1, q1), (2, q2)] H locs := I
  refine W.widen (k := 2) (n := 8) (by decide) (by decide) ?_
  refine ct_putF C I (r := (RX0, TX0, 9)) rfl (j := 5) (by decide) (tv_mem (by decide +kernel)) rfl rfl (ty := (.array .int)) (v := .ref q2) (by decide +kernel) rfl rfl (Nat.le_of_ble_eq_true rfl) (kj0_0 (21, .putfield 19, 3) (List.mem_of_getElem? (i := 12) rfl)) (fun H locs I => ?_)
  have I : ct_I D A s q0 0 [.int 0, .int 10, .int 0, .int 0, .ref q1, .ref q2, .null, .null, .null] [(1, 4, [(1, 0, 0, 0)]), (1, 4, [(1, 0, 0, 0)])] [(1, q1), (2, q2)] H locs := I
  refine lv_aload_n C.1 C.2.1 (kj0_0 (24, .aload_n 0, 1) (List.mem_of_getElem? (i := 13) rfl)) rfl (lv_at hl 0 rfl) ?_
  refine lv_iconst (v := 4) C.1 C.2.1 (kj0_0 (25, .iconst 4, 1) (List.mem_of_getElem? (i := 14) rfl)) (by decide) ?_
  refine ct_arr (at_ := .int) (N := 4) (ty := .int) (a0 := (4, .inl (fun _ => 0))) (t := (1, 4, [(1, 0, 0, 0)])) C I ka_int rfl (fun _ => rfl) (by decide) (by decide) (by decide) (Nat.le_of_ble_eq_true (rfl : Nat.ble 3 _ = true)) (Nat.le_of_ble_eq_true (rfl : Nat.ble 12 _ = true)) (ct_z1 (by decide)) (kj0_0 (26, .newarray .int, 2) (List.mem_of_getElem? (i := 15) rfl)) (fun q3 H I => ?_)
  have I : ct_I D A s q0 0 [.int 0, .int 10, .int 0, .int 0, .ref q1, .ref q2, .null, .null, .null] [(1, 4, [(1, 0, 0, 0)]), (1, 4, [(1, 0, 0, 0)]), (1, 4, [(1, 0, 0, 0)])] [(1, q1), (2, q2), (3, q3)] H locs := I
  refine W.widen (k := 3) (n := 12) (by decide) (by decide) ?_
  refine ct_putF C I (r := (RX0, TX0, 9)) rfl (j := 6) (by decide) (tv_mem (by decide +kernel)) rfl rfl (ty := (.array .int)) (v := .ref q3) (by decide +kernel) rfl rfl (Nat.le_of_ble_eq_true rfl) (kj0_0 (28, .putfield 22, 3) (List.mem_of_getElem? (i := 16) rfl)) (fun H locs I => ?_)
  have I : ct_I D A s q0 0 [.int 0, .int 10, .int 0, .int 0, .ref q1, .ref q2, .ref q3, .null, .null] [(1, 4, [(1, 0, 0, 0)]), (1, 4, [(1, 0, 0, 0)]), (1, 4, [(1, 0, 0, 0)])] [(1, q1), (2, q2), (3, q3)] H locs := I
  refine lv_aload_n C.1 C.2.1 (kj0_0 (31, .aload_n 0, 1) (List.mem_of_getElem? (i := 17) rfl)) rfl (lv_at hl 0 rfl) ?_
  refine lv_iconst (v := 4) C.1 C.2.1 (kj0_0 (32, .iconst 4, 1) (List.mem_of_getElem? (i := 18) rfl)) (by decide) ?_
  refine ct_arr (at_ := .int) (N := 4) (ty := .int) (a0 := (4, .inl (fun _ => 0))) (t := (1, 4, [(1, 0, 0, 0)])) C I ka_int rfl (fun _ => rfl) (by decide) (by decide) (by decide) (Nat.le_of_ble_eq_true (rfl : Nat.ble 4 _ = true)) (Nat.le_of_ble_eq_true (rfl : Nat.ble 16 _ = true)) (ct_z1 (by decide)) (kj0_0 (33, .newarray .int, 2) (List.mem_of_getElem? (i := 19) rfl)) (fun q4 H I => ?_)
  have I : ct_I D A s q0 0 [.int 0, .int 10, .int 0, .int 0, .ref q1, .ref q2, .ref q3, .null, .null] [(1, 4, [(1, 0, 0, 0)]), (1, 4, [(1, 0, 0, 0)]), (1, 4, [(1, 0, 0, 0)]), (1, 4, [(1, 0, 0, 0)])] [(1, q1), (2, q2), (3, q3), (4, q4)] H locs := I
  refine W.widen (k := 4) (n := 16) (by decide) (by decide) ?_
  refine ct_putF C I (r := (RX0, TX0, 9)) rfl (j := 7) (by decide) (tv_mem (by decide +kernel)) rfl rfl (ty := (.array .int)) (v := .ref q4) (by decide +kernel) rfl rfl (Nat.le_of_ble_eq_true rfl) (kj0_0 (35, .putfield 25, 3) (List.mem_of_getElem? (i := 20) rfl)) (fun H locs I => ?_)
  have I : ct_I D A s q0 0 [.int 0, .int 10, .int 0, .int 0, .ref q1, .ref q2, .ref q3, .ref q4, .null] [(1, 4, [(1, 0, 0, 0)]), (1, 4, [(1, 0, 0, 0)]), (1, 4, [(1, 0, 0, 0)]), (1, 4, [(1, 0, 0, 0)])] [(1, q1), (2, q2), (3, q3), (4, q4)] H locs := I
  refine lv_aload_n C.1 C.2.1 (kj0_0 (38, .aload_n 0, 1) (List.mem_of_getElem? (i := 21) rfl)) rfl (lv_at hl 0 rfl) ?_
  refine lv_bipush (v := 8) C.1 C.2.1 (kj0_0 (39, .bipush 8, 2) (List.mem_of_getElem? (i := 22) rfl)) (by decide) ?_
  refine ct_arr (at_ := .int) (N := 8) (ty := .int) (a0 := (8, .inl (fun _ => 0))) (t := (1, 8, [(1, 0, 0, 0)])) C I ka_int rfl (fun _ => rfl) (by decide) (by decide) (by decide) (Nat.le_of_ble_eq_true (rfl : Nat.ble 5 _ = true)) (Nat.le_of_ble_eq_true (rfl : Nat.ble 24 _ = true)) (ct_z1 (by decide)) (kj0_0 (41, .newarray .int, 2) (List.mem_of_getElem? (i := 23) rfl)) (fun q5 H I => ?_)
  have I : ct_I D A s q0 0 [.int 0, .int 10, .int 0, .int 0, .ref q1, .ref q2, .ref q3, .ref q4, .null] [(1, 4, [(1, 0, 0, 0)]), (1, 4, [(1, 0, 0, 0)]), (1, 4, [(1, 0, 0, 0)]), (1, 4, [(1, 0, 0, 0)]), (1, 8, [(1, 0, 0, 0)])] [(1, q1), (2, q2), (3, q3), (4, q4), (5, q5)] H locs := I
  refine W.widen (k := 5) (n := 24) (by decide) (by decide) ?_
  refine ct_putF C I (r := (RX0, TX0, 9)) rfl (j := 8) (by decide) (tv_mem (by decide +kernel)) rfl rfl (ty := (.array .int)) (v := .ref q5) (by decide +kernel) rfl rfl (Nat.le_of_ble_eq_true rfl) (kj0_0 (43, .putfield 28, 3) (List.mem_of_getElem? (i := 24) rfl)) (fun H locs I => ?_)
  have I : ct_I D A s q0 0 [.int 0, .int 10, .int 0, .int 0, .ref q1, .ref q2, .ref q3, .ref q4, .ref q5] [(1, 4, [(1, 0, 0, 0)]), (1, 4, [(1, 0, 0, 0)]), (1, 4, [(1, 0, 0, 0)]), (1, 4, [(1, 0, 0, 0)]), (1, 8, [(1, 0, 0, 0)])] [(1, q1), (2, q2), (3, q3), (4, q4), (5, q5)] H locs := I
  exact ct_ret (F := [(1, 0, 0, 0), (1, 0, 10, 10), (1, 0, 0, 0), (1, 0, 0, 0), (0, 1, 0, 0), (0, 2, 0, 0), (0, 3, 0, 0), (0, 4, 0, 0), (0, 5, 0, 0)]) C I ⟨Or.inr (Or.inl ⟨rfl, _, rfl, by decide, by decide⟩), Or.inr (Or.inl ⟨rfl, _, rfl, by decide, by decide⟩), Or.inr (Or.inl ⟨rfl, _, rfl, by decide, by decide⟩), Or.inr (Or.inl ⟨rfl, _, rfl, by decide, by decide⟩), Or.inl ⟨rfl, _, List.mem_of_getElem? (i := 0) rfl, rfl⟩, Or.inl ⟨rfl, _, List.mem_of_getElem? (i := 1) rfl, rfl⟩, Or.inl ⟨rfl, _, List.mem_of_getElem? (i := 2) rfl, rfl⟩, Or.inl ⟨rfl, _, List.mem_of_getElem? (i := 3) rfl, rfl⟩, Or.inl ⟨rfl, _, List.mem_of_getElem? (i := 4) rfl, rfl⟩, trivial⟩ hr hlk (Nat.le_refl _) (Nat.le_refl _) rfl (kj0_0 (46, .return_, 1) (List.mem_of_getElem? (i := 25) rfl))
def ki1_0 : List (Nat × Instr × Nat) := [(0, .aload_n 0, 1), (1, .invokespecial 3, 3), (4, .aload_n 0, 1), (5, .bipush 100, 2), (7, .newarray .long, 2), (9, .putfield 9, 3), (12, .return_, 1)]
theorem kj1_0 : ∀ q ∈ ki1_0, decode cX1_init q.1 = .ok (q.2.1, q.2.2) := by decide +kernel
set_option maxHeartbeats 4000000 in
set_option maxRecDepth 100000 in
theorem kx1 (l : Launch) (d : Nat) (hd : 1 ≤ d) : ct_Met l km1 d 1 100 1 kd1 kT1 := by
  refine ct_met l (by decide) rfl (by decide) rfl ?_
  intro p e s m args below meth c ls D q0 A C I hl hr hlk
  have hl : lv_has ls 1 [(0, .ref q0)] := hl
  generalize ([] : List Loc) = locs at I ⊢
  refine lv_aload_n C.1 C.2.1 (kj1_0 (0, .aload_n 0, 1) (List.mem_of_getElem? (i := 0) rfl)) rfl (lv_at hl 0 rfl) ?_
  refine ct_obj C (by omega) (tv_mem (by decide +kernel)) ko1 ko2 hl.1 (kj1_0 (1, .invokespecial 3, 3) (List.mem_of_getElem? (i := 1) rfl)) ?_
  refine lv_aload_n C.1 C.2.1 (kj1_0 (4, .aload_n 0, 1) (List.mem_of_getElem? (i := 2) rfl)) rfl (lv_at hl 0 rfl) ?_
  refine lv_bipush (v := 100) C.1 C.2.1 (kj1_0 (5, .bipush 100, 2) (List.mem_of_getElem? (i := 3) rfl)) (by decide) ?_
  refine ct_arr (at_ := .long) (N := 100) (ty := .long) (a0 := (100, .inr (.inl (fun _ => 0)))) (t := (3, 100, [])) C I ka_long rfl (fun _ => rfl) (by decide) (by decide) (by decide) (Nat.le_of_ble_eq_true (rfl : Nat.ble 1 _ = true)) (Nat.le_of_ble_eq_true (rfl : Nat.ble 100 _ = true)) (ct_z3) (kj1_0 (7, .newarray .long, 2) (List.mem_of_getElem? (i := 4) rfl)) (fun q1 H I => ?_)
  have I : ct_I D A s q0 1 [.null, .long 0, .int 0] [(3, 100, [])] [(1, q1)] H locs := I
  refine W.widen (k := 1) (n := 100) (by decide) (by decide) ?_
  refine ct_putF C I (r := (RX1, TX1, 3)) rfl (j := 0) (by decide) (tv_mem (by decide +kernel)) rfl rfl (ty := (.array .long)) (v := .ref q1) (by decide +kernel) rfl rfl (Nat.le_of_ble_eq_true rfl) (kj1_0 (9, .putfield 9, 3) (List.mem_of_getElem? (i := 5) rfl)) (fun H locs I => ?_)
  have I : ct_I D A s q0 1 [.ref q1, .long 0, .int 0] [(3, 100, [])] [(1, q1)] H locs := I
  exact ct_ret (F := [(0, 1, 0, 0), (2, 0, 0, 0), (1, 0, 0, 0)]) C I ⟨Or.inl ⟨rfl, _, List.mem_of_getElem? (i := 0) rfl, rfl⟩, Or.inr (Or.inr ⟨rfl, _, rfl⟩), Or.inr (Or.inl ⟨rfl, _, rfl, by decide, by decide⟩), trivial⟩ hr hlk (Nat.le_refl _) (Nat.le_refl _) rfl (kj1_0 (12, .return_, 1) (List.mem_of_getElem? (i := 6) rfl))
def ki4_0 : List (Nat × Instr × Nat) := [(0, .aload_n 0, 1), (1, .invokespecial 3, 3), (4, .aload_n 0, 1), (5, .bipush 6, 2), (7, .newarray .int, 2), (9, .putfield 11, 3), (12, .aload_n 0, 1), (13, .bipush 6, 2), (15, .newarray .int, 2), (17, .putfield 15, 3), (20, .aload_n 0, 1), (21, .bipush 6, 2), (23, .newarray .int, 2), (25, .putfield 18, 3), (28, .aload_n 0, 1), (29, .bipush 6, 2), (31, .newarray .int, 2), (33, .putfield 21, 3), (36, .return_, 1)]
theorem kj4_0 : ∀ q ∈ ki4_0, decode cX4_init q.1 = .ok (q.2.1, q.2.2) := by decide +kernel
set_option maxHeartbeats 4000000 in
set_option maxRecDepth 100000 in
theorem kx4 (l : Launch) (d : Nat) (hd : 1 ≤ d) : ct_Met l km4 d 4 24 4 kd4 kT4 := by
  refine ct_met l (by decide) rfl (by decide) rfl ?_
  intro p e s m args below meth c ls D q0 A C I hl hr hlk
  have hl : lv_has ls 1 [(0, .ref q0)] := hl
  generalize ([] : List Loc) = locs at I ⊢
  refine lv_aload_n C.1 C.2.1 (kj4_0 (0, .aload_n 0, 1) (List.mem_of_getElem? (i := 0) rfl)) rfl (lv_at hl 0 rfl) ?_
  refine ct_obj C (by omega) (tv_mem (by decide +kernel)) ko1 ko2 hl.1 (kj4_0 (1, .invokespecial 3, 3) (List.mem_of_getElem? (i := 1) rfl)) ?_
  refine lv_aload_n C.1 C.2.1 (kj4_0 (4, .aload_n 0, 1) (List.mem_of_getElem? (i := 2) rfl)) rfl (lv_at hl 0 rfl) ?_
  refine lv_bipush (v := 6) C.1 C.2.1 (kj4_0 (5, .bipush 6, 2) (List.mem_of_getElem? (i := 3) rfl)) (by decide) ?_
  refine ct_arr (at_ := .int) (N := 6) (ty := .int) (a0 := (6, .inl (fun _ => 0))) (t := (1, 6, [(1, 0, 0, 0)])) C I ka_int rfl (fun _ => rfl) (by decide) (by decide) (by decide) (Nat.le_of_ble_eq_true (rfl : Nat.ble 1 _ = true)) (Nat.le_of_ble_eq_true (rfl : Nat.ble 6 _ = true)) (ct_z1 (by decide)) (kj4_0 (7, .newarray .int, 2) (List.mem_of_getElem? (i := 4) rfl)) (fun q1 H I => ?_)
  have I : ct_I D A s q0 4 [.int 0, .null, .null, .null, .null] [(1, 6, [(1, 0, 0, 0)])] [(1, q1)] H locs := I
  refine W.widen (k := 1) (n := 6) (by decide) (by decide) ?_
  refine ct_putF C I (r := (RX4, TX4, 5)) rfl (j := 1) (by decide) (tv_mem (by decide +kernel)) rfl rfl (ty := (.array .int)) (v := .ref q1) (by decide +kernel) rfl rfl (Nat.le_of_ble_eq_true rfl) (kj4_0 (9, .putfield 11, 3) (List.mem_of_getElem? (i := 5) rfl)) (fun H locs I => ?_)
  have I : ct_I D A s q0 4 [.int 0, .ref q1, .null, .null, .null] [(1, 6, [(1, 0, 0, 0)])] [(1, q1)] H locs := I
  refine lv_aload_n C.1 C.2.1 (kj4_0 (12, .aload_n 0, 1) (List.mem_of_getElem? (i := 6) rfl)) rfl (lv_at hl 0 rfl) ?_
  refine lv_bipush (v := 6) C.1 C.2.1 (kj4_0 (13, .bipush 6, 2) (List.mem_of_getElem? (i := 7) rfl)) (by decide) ?_
  refine ct_arr (at_ := .int) (N := 6) (ty := .int) (a0 := (6, .inl (fun _ => 0))) (t := (1, 6, [(1, 0, 0, 0)])) C I ka_int rfl (fun _ => rfl) (by decide) (by decide) (by decide) (Nat.le_of_ble_eq_true (rfl : Nat.ble 2 _ = true)) (Nat.le_of_ble_eq_true (rfl : Nat.ble 12 _ = true)) (ct_z1 (by decide)) (kj4_0 (15, .newarray .int, 2) (List.mem_of_getElem? (i := 8) rfl)) (fun q2 H I => ?_)
  have I : ct_I D A s q0 4 [.int 0, .ref q1, .null, .null, .null] [(1, 6, [(1, 0, 0, 0)]), (1, 6, [(1, 0, 0, 0)])] [(1, q1), (2, q2)] H locs := I
  refine W.widen (k := 2) (n := 12) (by decide) (by decide) ?_
  refine ct_putF C I (r := (RX4, TX4, 5)) rfl (j := 2) (by decide) (tv_mem (by decide +kernel)) rfl rfl (ty := (.array .int)) (v := .ref q2) (by decide +kernel) rfl rfl (Nat.le_of_ble_eq_true rfl) (kj4_0 (17, .putfield 15, 3) (List.mem_of_getElem? (i := 9) rfl)) (fun H locs I => ?_)
  have I : ct_I D A s q0 4 [.int 0, .ref q1, .ref q2, .null, .null] [(1, 6, [(1, 0, 0, 0)]), (1, 6, [(1, 0, 0, 0)])] [(1, q1), (2, q2)] H locs := I
  refine lv_aload_n C.1 C.2.1 (kj4_0 (20, .aload_n 0, 1) (List.mem_of_getElem? (i := 10) rfl)) rfl (lv_at hl 0 rfl) ?_
  refine lv_bipush (v := 6) C.1 C.2.1 (kj4_0 (21, .bipush 6, 2) (List.mem_of_getElem? (i := 11) rfl)) (by decide) ?_
  refine ct_arr (at_ := .int) (N := 6) (ty := .int) (a0 := (6, .inl (fun _ => 0))) (t := (1, 6, [(1, 0, 0, 0)])) C I ka_int rfl (fun _ => rfl) (by decide) (by decide) (by decide) (Nat.le_of_ble_eq_true (rfl : Nat.ble 3 _ = true)) (Nat.le_of_ble_eq_true (rfl : Nat.ble 18 _ = true)) (ct_z1 (by decide)) (kj4_0 (23, .newarray .int, 2) (List.mem_of_getElem? (i := 12) rfl)) (fun q3 H I => ?_)
  have I : ct_I D A s q0 4 [.int 0, .ref q1, .ref q2, .null, .null] [(1, 6, [(1, 0, 0, 0)]), (1, 6, [(1, 0, 0, 0)]), (1, 6, [(1, 0, 0, 0)])] [(1, q1), (2, q2), (3, q3)] H locs := I
  refine W.widen (k := 3) (n := 18) (by decide) (by decide) ?_
  refine ct_putF C I (r := (RX4, TX4, 5)) rfl (j := 3) (by decide) (tv_mem (by decide +kernel)) rfl rfl (ty := (.array .int)) (v := .ref q3) (by decide +kernel) rfl rfl (Nat.le_of_ble_eq_true rfl) (kj4_0 (25, .putfield 18, 3) (List.mem_of_getElem? (i := 13) rfl)) (fun H locs I => ?_)
  have I : ct_I D A s q0 4 [.int 0, .ref q1, .ref q2, .ref q3, .null] [(1, 6, [(1, 0, 0, 0)]), (1, 6, [(1, 0, 0, 0)]), (1, 6, [(1, 0, 0, 0)])] [(1, q1), (2, q2), (3, q3)] H locs := I
  refine lv_aload_n C.1 C.2.1 (kj4_0 (28, .aload_n 0, 1) (List.mem_of_getElem? (i := 14) rfl)) rfl (lv_at hl 0 rfl) ?_
  refine lv_bipush (v := 6) C.1 C.2.1 (kj4_0 (29, .bipush 6, 2) (List.mem_of_getElem? (i := 15) rfl)) (by decide) ?_
  refine ct_arr (at_ := .int) (N := 6) (ty := .int) (a0 := (6, .inl (fun _ => 0))) (t := (1, 6, [(1, 0, 0, 0)])) C I ka_int rfl (fun _ => rfl) (by decide) (by decide) (by decide) (Nat.le_of_ble_eq_true (rfl : Nat.ble 4 _ = true)) (Nat.le_of_ble_eq_true (rfl : Nat.ble 24 _ = true)) (ct_z1 (by decide)) (kj4_0 (31, .newarray .int, 2) (List.mem_of_getElem? (i := 16) rfl)) (fun q4 H I => ?_)
  have I : ct_I D A s q0 4 [.int 0, .ref q1, .ref q2, .ref q3, .null] [(1, 6, [(1, 0, 0, 0)]), (1, 6, [(1, 0, 0, 0)]), (1, 6, [(1, 0, 0, 0)]), (1, 6, [(1, 0, 0, 0)])] [(1, q1), (2, q2), (3, q3), (4, q4)] H locs := I
  refine W.widen (k := 4) (n := 24) (by decide) (by decide) ?_
  refine ct_putF C I (r := (RX4, TX4, 5)) rfl (j := 4) (by decide) (tv_mem (by decide +kernel)) rfl rfl (ty := (.array .int)) (v := .ref q4) (by decide +kernel) rfl rfl (Nat.le_of_ble_eq_true rfl) (kj4_0 (33, .putfield 21, 3) (List.mem_of_getElem? (i := 17) rfl)) (fun H locs I => ?_)
  have I : ct_I D A s q0 4 [.int 0, .ref q1, .ref q2, .ref q3, .ref q4] [(1, 6, [(1, 0, 0, 0)]), (1, 6, [(1, 0, 0, 0)]), (1, 6, [(1, 0, 0, 0)]), (1, 6, [(1, 0, 0, 0)])] [(1, q1), (2, q2), (3, q3), (4, q4)] H locs := I
  exact ct_ret (F := [(1, 0, 0, 0), (0, 1, 0, 0), (0, 2, 0, 0), (0, 3, 0, 0), (0, 4, 0, 0)]) C I ⟨Or.inr (Or.inl ⟨rfl, _, rfl, by decide, by decide⟩), Or.inl ⟨rfl, _, List.mem_of_getElem? (i := 0) rfl, rfl⟩, Or.inl ⟨rfl, _, List.mem_of_getElem? (i := 1) rfl, rfl⟩, Or.inl ⟨rfl, _, List.mem_of_getElem? (i := 2) rfl, rfl⟩, Or.inl ⟨rfl, _, List.mem_of_getElem? (i := 3) rfl, rfl⟩, trivial⟩ hr hlk (Nat.le_refl _) (Nat.le_refl _) rfl (kj4_0 (36, .return_, 1) (List.mem_of_getElem? (i := 18) rfl))
def ki3_0 : List (Nat × Instr × Nat) := [(0, .aload_n 0, 1), (1, .invokespecial 3, 3), (4, .aload_n 0, 1), (5, .iconst 4, 1), (6, .newarray .int, 2), (8, .putfield 11, 3), (11, .aload_n 0, 1), (12, .iconst 4, 1), (13, .newarray .int, 2), (15, .putfield 15, 3), (18, .aload_n 0, 1), (19, .iconst 4, 1), (20, .bipush 40, 2), (22, .multianewarray 18 2, 4), (26, .putfield 20, 3), (29, .iconst 0, 1), (30, .istore_n 1, 1), (31, .iload_n 1, 1), (32, .iconst 4, 1), (33, .if_icmp .ge 16, 3), (36, .aload_n 0, 1), (37, .getfield 11, 3), (40, .iload_n 1, 1), (41, .iconst (-1), 1), (42, .iastore, 1), (43, .iinc 1 1, 3), (46, .goto (-15), 3), (49, .return_, 1)]
theorem kj3_0 : ∀ q ∈ ki3_0, decode cX3_init q.1 = .ok (q.2.1, q.2.2) := by decide +kernel
set_option maxHeartbeats 4000000 in
set_option maxRecDepth 100000 in
theorem kx3 (l : Launch) (d : Nat) (hd : 1 ≤ d) : ct_Met l km3 d 7 172 3 kd3 kT3 := by
  refine ct_met l (by decide) rfl (by decide) rfl ?_
  intro p e s m args below meth c ls D q0 A C I hl hr hlk
  have hl : lv_has ls 2 [(0, .ref q0)] := hl
  generalize ([] : List Loc) = locs at I ⊢
  refine lv_aload_n C.1 C.2.1 (kj3_0 (0, .aload_n 0, 1) (List.mem_of_getElem? (i := 0) rfl)) rfl (lv_at hl 0 rfl) ?_
  refine ct_obj C (by omega) (tv_mem (by decide +kernel)) ko1 ko2 hl.1 (kj3_0 (1, .invokespecial 3, 3) (List.mem_of_getElem? (i := 1) rfl)) ?_
  refine lv_aload_n C.1 C.2.1 (kj3_0 (4, .aload_n 0, 1) (List.mem_of_getElem? (i := 2) rfl)) rfl (lv_at hl 0 rfl) ?_
  refine lv_iconst (v := 4) C.1 C.2.1 (kj3_0 (5, .iconst 4, 1) (List.mem_of_getElem? (i := 3) rfl)) (by decide) ?_
  refine ct_arr (at_ := .int) (N := 4) (ty := .int) (a0 := (4, .inl (fun _ => 0))) (t := (1, 4, [(1, 0, 0, 0), (1, 0, 0, 0), (1, 0, 0, 0), (1, 0, 0, 0)])) C I ka_int rfl (fun _ => rfl) (by decide) (by decide) (by decide) (Nat.le_of_ble_eq_true (rfl : Nat.ble 1 _ = true)) (Nat.le_of_ble_eq_true (rfl : Nat.ble 4 _ = true)) (ct_z1 (by decide)) (kj3_0 (6, .newarray .int, 2) (List.mem_of_getElem? (i := 4) rfl)) (fun q1 H I => ?_)
  have I : ct_I D A s q0 3 [.null, .null, .null] [(1, 4, [(1, 0, 0, 0), (1, 0, 0, 0), (1, 0, 0, 0), (1, 0, 0, 0)])] [(1, q1)] H locs := I
  refine W.widen (k := 1) (n := 4) (by decide) (by decide) ?_
  refine ct_putF C I (r := (RX3, TX3, 3)) rfl (j := 0) (by decide) (tv_mem (by decide +kernel)) rfl rfl (ty := (.array .int)) (v := .ref q1) (by decide +kernel) rfl rfl (Nat.le_of_ble_eq_true rfl) (kj3_0 (8, .putfield 11, 3) (List.mem_of_getElem? (i := 5) rfl)) (fun H locs I => ?_)
  have I : ct_I D A s q0 3 [.ref q1, .null, .null] [(1, 4, [(1, 0, 0, 0), (1, 0, 0, 0), (1, 0, 0, 0), (1, 0, 0, 0)])] [(1, q1)] H locs := I
  refine lv_aload_n C.1 C.2.1 (kj3_0 (11, .aload_n 0, 1) (List.mem_of_getElem? (i := 6) rfl)) rfl (lv_at hl 0 rfl) ?_
  refine lv_iconst (v := 4) C.1 C.2.1 (kj3_0 (12, .iconst 4, 1) (List.mem_of_getElem? (i := 7) rfl)) (by decide) ?_
  refine ct_arr (at_ := .int) (N := 4) (ty := .int) (a0 := (4, .inl (fun _ => 0))) (t := (1, 4, [(1, 0, 0, 0)])) C I ka_int rfl (fun _ => rfl) (by decide) (by decide) (by decide) (Nat.le_of_ble_eq_true (rfl : Nat.ble 2 _ = true)) (Nat.le_of_ble_eq_true (rfl : Nat.ble 8 _ = true)) (ct_z1 (by decide)) (kj3_0 (13, .newarray .int, 2) (List.mem_of_getElem? (i := 8) rfl)) (fun q2 H I => ?_)
  have I : ct_I D A s q0 3 [.ref q1, .null, .null] [(1, 4, [(1, 0, 0, 0), (1, 0, 0, 0), (1, 0, 0, 0), (1, 0, 0, 0)]), (1, 4, [(1, 0, 0, 0)])] [(1, q1), (2, q2)] H locs := I
  refine W.widen (k := 2) (n := 8) (by decide) (by decide) ?_
  refine ct_putF C I (r := (RX3, TX3, 3)) rfl (j := 1) (by decide) (tv_mem (by decide +kernel)) rfl rfl (ty := (.array .int)) (v := .ref q2) (by decide +kernel) rfl rfl (Nat.le_of_ble_eq_true rfl) (kj3_0 (15, .putfield 15, 3) (List.mem_of_getElem? (i := 9) rfl)) (fun H locs I => ?_)
  have I : ct_I D A s q0 3 [.ref q1, .ref q2, .null] [(1, 4, [(1, 0, 0, 0), (1, 0, 0, 0), (1, 0, 0, 0), (1, 0, 0, 0)]), (1, 4, [(1, 0, 0, 0)])] [(1, q1), (2, q2)] H locs := I
  refine lv_aload_n C.1 C.2.1 (kj3_0 (18, .aload_n 0, 1) (List.mem_of_getElem? (i := 10) rfl)) rfl (lv_at hl 0 rfl) ?_
  refine lv_iconst (v := 4) C.1 C.2.1 (kj3_0 (19, .iconst 4, 1) (List.mem_of_getElem? (i := 11) rfl)) (by decide) ?_
  refine lv_bipush (v := 40) C.1 C.2.1 (kj3_0 (20, .bipush 40, 2) (List.mem_of_getElem? (i := 12) rfl)) (by decide) ?_
  refine ct_mna (k0 := 0) C I rfl kw_aa ka_int (Nat.le_of_ble_eq_true (rfl : Nat.ble 7 _ = true)) (Nat.le_of_ble_eq_true (rfl : Nat.ble 172 _ = true)) (kj3_0 (22, .multianewarray 18 2, 4) (List.mem_of_getElem? (i := 13) rfl)) (fun q3 H I => ?_)
  have I : ct_I D A s q0 3 [.ref q1, .ref q2, .null] [(1, 4, [(1, 0, 0, 0), (1, 0, 0, 0), (1, 0, 0, 0), (1, 0, 0, 0)]), (1, 4, [(1, 0, 0, 0)]), (4, 4, [(0, 4, 0, 0), (0, 5, 0, 0), (0, 6, 0, 0), (0, 7, 0, 0)]), (1, 40, [(1, 0, (-2147483648), 2147483647)]), (1, 40, [(1, 0, (-2147483648), 2147483647)]), (1, 40, [(1, 0, (-2147483648), 2147483647)]), (1, 40, [(1, 0, (-2147483648), 2147483647)])] [(1, q1), (2, q2), (3, q3)] H locs := I
  refine W.widen (k := 7) (n := 172) (by decide) (by decide) ?_
  refine ct_putF C I (r := (RX3, TX3, 3)) rfl (j := 2) (by decide) (tv_mem (by decide +kernel)) rfl rfl (ty := (.array (.array .int))) (v := .ref q3) (by decide +kernel) rfl rfl (Nat.le_of_ble_eq_true rfl) (kj3_0 (26, .putfield 20, 3) (List.mem_of_getElem? (i := 14) rfl)) (fun H locs I => ?_)
  have I : ct_I D A s q0 3 [.ref q1, .ref q2, .ref q3] [(1, 4, [(1, 0, 0, 0), (1, 0, 0, 0), (1, 0, 0, 0), (1, 0, 0, 0)]), (1, 4, [(1, 0, 0, 0)]), (4, 4, [(0, 4, 0, 0), (0, 5, 0, 0), (0, 6, 0, 0), (0, 7, 0, 0)]), (1, 40, [(1, 0, (-2147483648), 2147483647)]), (1, 40, [(1, 0, (-2147483648), 2147483647)]), (1, 40, [(1, 0, (-2147483648), 2147483647)]), (1, 40, [(1, 0, (-2147483648), 2147483647)])] [(1, q1), (2, q2), (3, q3)] H locs := I
  refine lv_iconst (v := 0) C.1 C.2.1 (kj3_0 (29, .iconst 0, 1) (List.mem_of_getElem? (i := 15) rfl)) (by decide) ?_
  refine lv_istore_n C.1 C.2.1 (kj3_0 (30, .istore_n 1, 1) (List.mem_of_getElem? (i := 16) rfl)) (i := 1) rfl hl (by decide) (lv' := [(1, .int 0), (0, .ref q0)]) rfl (fun ls hl => ?_)
  refine lv_iload_n C.1 C.2.1 (kj3_0 (31, .iload_n 1, 1) (List.mem_of_getElem? (i := 17) rfl)) rfl (lv_at hl 0 rfl) ?_
  refine lv_iconst (v := 4) C.1 C.2.1 (kj3_0 (32, .iconst 4, 1) (List.mem_of_getElem? (i := 18) rfl)) (by decide) ?_
  refine lv_icmp_ge C.1 C.2.1 (kj3_0 (33, .if_icmp .ge 16, 3) (List.mem_of_getElem? (i := 19) rfl)) (tgt := 49) (by decide) (fun h => absurd h (by decide)) (fun _ => ?_)
  refine lv_aload_n C.1 C.2.1 (kj3_0 (36, .aload_n 0, 1) (List.mem_of_getElem? (i := 20) rfl)) rfl (lv_at hl 1 rfl) ?_
  refine ct_gf C I (r := (RX3, TX3, 3)) rfl (j := 0) (by decide) (tv_mem (by decide +kernel)) (v := .ref q1) rfl (kj3_0 (37, .getfield 11, 3) (List.mem_of_getElem? (i := 21) rfl)) ?_
  refine lv_iload_n C.1 C.2.1 (kj3_0 (40, .iload_n 1, 1) (List.mem_of_getElem? (i := 22) rfl)) rfl (lv_at hl 0 rfl) ?_
  refine lv_iconst (v := (-1)) C.1 C.2.1 (kj3_0 (41, .iconst (-1), 1) (List.mem_of_getElem? (i := 23) rfl)) (by decide) ?_
  refine ct_stx (r := 0) (n := 4) (j0 := 0) (v0 := (-1)) C I (List.mem_of_getElem? (i := 0) rfl) rfl rfl (by decide) (by decide) (by unfold vp_in; decide) (kj3_0 (42, .iastore, 1) (List.mem_of_getElem? (i := 24) rfl)) (fun H locs I => ?_)
  have I : ct_I D A s q0 3 [.ref q1, .ref q2, .ref q3] [(1, 4, [(1, 0, (-1), (-1)), (1, 0, 0, 0), (1, 0, 0, 0), (1, 0, 0, 0)]), (1, 4, [(1, 0, 0, 0)]), (4, 4, [(0, 4, 0, 0), (0, 5, 0, 0), (0, 6, 0, 0), (0, 7, 0, 0)]), (1, 40, [(1, 0, (-2147483648), 2147483647)]), (1, 40, [(1, 0, (-2147483648), 2147483647)]), (1, 40, [(1, 0, (-2147483648), 2147483647)]), (1, 40, [(1, 0, (-2147483648), 2147483647)])] [(1, q1), (2, q2), (3, q3)] H locs := I
  refine lv_iinc C.1 C.2.1 (kj3_0 (43, .iinc 1 1, 3) (List.mem_of_getElem? (i := 25) rfl)) hl (k := 0) rfl (v := 1) (by decide) (by decide) (lv' := [(1, .int 1), (0, .ref q0)]) rfl (fun ls hl => ?_)
  refine lv_goto C.1 C.2.1 (kj3_0 (46, .goto (-15), 3) (List.mem_of_getElem? (i := 26) rfl)) (tgt := 31) (by decide) ?_
  refine lv_iload_n C.1 C.2.1 (kj3_0 (31, .iload_n 1, 1) (List.mem_of_getElem? (i := 17) rfl)) rfl (lv_at hl 0 rfl) ?_
  refine lv_iconst (v := 4) C.1 C.2.1 (kj3_0 (32, .iconst 4, 1) (List.mem_of_getElem? (i := 18) rfl)) (by decide) ?_
  refine lv_icmp_ge C.1 C.2.1 (kj3_0 (33, .if_icmp .ge 16, 3) (List.mem_of_getElem? (i := 19) rfl)) (tgt := 49) (by decide) (fun h => absurd h (by decide)) (fun _ => ?_)
  refine lv_aload_n C.1 C.2.1 (kj3_0 (36, .aload_n 0, 1) (List.mem_of_getElem? (i := 20) rfl)) rfl (lv_at hl 1 rfl) ?_
  refine ct_gf C I (r := (RX3, TX3, 3)) rfl (j := 0) (by decide) (tv_mem (by decide +kernel)) (v := .ref q1) rfl (kj3_0 (37, .getfield 11, 3) (List.mem_of_getElem? (i := 21) rfl)) ?_
  refine lv_iload_n C.1 C.2.1 (kj3_0 (40, .iload_n 1, 1) (List.mem_of_getElem? (i := 22) rfl)) rfl (lv_at hl 0 rfl) ?_
  refine lv_iconst (v := (-1)) C.1 C.2.1 (kj3_0 (41, .iconst (-1), 1) (List.mem_of_getElem? (i := 23) rfl)) (by decide) ?_
  refine ct_stx (r := 0) (n := 4) (j0 := 1) (v0 := (-1)) C I (List.mem_of_getElem? (i := 0) rfl) rfl rfl (by decide) (by decide) (by unfold vp_in; decide) (kj3_0 (42, .iastore, 1) (List.mem_of_getElem? (i := 24) rfl)) (fun H locs I => ?_)
  have I : ct_I D A s q0 3 [.ref q1, .ref q2, .ref q3] [(1, 4, [(1, 0, (-1), (-1)), (1, 0, (-1), (-1)), (1, 0, 0, 0), (1, 0, 0, 0)]), (1, 4, [(1, 0, 0, 0)]), (4, 4, [(0, 4, 0, 0), (0, 5, 0, 0), (0, 6, 0, 0), (0, 7, 0, 0)]), (1, 40, [(1, 0, (-2147483648), 2147483647)]), (1, 40, [(1, 0, (-2147483648), 2147483647)]), (1, 40, [(1, 0, (-2147483648), 2147483647)]), (1, 40, [(1, 0, (-2147483648), 2147483647)])] [(1, q1), (2, q2), (3, q3)] H locs := I
  refine lv_iinc C.1 C.2.1 (kj3_0 (43, .iinc 1 1, 3) (List.mem_of_getElem? (i := 25) rfl)) hl (k := 0) rfl (v := 2) (by decide) (by decide) (lv' := [(1, .int 2), (0, .ref q0)]) rfl (fun ls hl => ?_)
  refine lv_goto C.1 C.2.1 (kj3_0 (46, .goto (-15), 3) (List.mem_of_getElem? (i := 26) rfl)) (tgt := 31) (by decide) ?_
  refine lv_iload_n C.1 C.2.1 (kj3_0 (31, .iload_n 1, 1) (List.mem_of_getElem? (i := 17) rfl)) rfl (lv_at hl 0 rfl) ?_
  refine lv_iconst (v := 4) C.1 C.2.1 (kj3_0 (32, .iconst 4, 1) (List.mem_of_getElem? (i := 18) rfl)) (by decide) ?_
  refine lv_icmp_ge C.1 C.2.1 (kj3_0 (33, .if_icmp .ge 16, 3) (List.mem_of_getElem? (i := 19) rfl)) (tgt := 49) (by decide) (fun h => absurd h (by decide)) (fun _ => ?_)
  refine lv_aload_n C.1 C.2.1 (kj3_0 (36, .aload_n 0, 1) (List.mem_of_getElem? (i := 20) rfl)) rfl (lv_at hl 1 rfl) ?_
  refine ct_gf C I (r := (RX3, TX3, 3)) rfl (j := 0) (by decide) (tv_mem (by decide +kernel)) (v := .ref q1) rfl (kj3_0 (37, .getfield 11, 3) (List.mem_of_getElem? (i := 21) rfl)) ?_
  refine lv_iload_n C.1 C.2.1 (kj3_0 (40, .iload_n 1, 1) (List.mem_of_getElem? (i := 22) rfl)) rfl (lv_at hl 0 rfl) ?_
  refine lv_iconst (v := (-1)) C.1 C.2.1 (kj3_0 (41, .iconst (-1), 1) (List.mem_of_getElem? (i := 23) rfl)) (by decide) ?_
  refine ct_stx (r := 0) (n := 4) (j0 := 2) (v0 := (-1)) C I (List.mem_of_getElem? (i := 0) rfl) rfl rfl (by decide) (by decide) (by unfold vp_in; decide) (kj3_0 (42, .iastore, 1) (List.mem_of_getElem? (i := 24) rfl)) (fun H locs I => ?_)
  have I : ct_I D A s q0 3 [.ref q1, .ref q2, .ref q3] [(1, 4, [(1, 0, (-1), (-1)), (1, 0, (-1), (-1)), (1, 0, (-1), (-1)), (1, 0, 0, 0)]), (1, 4, [(1, 0, 0, 0)]), (4, 4, [(0, 4, 0, 0), (0, 5, 0, 0), (0, 6, 0, 0), (0, 7, 0, 0)]), (1, 40, [(1, 0, (-2147483648), 2147483647)]), (1, 40, [(1, 0, (-2147483648), 2147483647)]), (1, 40, [(1, 0, (-2147483648), 2147483647)]), (1, 40, [(1, 0, (-2147483648), 2147483647)])] [(1, q1), (2, q2), (3, q3)] H locs := I
  refine lv_iinc C.1 C.2.1 (kj3_0 (43, .iinc 1 1, 3) (List.mem_of_getElem? (i := 25) rfl)) hl (k := 0) rfl (v := 3) (by decide) (by decide) (lv' := [(1, .int 3), (0, .ref q0)]) rfl (fun ls hl => ?_)
  refine lv_goto C.1 C.2.1 (kj3_0 (46, .goto (-15), 3) (List.mem_of_getElem? (i := 26) rfl)) (tgt := 31) (by decide) ?_
  refine lv_iload_n C.1 C.2.1 (kj3_0 (31, .iload_n 1, 1) (List.mem_of_getElem? (i := 17) rfl)) rfl (lv_at hl 0 rfl) ?_
  refine lv_iconst (v := 4) C.1 C.2.1 (kj3_0 (32, .iconst 4, 1) (List.mem_of_getElem? (i := 18) rfl)) (by decide) ?_
  refine lv_icmp_ge C.1 C.2.1 (kj3_0 (33, .if_icmp .ge 16, 3) (List.mem_of_getElem? (i := 19) rfl)) (tgt := 49) (by decide) (fun h => absurd h (by decide)) (fun _ => ?_)
  refine lv_aload_n C.1 C.2.1 (kj3_0 (36, .aload_n 0, 1) (List.mem_of_getElem? (i := 20) rfl)) rfl (lv_at hl 1 rfl) ?_
  refine ct_gf C I (r := (RX3, TX3, 3)) rfl (j := 0) (by decide) (tv_mem (by decide +kernel)) (v := .ref q1) rfl (kj3_0 (37, .getfield 11, 3) (List.mem_of_getElem? (i := 21) rfl)) ?_
  refine lv_iload_n C.1 C.2.1 (kj3_0 (40, .iload_n 1, 1) (List.mem_of_getElem? (i := 22) rfl)) rfl (lv_at hl 0 rfl) ?_
  refine lv_iconst (v := (-1)) C.1 C.2.1 (kj3_0 (41, .iconst (-1), 1) (List.mem_of_getElem? (i := 23) rfl)) (by decide) ?_
  refine ct_stx (r := 0) (n := 4) (j0 := 3) (v0 := (-1)) C I (List.mem_of_getElem? (i := 0) rfl) rfl rfl (by decide) (by decide) (by unfold vp_in; decide) (kj3_0 (42, .iastore, 1) (List.mem_of_getElem? (i := 24) rfl)) (fun H locs I => ?_)
  have I : ct_I D A s q0 3 [.ref q1, .ref q2, .ref q3] [(1, 4, [(1, 0, (-1), (-1)), (1, 0, (-1), (-1)), (1, 0, (-1), (-1)), (1, 0, (-1), (-1))]), (1, 4, [(1, 0, 0, 0)]), (4, 4, [(0, 4, 0, 0), (0, 5, 0, 0), (0, 6, 0, 0), (0, 7, 0, 0)]), (1, 40, [(1, 0, (-2147483648), 2147483647)]), (1, 40, [(1, 0, (-2147483648), 2147483647)]), (1, 40, [(1, 0, (-2147483648), 2147483647)]), (1, 40, [(1, 0, (-2147483648), 2147483647)])] [(1, q1), (2, q2), (3, q3)] H locs := I
  refine lv_iinc C.1 C.2.1 (kj3_0 (43, .iinc 1 1, 3) (List.mem_of_getElem? (i := 25) rfl)) hl (k := 0) rfl (v := 4) (by decide) (by decide) (lv' := [(1, .int 4), (0, .ref q0)]) rfl (fun ls hl => ?_)
  refine lv_goto C.1 C.2.1 (kj3_0 (46, .goto (-15), 3) (List.mem_of_getElem? (i := 26) rfl)) (tgt := 31) (by decide) ?_
  refine lv_iload_n C.1 C.2.1 (kj3_0 (31, .iload_n 1, 1) (List.mem_of_getElem? (i := 17) rfl)) rfl (lv_at hl 0 rfl) ?_
  refine lv_iconst (v := 4) C.1 C.2.1 (kj3_0 (32, .iconst 4, 1) (List.mem_of_getElem? (i := 18) rfl)) (by decide) ?_
  refine lv_icmp_ge C.1 C.2.1 (kj3_0 (33, .if_icmp .ge 16, 3) (List.mem_of_getElem? (i := 19) rfl)) (tgt := 49) (by decide) (fun _ => ?_) (fun h => absurd h (by decide))
  exact ct_ret (F := [(0, 1, 0, 0), (0, 2, 0, 0), (0, 3, 0, 0)]) C I ⟨Or.inl ⟨rfl, _, List.mem_of_getElem? (i := 0) rfl, rfl⟩, Or.inl ⟨rfl, _, List.mem_of_getElem? (i := 1) rfl, rfl⟩, Or.inl ⟨rfl, _, List.mem_of_getElem? (i := 2) rfl, rfl⟩, trivial⟩ hr hlk (Nat.le_refl _) (Nat.le_refl _) rfl (kj3_0 (49, .return_, 1) (List.mem_of_getElem? (i := 27) rfl))
def ki2_0 : List (Nat × Instr × Nat) := [(0, .aload_n 0, 1), (1, .invokespecial 3, 3), (4, .aload_n 0, 1), (5, .sipush 160, 3), (8, .newarray .int, 2), (10, .putfield 11, 3), (13, .aload_n 0, 1), (14, .new 15, 3), (17, .dup, 1), (18, .invokespecial 17, 3), (21, .putfield 18, 3), (24, .return_, 1)]
theorem kj2_0 : ∀ q ∈ ki2_0, decode cX2_init q.1 = .ok (q.2.1, q.2.2) := by decide +kernel
set_option maxHeartbeats 4000000 in
set_option maxRecDepth 100000 in
theorem kx2 (l : Launch) (d : Nat) (hd : 2 ≤ d) : ct_Met l km2 d 7 193 2 kd2 kT2 := by
  refine ct_met l (by decide) rfl (by decide) rfl ?_
  intro p e s m args below meth c ls D q0 A C I hl hr hlk
  have hl : lv_has ls 1 [(0, .ref q0)] := hl
  generalize ([] : List Loc) = locs at I ⊢
  refine lv_aload_n C.1 C.2.1 (kj2_0 (0, .aload_n 0, 1) (List.mem_of_getElem? (i := 0) rfl)) rfl (lv_at hl 0 rfl) ?_
  refine ct_obj C (by omega) (tv_mem (by decide +kernel)) ko1 ko2 hl.1 (kj2_0 (1, .invokespecial 3, 3) (List.mem_of_getElem? (i := 1) rfl)) ?_
  refine lv_aload_n C.1 C.2.1 (kj2_0 (4, .aload_n 0, 1) (List.mem_of_getElem? (i := 2) rfl)) rfl (lv_at hl 0 rfl) ?_
  refine lv_sipush (v := 160) C.1 C.2.1 (kj2_0 (5, .sipush 160, 3) (List.mem_of_getElem? (i := 3) rfl)) (by decide) ?_
  refine ct_arr (at_ := .int) (N := 160) (ty := .int) (a0 := (160, .inl (fun _ => 0))) (t := (1, 160, [(1, 0, 0, 0)])) C I ka_int rfl (fun _ => rfl) (by decide) (by decide) (by decide) (Nat.le_of_ble_eq_true (rfl : Nat.ble 1 _ = true)) (Nat.le_of_ble_eq_true (rfl : Nat.ble 160 _ = true)) (ct_z1 (by decide)) (kj2_0 (8, .newarray .int, 2) (List.mem_of_getElem? (i := 4) rfl)) (fun q1 H I => ?_)
  have I : ct_I D A s q0 2 [.null, .int 0, .null, .int 0, .int 0, .int 0, .int 0, .int 0, .int 0, .int 0, .int 0] [(1, 160, [(1, 0, 0, 0)])] [(1, q1)] H locs := I
  refine W.widen (k := 1) (n := 160) (by decide) (by decide) ?_
  refine ct_putF C I (r := (RX2, TX2, 11)) rfl (j := 0) (by decide) (tv_mem (by decide +kernel)) rfl rfl (ty := (.array .int)) (v := .ref q1) (by decide +kernel) rfl rfl (Nat.le_of_ble_eq_true rfl) (kj2_0 (10, .putfield 11, 3) (List.mem_of_getElem? (i := 5) rfl)) (fun H locs I => ?_)
  have I : ct_I D A s q0 2 [.ref q1, .int 0, .null, .int 0, .int 0, .int 0, .int 0, .int 0, .int 0, .int 0, .int 0] [(1, 160, [(1, 0, 0, 0)])] [(1, q1)] H locs := I
  refine lv_aload_n C.1 C.2.1 (kj2_0 (13, .aload_n 0, 1) (List.mem_of_getElem? (i := 6) rfl)) rfl (lv_at hl 0 rfl) ?_
  refine ct_child (r := (RX0, TX0, 9)) (N := 9) C I (by omega) (kx0 l (d - 1) (by omega)) rfl tyX0_ok knD0 (tv_mem (by decide +kernel)) (tv_mem (by decide +kernel)) (tv_mem (by decide +kernel)) (tv_mem (by decide +kernel)) (tv_mem (by decide +kernel)) kc0 rfl rfl rfl (by decide +kernel) (by decide) (Nat.le_of_ble_eq_true (rfl : Nat.ble 7 _ = true)) (Nat.le_of_ble_eq_true (rfl : Nat.ble 193 _ = true)) rfl (Nat.le_of_ble_eq_true rfl) hl.1 (kj2_0 (14, .new 15, 3) (List.mem_of_getElem? (i := 7) rfl)) (kj2_0 (17, .dup, 1) (List.mem_of_getElem? (i := 8) rfl)) (kj2_0 (18, .invokespecial 17, 3) (List.mem_of_getElem? (i := 9) rfl)) (fun q2 H locs I => ?_)
  have I : ct_I D A s q0 2 [.ref q1, .int 0, .null, .int 0, .int 0, .int 0, .int 0, .int 0, .int 0, .int 0, .int 0] [(1, 160, [(1, 0, 0, 0)]), (0, 0, [(1, 0, 0, 0), (1, 0, 10, 10), (1, 0, 0, 0), (1, 0, 0, 0), (0, 3, 0, 0), (0, 4, 0, 0), (0, 5, 0, 0), (0, 6, 0, 0), (0, 7, 0, 0)]), (1, 4, [(1, 0, 0, 0)]), (1, 4, [(1, 0, 0, 0)]), (1, 4, [(1, 0, 0, 0)]), (1, 4, [(1, 0, 0, 0)]), (1, 8, [(1, 0, 0, 0)])] [(1, q1), (2, q2)] H locs := I
  refine W.widen (k := 7) (n := 193) (by decide) (by decide) ?_
  refine ct_putF C I (r := (RX2, TX2, 11)) rfl (j := 2) (by decide) (tv_mem (by decide +kernel)) rfl rfl (ty := (.object "HornTests$Evening")) (v := .ref q2) (by decide +kernel) rfl rfl (Nat.le_of_ble_eq_true rfl) (kj2_0 (21, .putfield 18, 3) (List.mem_of_getElem? (i := 10) rfl)) (fun H locs I => ?_)
  have I : ct_I D A s q0 2 [.ref q1, .int 0, .ref q2, .int 0, .int 0, .int 0, .int 0, .int 0, .int 0, .int 0, .int 0] [(1, 160, [(1, 0, 0, 0)]), (0, 0, [(1, 0, 0, 0), (1, 0, 10, 10), (1, 0, 0, 0), (1, 0, 0, 0), (0, 3, 0, 0), (0, 4, 0, 0), (0, 5, 0, 0), (0, 6, 0, 0), (0, 7, 0, 0)]), (1, 4, [(1, 0, 0, 0)]), (1, 4, [(1, 0, 0, 0)]), (1, 4, [(1, 0, 0, 0)]), (1, 4, [(1, 0, 0, 0)]), (1, 8, [(1, 0, 0, 0)])] [(1, q1), (2, q2)] H locs := I
  exact ct_ret (F := [(0, 1, 0, 0), (1, 0, 0, 0), (0, 2, 0, 0), (1, 0, 0, 0), (1, 0, 0, 0), (1, 0, 0, 0), (1, 0, 0, 0), (1, 0, 0, 0), (1, 0, 0, 0), (1, 0, 0, 0), (1, 0, 0, 0)]) C I ⟨Or.inl ⟨rfl, _, List.mem_of_getElem? (i := 0) rfl, rfl⟩, Or.inr (Or.inl ⟨rfl, _, rfl, by decide, by decide⟩), Or.inl ⟨rfl, _, List.mem_of_getElem? (i := 1) rfl, rfl⟩, Or.inr (Or.inl ⟨rfl, _, rfl, by decide, by decide⟩), Or.inr (Or.inl ⟨rfl, _, rfl, by decide, by decide⟩), Or.inr (Or.inl ⟨rfl, _, rfl, by decide, by decide⟩), Or.inr (Or.inl ⟨rfl, _, rfl, by decide, by decide⟩), Or.inr (Or.inl ⟨rfl, _, rfl, by decide, by decide⟩), Or.inr (Or.inl ⟨rfl, _, rfl, by decide, by decide⟩), Or.inr (Or.inl ⟨rfl, _, rfl, by decide, by decide⟩), Or.inr (Or.inl ⟨rfl, _, rfl, by decide, by decide⟩), trivial⟩ hr hlk (Nat.le_refl _) (Nat.le_refl _) rfl (kj2_0 (24, .return_, 1) (List.mem_of_getElem? (i := 11) rfl))
def ki5_0 : List (Nat × Instr × Nat) := [(0, .aload_n 0, 1), (1, .invokespecial 1, 3), (4, .aload_n 0, 1), (5, .new 7, 3), (8, .dup, 1), (9, .invokespecial 9, 3), (12, .putfield 10, 3), (15, .aload_n 0, 1), (16, .new 7, 3), (19, .dup, 1), (20, .invokespecial 9, 3), (23, .putfield 16, 3), (26, .aload_n 0, 1), (27, .new 7, 3), (30, .dup, 1), (31, .invokespecial 9, 3), (34, .putfield 19, 3), (37, .aload_n 0, 1), (38, .new 7, 3), (41, .dup, 1), (42, .invokespecial 9, 3), (45, .putfield 22, 3), (48, .aload_n 0, 1), (49, .iconst 2, 1), (50, .newarray .boolean, 2), (52, .putfield 25, 3), (55, .aload_n 0, 1), (56, .new 29, 3), (59, .dup, 1), (60, .invokespecial 31, 3), (63, .putfield 32, 3), (66, .aload_n 0, 1), (67, .new 36, 3), (70, .dup, 1), (71, .invokespecial 38, 3), (74, .putfield 39, 3), (77, .aload_n 0, 1), (78, .new 43, 3), (81, .dup, 1), (82, .invokespecial 45, 3)]
theorem kj5_0 : ∀ q ∈ ki5_0, decode cX5_init q.1 = .ok (q.2.1, q.2.2) := by decide +kernel
def ki5_1 : List (Nat × Instr × Nat) := [(85, .putfield 46, 3), (88, .aload_n 0, 1), (89, .new 50, 3), (92, .dup, 1), (93, .invokespecial 52, 3), (96, .putfield 53, 3), (99, .return_, 1)]
theorem kj5_1 : ∀ q ∈ ki5_1, decode cX5_init q.1 = .ok (q.2.1, q.2.2) := by decide +kernel
set_option maxHeartbeats 4000000 in
set_option maxRecDepth 100000 in
theorem kx5 (l : Launch) (d : Nat) (hd : 3 ≤ d) : ct_Met l km5 d 48 645 5 kd5 kT5 := by
  refine ct_met l (by decide) rfl (by decide) rfl ?_
  intro p e s m args below meth c ls D q0 A C I hl hr hlk
  have hl : lv_has ls 1 [(0, .ref q0)] := hl
  generalize ([] : List Loc) = locs at I ⊢
  refine lv_aload_n C.1 C.2.1 (kj5_0 (0, .aload_n 0, 1) (List.mem_of_getElem? (i := 0) rfl)) rfl (lv_at hl 0 rfl) ?_
  refine ct_obj C (by omega) (tv_mem (by decide +kernel)) ko1 ko2 hl.1 (kj5_0 (1, .invokespecial 1, 3) (List.mem_of_getElem? (i := 1) rfl)) ?_
  refine lv_aload_n C.1 C.2.1 (kj5_0 (4, .aload_n 0, 1) (List.mem_of_getElem? (i := 2) rfl)) rfl (lv_at hl 0 rfl) ?_
  refine ct_child (r := (RX0, TX0, 9)) (N := 9) C I (by omega) (kx0 l (d - 1) (by omega)) rfl tyX0_ok knD0 (tv_mem (by decide +kernel)) (tv_mem (by decide +kernel)) (tv_mem (by decide +kernel)) (tv_mem (by decide +kernel)) (tv_mem (by decide +kernel)) kc0 rfl rfl rfl (by decide +kernel) (by decide) (Nat.le_of_ble_eq_true (rfl : Nat.ble 6 _ = true)) (Nat.le_of_ble_eq_true (rfl : Nat.ble 33 _ = true)) rfl (Nat.le_of_ble_eq_true rfl) hl.1 (kj5_0 (5, .new 7, 3) (List.mem_of_getElem? (i := 3) rfl)) (kj5_0 (8, .dup, 1) (List.mem_of_getElem? (i := 4) rfl)) (kj5_0 (9, .invokespecial 9, 3) (List.mem_of_getElem? (i := 5) rfl)) (fun q1 H locs I => ?_)
  have I : ct_I D A s q0 5 [.null, .null, .null, .null, .null, .null, .null, .null, .null, .int 0, .int 0] [(0, 0, [(1, 0, 0, 0), (1, 0, 10, 10), (1, 0, 0, 0), (1, 0, 0, 0), (0, 2, 0, 0), (0, 3, 0, 0), (0, 4, 0, 0), (0, 5, 0, 0), (0, 6, 0, 0)]), (1, 4, [(1, 0, 0, 0)]), (1, 4, [(1, 0, 0, 0)]), (1, 4, [(1, 0, 0, 0)]), (1, 4, [(1, 0, 0, 0)]), (1, 8, [(1, 0, 0, 0)])] [(1, q1)] H locs := I
  refine W.widen (k := 6) (n := 33) (by decide) (by decide) ?_
  refine ct_putF C I (r := (RX5, TX5, 11)) rfl (j := 0) (by decide) (tv_mem (by decide +kernel)) rfl rfl (ty := (.object "HornTests$Evening")) (v := .ref q1) (by decide +kernel) rfl rfl (Nat.le_of_ble_eq_true rfl) (kj5_0 (12, .putfield 10, 3) (List.mem_of_getElem? (i := 6) rfl)) (fun H locs I => ?_)
  have I : ct_I D A s q0 5 [.ref q1, .null, .null, .null, .null, .null, .null, .null, .null, .int 0, .int 0] [(0, 0, [(1, 0, 0, 0), (1, 0, 10, 10), (1, 0, 0, 0), (1, 0, 0, 0), (0, 2, 0, 0), (0, 3, 0, 0), (0, 4, 0, 0), (0, 5, 0, 0), (0, 6, 0, 0)]), (1, 4, [(1, 0, 0, 0)]), (1, 4, [(1, 0, 0, 0)]), (1, 4, [(1, 0, 0, 0)]), (1, 4, [(1, 0, 0, 0)]), (1, 8, [(1, 0, 0, 0)])] [(1, q1)] H locs := I
  refine lv_aload_n C.1 C.2.1 (kj5_0 (15, .aload_n 0, 1) (List.mem_of_getElem? (i := 7) rfl)) rfl (lv_at hl 0 rfl) ?_
  refine ct_child (r := (RX0, TX0, 9)) (N := 9) C I (by omega) (kx0 l (d - 1) (by omega)) rfl tyX0_ok knD0 (tv_mem (by decide +kernel)) (tv_mem (by decide +kernel)) (tv_mem (by decide +kernel)) (tv_mem (by decide +kernel)) (tv_mem (by decide +kernel)) kc0 rfl rfl rfl (by decide +kernel) (by decide) (Nat.le_of_ble_eq_true (rfl : Nat.ble 12 _ = true)) (Nat.le_of_ble_eq_true (rfl : Nat.ble 66 _ = true)) rfl (Nat.le_of_ble_eq_true rfl) hl.1 (kj5_0 (16, .new 7, 3) (List.mem_of_getElem? (i := 8) rfl)) (kj5_0 (19, .dup, 1) (List.mem_of_getElem? (i := 9) rfl)) (kj5_0 (20, .invokespecial 9, 3) (List.mem_of_getElem? (i := 10) rfl)) (fun q2 H locs I => ?_)
  have I : ct_I D A s q0 5 [.ref q1, .null, .null, .null, .null, .null, .null, .null, .null, .int 0, .int 0] [(0, 0, [(1, 0, 0, 0), (1, 0, 10, 10), (1, 0, 0, 0), (1, 0, 0, 0), (0, 2, 0, 0), (0, 3, 0, 0), (0, 4, 0, 0), (0, 5, 0, 0), (0, 6, 0, 0)]), (1, 4, [(1, 0, 0, 0)]), (1, 4, [(1, 0, 0, 0)]), (1, 4, [(1, 0, 0, 0)]), (1, 4, [(1, 0, 0, 0)]), (1, 8, [(1, 0, 0, 0)]), (0, 0, [(1, 0, 0, 0), (1, 0, 10, 10), (1, 0, 0, 0), (1, 0, 0, 0), (0, 8, 0, 0), (0, 9, 0, 0), (0, 10, 0, 0), (0, 11, 0, 0), (0, 12, 0, 0)]), (1, 4, [(1, 0, 0, 0)]), (1, 4, [(1, 0, 0, 0)]), (1, 4, [(1, 0, 0, 0)]), (1, 4, [(1, 0, 0, 0)]), (1, 8, [(1, 0, 0, 0)])] [(1, q1), (7, q2)] H locs := I
  refine W.widen (k := 12) (n := 66) (by decide) (by decide) ?_
  refine ct_putF C I (r := (RX5, TX5, 11)) rfl (j := 1) (by decide) (tv_mem (by decide +kernel)) rfl rfl (ty := (.object "HornTests$Evening")) (v := .ref q2) (by decide +kernel) rfl rfl (Nat.le_of_ble_eq_true rfl) (kj5_0 (23, .putfield 16, 3) (List.mem_of_getElem? (i := 11) rfl)) (fun H locs I => ?_)
  have I : ct_I D A s q0 5 [.ref q1, .ref q2, .null, .null, .null, .null, .null, .null, .null, .int 0, .int 0] [(0, 0, [(1, 0, 0, 0), (1, 0, 10, 10), (1, 0, 0, 0), (1, 0, 0, 0), (0, 2, 0, 0), (0, 3, 0, 0), (0, 4, 0, 0), (0, 5, 0, 0), (0, 6, 0, 0)]), (1, 4, [(1, 0, 0, 0)]), (1, 4, [(1, 0, 0, 0)]), (1, 4, [(1, 0, 0, 0)]), (1, 4, [(1, 0, 0, 0)]), (1, 8, [(1, 0, 0, 0)]), (0, 0, [(1, 0, 0, 0), (1, 0, 10, 10), (1, 0, 0, 0), (1, 0, 0, 0), (0, 8, 0, 0), (0, 9, 0, 0), (0, 10, 0, 0), (0, 11, 0, 0), (0, 12, 0, 0)]), (1, 4, [(1, 0, 0, 0)]), (1, 4, [(1, 0, 0, 0)]), (1, 4, [(1, 0, 0, 0)]), (1, 4, [(1, 0, 0, 0)]), (1, 8, [(1, 0, 0, 0)])] [(1, q1), (7, q2)] H locs := I
  refine lv_aload_n C.1 C.2.1 (kj5_0 (26, .aload_n 0, 1) (List.mem_of_getElem? (i := 12) rfl)) rfl (lv_at hl 0 rfl) ?_
  refine ct_child (r := (RX0, TX0, 9)) (N := 9) C I (by omega) (kx0 l (d - 1) (by omega)) rfl tyX0_ok knD0 (tv_mem (by decide +kernel)) (tv_mem (by decide +kernel)) (tv_mem (by decide +kernel)) (tv_mem (by decide +kernel)) (tv_mem (by decide +kernel)) kc0 rfl rfl rfl (by decide +kernel) (by decide) (Nat.le_of_ble_eq_true (rfl : Nat.ble 18 _ = true)) (Nat.le_of_ble_eq_true (rfl : Nat.ble 99 _ = true)) rfl (Nat.le_of_ble_eq_true rfl) hl.1 (kj5_0 (27, .new 7, 3) (List.mem_of_getElem? (i := 13) rfl)) (kj5_0 (30, .dup, 1) (List.mem_of_getElem? (i := 14) rfl)) (kj5_0 (31, .invokespecial 9, 3) (List.mem_of_getElem? (i := 15) rfl)) (fun q3 H locs I => ?_)
  have I : ct_I D A s q0 5 [.ref q1, .ref q2, .null, .null, .null, .null, .null, .null, .null, .int 0, .int 0] [(0, 0, [(1, 0, 0, 0), (1, 0, 10, 10), (1, 0, 0, 0), (1, 0, 0, 0), (0, 2, 0, 0), (0, 3, 0, 0), (0, 4, 0, 0), (0, 5, 0, 0), (0, 6, 0, 0)]), (1, 4, [(1, 0, 0, 0)]), (1, 4, [(1, 0, 0, 0)]), (1, 4, [(1, 0, 0, 0)]), (1, 4, [(1, 0, 0, 0)]), (1, 8, [(1, 0, 0, 0)]), (0, 0, [(1, 0, 0, 0), (1, 0, 10, 10), (1, 0, 0, 0), (1, 0, 0, 0), (0, 8, 0, 0), (0, 9, 0, 0), (0, 10, 0, 0), (0, 11, 0, 0), (0, 12, 0, 0)]), (1, 4, [(1, 0, 0, 0)]), (1, 4, [(1, 0, 0, 0)]), (1, 4, [(1, 0, 0, 0)]), (1, 4, [(1, 0, 0, 0)]), (1, 8, [(1, 0, 0, 0)]), (0, 0, [(1, 0, 0, 0), (1, 0, 10, 10), (1, 0, 0, 0), (1, 0, 0, 0), (0, 14, 0, 0), (0, 15, 0, 0), (0, 16, 0, 0), (0, 17, 0, 0), (0, 18, 0, 0)]), (1, 4, [(1, 0, 0, 0)]), (1, 4, [(1, 0, 0, 0)]), (1, 4, [(1, 0, 0, 0)]), (1, 4, [(1, 0, 0, 0)]), (1, 8, [(1, 0, 0, 0)])] [(1, q1), (7, q2), (13, q3)] H locs := I
  refine W.widen (k := 18) (n := 99) (by decide) (by decide) ?_
  refine ct_putF C I (r := (RX5, TX5, 11)) rfl (j := 2) (by decide) (tv_mem (by decide +kernel)) rfl rfl (ty := (.object "HornTests$Evening")) (v := .ref q3) (by decide +kernel) rfl rfl (Nat.le_of_ble_eq_true rfl) (kj5_0 (34, .putfield 19, 3) (List.mem_of_getElem? (i := 16) rfl)) (fun H locs I => ?_)
  have I : ct_I D A s q0 5 [.ref q1, .ref q2, .ref q3, .null, .null, .null, .null, .null, .null, .int 0, .int 0] [(0, 0, [(1, 0, 0, 0), (1, 0, 10, 10), (1, 0, 0, 0), (1, 0, 0, 0), (0, 2, 0, 0), (0, 3, 0, 0), (0, 4, 0, 0), (0, 5, 0, 0), (0, 6, 0, 0)]), (1, 4, [(1, 0, 0, 0)]), (1, 4, [(1, 0, 0, 0)]), (1, 4, [(1, 0, 0, 0)]), (1, 4, [(1, 0, 0, 0)]), (1, 8, [(1, 0, 0, 0)]), (0, 0, [(1, 0, 0, 0), (1, 0, 10, 10), (1, 0, 0, 0), (1, 0, 0, 0), (0, 8, 0, 0), (0, 9, 0, 0), (0, 10, 0, 0), (0, 11, 0, 0), (0, 12, 0, 0)]), (1, 4, [(1, 0, 0, 0)]), (1, 4, [(1, 0, 0, 0)]), (1, 4, [(1, 0, 0, 0)]), (1, 4, [(1, 0, 0, 0)]), (1, 8, [(1, 0, 0, 0)]), (0, 0, [(1, 0, 0, 0), (1, 0, 10, 10), (1, 0, 0, 0), (1, 0, 0, 0), (0, 14, 0, 0), (0, 15, 0, 0), (0, 16, 0, 0), (0, 17, 0, 0), (0, 18, 0, 0)]), (1, 4, [(1, 0, 0, 0)]), (1, 4, [(1, 0, 0, 0)]), (1, 4, [(1, 0, 0, 0)]), (1, 4, [(1, 0, 0, 0)]), (1, 8, [(1, 0, 0, 0)])] [(1, q1), (7, q2), (13, q3)] H locs := I
  refine lv_aload_n C.1 C.2.1 (kj5_0 (37, .aload_n 0, 1) (List.mem_of_getElem? (i := 17) rfl)) rfl (lv_at hl 0 rfl) ?_
  refine ct_child (r := (RX0, TX0, 9)) (N := 9) C I (by omega) (kx0 l (d - 1) (by omega)) rfl tyX0_ok knD0 (tv_mem (by decide +kernel)) (tv_mem (by decide +kernel)) (tv_mem (by decide +kernel)) (tv_mem (by decide +kernel)) (tv_mem (by decide +kernel)) kc0 rfl rfl rfl (by decide +kernel) (by decide) (Nat.le_of_ble_eq_true (rfl : Nat.ble 24 _ = true)) (Nat.le_of_ble_eq_true (rfl : Nat.ble 132 _ = true)) rfl (Nat.le_of_ble_eq_true rfl) hl.1 (kj5_0 (38, .new 7, 3) (List.mem_of_getElem? (i := 18) rfl)) (kj5_0 (41, .dup, 1) (List.mem_of_getElem? (i := 19) rfl)) (kj5_0 (42, .invokespecial 9, 3) (List.mem_of_getElem? (i := 20) rfl)) (fun q4 H locs I => ?_)
  have I : ct_I D A s q0 5 [.ref q1, .ref q2, .ref q3, .null, .null, .null, .null, .null, .null, .int 0, .int 0] [(0, 0, [(1, 0, 0, 0), (1, 0, 10, 10), (1, 0, 0, 0), (1, 0, 0, 0), (0, 2, 0, 0), (0, 3, 0, 0), (0, 4, 0, 0), (0, 5, 0, 0), (0, 6, 0, 0)]), (1, 4, [(1, 0, 0, 0)]), (1, 4, [(1, 0, 0, 0)]), (1, 4, [(1, 0, 0, 0)]), (1, 4, [(1, 0, 0, 0)]), (1, 8, [(1, 0, 0, 0)]), (0, 0, [(1, 0, 0, 0), (1, 0, 10, 10), (1, 0, 0, 0), (1, 0, 0, 0), (0, 8, 0, 0), (0, 9, 0, 0), (0, 10, 0, 0), (0, 11, 0, 0), (0, 12, 0, 0)]), (1, 4, [(1, 0, 0, 0)]), (1, 4, [(1, 0, 0, 0)]), (1, 4, [(1, 0, 0, 0)]), (1, 4, [(1, 0, 0, 0)]), (1, 8, [(1, 0, 0, 0)]), (0, 0, [(1, 0, 0, 0), (1, 0, 10, 10), (1, 0, 0, 0), (1, 0, 0, 0), (0, 14, 0, 0), (0, 15, 0, 0), (0, 16, 0, 0), (0, 17, 0, 0), (0, 18, 0, 0)]), (1, 4, [(1, 0, 0, 0)]), (1, 4, [(1, 0, 0, 0)]), (1, 4, [(1, 0, 0, 0)]), (1, 4, [(1, 0, 0, 0)]), (1, 8, [(1, 0, 0, 0)]), (0, 0, [(1, 0, 0, 0), (1, 0, 10, 10), (1, 0, 0, 0), (1, 0, 0, 0), (0, 20, 0, 0), (0, 21, 0, 0), (0, 22, 0, 0), (0, 23, 0, 0), (0, 24, 0, 0)]), (1, 4, [(1, 0, 0, 0)]), (1, 4, [(1, 0, 0, 0)]), (1, 4, [(1, 0, 0, 0)]), (1, 4, [(1, 0, 0, 0)]), (1, 8, [(1, 0, 0, 0)])] [(1, q1), (7, q2), (13, q3), (19, q4)] H locs := I
  refine W.widen (k := 24) (n := 132) (by decide) (by decide) ?_
  refine ct_putF C I (r := (RX5, TX5, 11)) rfl (j := 3) (by decide) (tv_mem (by decide +kernel)) rfl rfl (ty := (.object "HornTests$Evening")) (v := .ref q4) (by decide +kernel) rfl rfl (Nat.le_of_ble_eq_true rfl) (kj5_0 (45, .putfield 22, 3) (List.mem_of_getElem? (i := 21) rfl)) (fun H locs I => ?_)
  have I : ct_I D A s q0 5 [.ref q1, .ref q2, .ref q3, .ref q4, .null, .null, .null, .null, .null, .int 0, .int 0] [(0, 0, [(1, 0, 0, 0), (1, 0, 10, 10), (1, 0, 0, 0), (1, 0, 0, 0), (0, 2, 0, 0), (0, 3, 0, 0), (0, 4, 0, 0), (0, 5, 0, 0), (0, 6, 0, 0)]), (1, 4, [(1, 0, 0, 0)]), (1, 4, [(1, 0, 0, 0)]), (1, 4, [(1, 0, 0, 0)]), (1, 4, [(1, 0, 0, 0)]), (1, 8, [(1, 0, 0, 0)]), (0, 0, [(1, 0, 0, 0), (1, 0, 10, 10), (1, 0, 0, 0), (1, 0, 0, 0), (0, 8, 0, 0), (0, 9, 0, 0), (0, 10, 0, 0), (0, 11, 0, 0), (0, 12, 0, 0)]), (1, 4, [(1, 0, 0, 0)]), (1, 4, [(1, 0, 0, 0)]), (1, 4, [(1, 0, 0, 0)]), (1, 4, [(1, 0, 0, 0)]), (1, 8, [(1, 0, 0, 0)]), (0, 0, [(1, 0, 0, 0), (1, 0, 10, 10), (1, 0, 0, 0), (1, 0, 0, 0), (0, 14, 0, 0), (0, 15, 0, 0), (0, 16, 0, 0), (0, 17, 0, 0), (0, 18, 0, 0)]), (1, 4, [(1, 0, 0, 0)]), (1, 4, [(1, 0, 0, 0)]), (1, 4, [(1, 0, 0, 0)]), (1, 4, [(1, 0, 0, 0)]), (1, 8, [(1, 0, 0, 0)]), (0, 0, [(1, 0, 0, 0), (1, 0, 10, 10), (1, 0, 0, 0), (1, 0, 0, 0), (0, 20, 0, 0), (0, 21, 0, 0), (0, 22, 0, 0), (0, 23, 0, 0), (0, 24, 0, 0)]), (1, 4, [(1, 0, 0, 0)]), (1, 4, [(1, 0, 0, 0)]), (1, 4, [(1, 0, 0, 0)]), (1, 4, [(1, 0, 0, 0)]), (1, 8, [(1, 0, 0, 0)])] [(1, q1), (7, q2), (13, q3), (19, q4)] H locs := I
  refine lv_aload_n C.1 C.2.1 (kj5_0 (48, .aload_n 0, 1) (List.mem_of_getElem? (i := 22) rfl)) rfl (lv_at hl 0 rfl) ?_
  refine lv_iconst (v := 2) C.1 C.2.1 (kj5_0 (49, .iconst 2, 1) (List.mem_of_getElem? (i := 23) rfl)) (by decide) ?_
  refine ct_arr (at_ := .boolean) (N := 2) (ty := .boolean) (a0 := (2, .inl (fun _ => 0))) (t := (2, 2, [(1, 0, 0, 0)])) C I ka_boolean rfl (fun _ => rfl) (by decide) (by decide) (by decide) (Nat.le_of_ble_eq_true (rfl : Nat.ble 25 _ = true)) (Nat.le_of_ble_eq_true (rfl : Nat.ble 134 _ = true)) (ct_z2 (by decide)) (kj5_0 (50, .newarray .boolean, 2) (List.mem_of_getElem? (i := 24) rfl)) (fun q5 H I => ?_)
  have I : ct_I D A s q0 5 [.ref q1, .ref q2, .ref q3, .ref q4, .null, .null, .null, .null, .null, .int 0, .int 0] [(0, 0, [(1, 0, 0, 0), (1, 0, 10, 10), (1, 0, 0, 0), (1, 0, 0, 0), (0, 2, 0, 0), (0, 3, 0, 0), (0, 4, 0, 0), (0, 5, 0, 0), (0, 6, 0, 0)]), (1, 4, [(1, 0, 0, 0)]), (1, 4, [(1, 0, 0, 0)]), (1, 4, [(1, 0, 0, 0)]), (1, 4, [(1, 0, 0, 0)]), (1, 8, [(1, 0, 0, 0)]), (0, 0, [(1, 0, 0, 0), (1, 0, 10, 10), (1, 0, 0, 0), (1, 0, 0, 0), (0, 8, 0, 0), (0, 9, 0, 0), (0, 10, 0, 0), (0, 11, 0, 0), (0, 12, 0, 0)]), (1, 4, [(1, 0, 0, 0)]), (1, 4, [(1, 0, 0, 0)]), (1, 4, [(1, 0, 0, 0)]), (1, 4, [(1, 0, 0, 0)]), (1, 8, [(1, 0, 0, 0)]), (0, 0, [(1, 0, 0, 0), (1, 0, 10, 10), (1, 0, 0, 0), (1, 0, 0, 0), (0, 14, 0, 0), (0, 15, 0, 0), (0, 16, 0, 0), (0, 17, 0, 0), (0, 18, 0, 0)]), (1, 4, [(1, 0, 0, 0)]), (1, 4, [(1, 0, 0, 0)]), (1, 4, [(1, 0, 0, 0)]), (1, 4, [(1, 0, 0, 0)]), (1, 8, [(1, 0, 0, 0)]), (0, 0, [(1, 0, 0, 0), (1, 0, 10, 10), (1, 0, 0, 0), (1, 0, 0, 0), (0, 20, 0, 0), (0, 21, 0, 0), (0, 22, 0, 0), (0, 23, 0, 0), (0, 24, 0, 0)]), (1, 4, [(1, 0, 0, 0)]), (1, 4, [(1, 0, 0, 0)]), (1, 4, [(1, 0, 0, 0)]), (1, 4, [(1, 0, 0, 0)]), (1, 8, [(1, 0, 0, 0)]), (2, 2, [(1, 0, 0, 0)])] [(1, q1), (7, q2), (13, q3), (19, q4), (25, q5)] H locs := I
  refine W.widen (k := 25) (n := 134) (by decide) (by decide) ?_
  refine ct_putF C I (r := (RX5, TX5, 11)) rfl (j := 4) (by decide) (tv_mem (by decide +kernel)) rfl rfl (ty := (.array .boolean)) (v := .ref q5) (by decide +kernel) rfl rfl (Nat.le_of_ble_eq_true rfl) (kj5_0 (52, .putfield 25, 3) (List.mem_of_getElem? (i := 25) rfl)) (fun H locs I => ?_)
  have I : ct_I D A s q0 5 [.ref q1, .ref q2, .ref q3, .ref q4, .ref q5, .null, .null, .null, .null, .int 0, .int 0] [(0, 0, [(1, 0, 0, 0), (1, 0, 10, 10), (1, 0, 0, 0), (1, 0, 0, 0), (0, 2, 0, 0), (0, 3, 0, 0), (0, 4, 0, 0), (0, 5, 0, 0), (0, 6, 0, 0)]), (1, 4, [(1, 0, 0, 0)]), (1, 4, [(1, 0, 0, 0)]), (1, 4, [(1, 0, 0, 0)]), (1, 4, [(1, 0, 0, 0)]), (1, 8, [(1, 0, 0, 0)]), (0, 0, [(1, 0, 0, 0), (1, 0, 10, 10), (1, 0, 0, 0), (1, 0, 0, 0), (0, 8, 0, 0), (0, 9, 0, 0), (0, 10, 0, 0), (0, 11, 0, 0), (0, 12, 0, 0)]), (1, 4, [(1, 0, 0, 0)]), (1, 4, [(1, 0, 0, 0)]), (1, 4, [(1, 0, 0, 0)]), (1, 4, [(1, 0, 0, 0)]), (1, 8, [(1, 0, 0, 0)]), (0, 0, [(1, 0, 0, 0), (1, 0, 10, 10), (1, 0, 0, 0), (1, 0, 0, 0), (0, 14, 0, 0), (0, 15, 0, 0), (0, 16, 0, 0), (0, 17, 0, 0), (0, 18, 0, 0)]), (1, 4, [(1, 0, 0, 0)]), (1, 4, [(1, 0, 0, 0)]), (1, 4, [(1, 0, 0, 0)]), (1, 4, [(1, 0, 0, 0)]), (1, 8, [(1, 0, 0, 0)]), (0, 0, [(1, 0, 0, 0), (1, 0, 10, 10), (1, 0, 0, 0), (1, 0, 0, 0), (0, 20, 0, 0), (0, 21, 0, 0), (0, 22, 0, 0), (0, 23, 0, 0), (0, 24, 0, 0)]), (1, 4, [(1, 0, 0, 0)]), (1, 4, [(1, 0, 0, 0)]), (1, 4, [(1, 0, 0, 0)]), (1, 4, [(1, 0, 0, 0)]), (1, 8, [(1, 0, 0, 0)]), (2, 2, [(1, 0, 0, 0)])] [(1, q1), (7, q2), (13, q3), (19, q4), (25, q5)] H locs := I
  refine lv_aload_n C.1 C.2.1 (kj5_0 (55, .aload_n 0, 1) (List.mem_of_getElem? (i := 26) rfl)) rfl (lv_at hl 0 rfl) ?_
  refine ct_child (r := (RX2, TX2, 11)) (N := 11) C I (by omega) (kx2 l (d - 1) (by omega)) rfl tyX2_ok knD2 (tv_mem (by decide +kernel)) (tv_mem (by decide +kernel)) (tv_mem (by decide +kernel)) (tv_mem (by decide +kernel)) (tv_mem (by decide +kernel)) kc2 rfl rfl rfl (by decide +kernel) (by decide) (Nat.le_of_ble_eq_true (rfl : Nat.ble 33 _ = true)) (Nat.le_of_ble_eq_true (rfl : Nat.ble 338 _ = true)) rfl (Nat.le_of_ble_eq_true rfl) hl.1 (kj5_0 (56, .new 29, 3) (List.mem_of_getElem? (i := 27) rfl)) (kj5_0 (59, .dup, 1) (List.mem_of_getElem? (i := 28) rfl)) (kj5_0 (60, .invokespecial 31, 3) (List.mem_of_getElem? (i := 29) rfl)) (fun q6 H locs I => ?_)
  have I : ct_I D A s q0 5 [.ref q1, .ref q2, .ref q3, .ref q4, .ref q5, .null, .null, .null, .null, .int 0, .int 0] [(0, 0, [(1, 0, 0, 0), (1, 0, 10, 10), (1, 0, 0, 0), (1, 0, 0, 0), (0, 2, 0, 0), (0, 3, 0, 0), (0, 4, 0, 0), (0, 5, 0, 0), (0, 6, 0, 0)]), (1, 4, [(1, 0, 0, 0)]), (1, 4, [(1, 0, 0, 0)]), (1, 4, [(1, 0, 0, 0)]), (1, 4, [(1, 0, 0, 0)]), (1, 8, [(1, 0, 0, 0)]), (0, 0, [(1, 0, 0, 0), (1, 0, 10, 10), (1, 0, 0, 0), (1, 0, 0, 0), (0, 8, 0, 0), (0, 9, 0, 0), (0, 10, 0, 0), (0, 11, 0, 0), (0, 12, 0, 0)]), (1, 4, [(1, 0, 0, 0)]), (1, 4, [(1, 0, 0, 0)]), (1, 4, [(1, 0, 0, 0)]), (1, 4, [(1, 0, 0, 0)]), (1, 8, [(1, 0, 0, 0)]), (0, 0, [(1, 0, 0, 0), (1, 0, 10, 10), (1, 0, 0, 0), (1, 0, 0, 0), (0, 14, 0, 0), (0, 15, 0, 0), (0, 16, 0, 0), (0, 17, 0, 0), (0, 18, 0, 0)]), (1, 4, [(1, 0, 0, 0)]), (1, 4, [(1, 0, 0, 0)]), (1, 4, [(1, 0, 0, 0)]), (1, 4, [(1, 0, 0, 0)]), (1, 8, [(1, 0, 0, 0)]), (0, 0, [(1, 0, 0, 0), (1, 0, 10, 10), (1, 0, 0, 0), (1, 0, 0, 0), (0, 20, 0, 0), (0, 21, 0, 0), (0, 22, 0, 0), (0, 23, 0, 0), (0, 24, 0, 0)]), (1, 4, [(1, 0, 0, 0)]), (1, 4, [(1, 0, 0, 0)]), (1, 4, [(1, 0, 0, 0)]), (1, 4, [(1, 0, 0, 0)]), (1, 8, [(1, 0, 0, 0)]), (2, 2, [(1, 0, 0, 0)]), (0, 2, [(0, 27, 0, 0), (1, 0, 0, 0), (0, 28, 0, 0), (1, 0, 0, 0), (1, 0, 0, 0), (1, 0, 0, 0), (1, 0, 0, 0), (1, 0, 0, 0), (1, 0, 0, 0), (1, 0, 0, 0), (1, 0, 0, 0)]), (1, 160, [(1, 0, 0, 0)]), (0, 0, [(1, 0, 0, 0), (1, 0, 10, 10), (1, 0, 0, 0), (1, 0, 0, 0), (0, 29, 0, 0), (0, 30, 0, 0), (0, 31, 0, 0), (0, 32, 0, 0), (0, 33, 0, 0)]), (1, 4, [(1, 0, 0, 0)]), (1, 4, [(1, 0, 0, 0)]), (1, 4, [(1, 0, 0, 0)]), (1, 4, [(1, 0, 0, 0)]), (1, 8, [(1, 0, 0, 0)])] [(1, q1), (7, q2), (13, q3), (19, q4), (25, q5), (26, q6)] H locs := I
  refine W.widen (k := 33) (n := 338) (by decide) (by decide) ?_
  refine ct_putF C I (r := (RX5, TX5, 11)) rfl (j := 5) (by decide) (tv_mem (by decide +kernel)) rfl rfl (ty := (.object "HornTests$Scribe")) (v := .ref q6) (by decide +kernel) rfl rfl (Nat.le_of_ble_eq_true rfl) (kj5_0 (63, .putfield 32, 3) (List.mem_of_getElem? (i := 30) rfl)) (fun H locs I => ?_)
  have I : ct_I D A s q0 5 [.ref q1, .ref q2, .ref q3, .ref q4, .ref q5, .ref q6, .null, .null, .null, .int 0, .int 0] [(0, 0, [(1, 0, 0, 0), (1, 0, 10, 10), (1, 0, 0, 0), (1, 0, 0, 0), (0, 2, 0, 0), (0, 3, 0, 0), (0, 4, 0, 0), (0, 5, 0, 0), (0, 6, 0, 0)]), (1, 4, [(1, 0, 0, 0)]), (1, 4, [(1, 0, 0, 0)]), (1, 4, [(1, 0, 0, 0)]), (1, 4, [(1, 0, 0, 0)]), (1, 8, [(1, 0, 0, 0)]), (0, 0, [(1, 0, 0, 0), (1, 0, 10, 10), (1, 0, 0, 0), (1, 0, 0, 0), (0, 8, 0, 0), (0, 9, 0, 0), (0, 10, 0, 0), (0, 11, 0, 0), (0, 12, 0, 0)]), (1, 4, [(1, 0, 0, 0)]), (1, 4, [(1, 0, 0, 0)]), (1, 4, [(1, 0, 0, 0)]), (1, 4, [(1, 0, 0, 0)]), (1, 8, [(1, 0, 0, 0)]), (0, 0, [(1, 0, 0, 0), (1, 0, 10, 10), (1, 0, 0, 0), (1, 0, 0, 0), (0, 14, 0, 0), (0, 15, 0, 0), (0, 16, 0, 0), (0, 17, 0, 0), (0, 18, 0, 0)]), (1, 4, [(1, 0, 0, 0)]), (1, 4, [(1, 0, 0, 0)]), (1, 4, [(1, 0, 0, 0)]), (1, 4, [(1, 0, 0, 0)]), (1, 8, [(1, 0, 0, 0)]), (0, 0, [(1, 0, 0, 0), (1, 0, 10, 10), (1, 0, 0, 0), (1, 0, 0, 0), (0, 20, 0, 0), (0, 21, 0, 0), (0, 22, 0, 0), (0, 23, 0, 0), (0, 24, 0, 0)]), (1, 4, [(1, 0, 0, 0)]), (1, 4, [(1, 0, 0, 0)]), (1, 4, [(1, 0, 0, 0)]), (1, 4, [(1, 0, 0, 0)]), (1, 8, [(1, 0, 0, 0)]), (2, 2, [(1, 0, 0, 0)]), (0, 2, [(0, 27, 0, 0), (1, 0, 0, 0), (0, 28, 0, 0), (1, 0, 0, 0), (1, 0, 0, 0), (1, 0, 0, 0), (1, 0, 0, 0), (1, 0, 0, 0), (1, 0, 0, 0), (1, 0, 0, 0), (1, 0, 0, 0)]), (1, 160, [(1, 0, 0, 0)]), (0, 0, [(1, 0, 0, 0), (1, 0, 10, 10), (1, 0, 0, 0), (1, 0, 0, 0), (0, 29, 0, 0), (0, 30, 0, 0), (0, 31, 0, 0), (0, 32, 0, 0), (0, 33, 0, 0)]), (1, 4, [(1, 0, 0, 0)]), (1, 4, [(1, 0, 0, 0)]), (1, 4, [(1, 0, 0, 0)]), (1, 4, [(1, 0, 0, 0)]), (1, 8, [(1, 0, 0, 0)])] [(1, q1), (7, q2), (13, q3), (19, q4), (25, q5), (26, q6)] H locs := I
  refine lv_aload_n C.1 C.2.1 (kj5_0 (66, .aload_n 0, 1) (List.mem_of_getElem? (i := 31) rfl)) rfl (lv_at hl 0 rfl) ?_
  refine ct_child (r := (RX4, TX4, 5)) (N := 5) C I (by omega) (kx4 l (d - 1) (by omega)) rfl tyX4_ok knD4 (tv_mem (by decide +kernel)) (tv_mem (by decide +kernel)) (tv_mem (by decide +kernel)) (tv_mem (by decide +kernel)) (tv_mem (by decide +kernel)) kc4 rfl rfl rfl (by decide +kernel) (by decide) (Nat.le_of_ble_eq_true (rfl : Nat.ble 38 _ = true)) (Nat.le_of_ble_eq_true (rfl : Nat.ble 367 _ = true)) rfl (Nat.le_of_ble_eq_true rfl) hl.1 (kj5_0 (67, .new 36, 3) (List.mem_of_getElem? (i := 32) rfl)) (kj5_0 (70, .dup, 1) (List.mem_of_getElem? (i := 33) rfl)) (kj5_0 (71, .invokespecial 38, 3) (List.mem_of_getElem? (i := 34) rfl)) (fun q7 H locs I => ?_)
  have I : ct_I D A s q0 5 [.ref q1, .ref q2, .ref q3, .ref q4, .ref q5, .ref q6, .null, .null, .null, .int 0, .int 0] [(0, 0, [(1, 0, 0, 0), (1, 0, 10, 10), (1, 0, 0, 0), (1, 0, 0, 0), (0, 2, 0, 0), (0, 3, 0, 0), (0, 4, 0, 0), (0, 5, 0, 0), (0, 6, 0, 0)]), (1, 4, [(1, 0, 0, 0)]), (1, 4, [(1, 0, 0, 0)]), (1, 4, [(1, 0, 0, 0)]), (1, 4, [(1, 0, 0, 0)]), (1, 8, [(1, 0, 0, 0)]), (0, 0, [(1, 0, 0, 0), (1, 0, 10, 10), (1, 0, 0, 0), (1, 0, 0, 0), (0, 8, 0, 0), (0, 9, 0, 0), (0, 10, 0, 0), (0, 11, 0, 0), (0, 12, 0, 0)]), (1, 4, [(1, 0, 0, 0)]), (1, 4, [(1, 0, 0, 0)]), (1, 4, [(1, 0, 0, 0)]), (1, 4, [(1, 0, 0, 0)]), (1, 8, [(1, 0, 0, 0)]), (0, 0, [(1, 0, 0, 0), (1, 0, 10, 10), (1, 0, 0, 0), (1, 0, 0, 0), (0, 14, 0, 0), (0, 15, 0, 0), (0, 16, 0, 0), (0, 17, 0, 0), (0, 18, 0, 0)]), (1, 4, [(1, 0, 0, 0)]), (1, 4, [(1, 0, 0, 0)]), (1, 4, [(1, 0, 0, 0)]), (1, 4, [(1, 0, 0, 0)]), (1, 8, [(1, 0, 0, 0)]), (0, 0, [(1, 0, 0, 0), (1, 0, 10, 10), (1, 0, 0, 0), (1, 0, 0, 0), (0, 20, 0, 0), (0, 21, 0, 0), (0, 22, 0, 0), (0, 23, 0, 0), (0, 24, 0, 0)]), (1, 4, [(1, 0, 0, 0)]), (1, 4, [(1, 0, 0, 0)]), (1, 4, [(1, 0, 0, 0)]), (1, 4, [(1, 0, 0, 0)]), (1, 8, [(1, 0, 0, 0)]), (2, 2, [(1, 0, 0, 0)]), (0, 2, [(0, 27, 0, 0), (1, 0, 0, 0), (0, 28, 0, 0), (1, 0, 0, 0), (1, 0, 0, 0), (1, 0, 0, 0), (1, 0, 0, 0), (1, 0, 0, 0), (1, 0, 0, 0), (1, 0, 0, 0), (1, 0, 0, 0)]), (1, 160, [(1, 0, 0, 0)]), (0, 0, [(1, 0, 0, 0), (1, 0, 10, 10), (1, 0, 0, 0), (1, 0, 0, 0), (0, 29, 0, 0), (0, 30, 0, 0), (0, 31, 0, 0), (0, 32, 0, 0), (0, 33, 0, 0)]), (1, 4, [(1, 0, 0, 0)]), (1, 4, [(1, 0, 0, 0)]), (1, 4, [(1, 0, 0, 0)]), (1, 4, [(1, 0, 0, 0)]), (1, 8, [(1, 0, 0, 0)]), (0, 4, [(1, 0, 0, 0), (0, 35, 0, 0), (0, 36, 0, 0), (0, 37, 0, 0), (0, 38, 0, 0)]), (1, 6, [(1, 0, 0, 0)]), (1, 6, [(1, 0, 0, 0)]), (1, 6, [(1, 0, 0, 0)]), (1, 6, [(1, 0, 0, 0)])] [(1, q1), (7, q2), (13, q3), (19, q4), (25, q5), (26, q6), (34, q7)] H locs := I
  refine W.widen (k := 38) (n := 367) (by decide) (by decide) ?_
  refine ct_putF C I (r := (RX5, TX5, 11)) rfl (j := 6) (by decide) (tv_mem (by decide +kernel)) rfl rfl (ty := (.object "HornTests$Sightings")) (v := .ref q7) (by decide +kernel) rfl rfl (Nat.le_of_ble_eq_true rfl) (kj5_0 (74, .putfield 39, 3) (List.mem_of_getElem? (i := 35) rfl)) (fun H locs I => ?_)
  have I : ct_I D A s q0 5 [.ref q1, .ref q2, .ref q3, .ref q4, .ref q5, .ref q6, .ref q7, .null, .null, .int 0, .int 0] [(0, 0, [(1, 0, 0, 0), (1, 0, 10, 10), (1, 0, 0, 0), (1, 0, 0, 0), (0, 2, 0, 0), (0, 3, 0, 0), (0, 4, 0, 0), (0, 5, 0, 0), (0, 6, 0, 0)]), (1, 4, [(1, 0, 0, 0)]), (1, 4, [(1, 0, 0, 0)]), (1, 4, [(1, 0, 0, 0)]), (1, 4, [(1, 0, 0, 0)]), (1, 8, [(1, 0, 0, 0)]), (0, 0, [(1, 0, 0, 0), (1, 0, 10, 10), (1, 0, 0, 0), (1, 0, 0, 0), (0, 8, 0, 0), (0, 9, 0, 0), (0, 10, 0, 0), (0, 11, 0, 0), (0, 12, 0, 0)]), (1, 4, [(1, 0, 0, 0)]), (1, 4, [(1, 0, 0, 0)]), (1, 4, [(1, 0, 0, 0)]), (1, 4, [(1, 0, 0, 0)]), (1, 8, [(1, 0, 0, 0)]), (0, 0, [(1, 0, 0, 0), (1, 0, 10, 10), (1, 0, 0, 0), (1, 0, 0, 0), (0, 14, 0, 0), (0, 15, 0, 0), (0, 16, 0, 0), (0, 17, 0, 0), (0, 18, 0, 0)]), (1, 4, [(1, 0, 0, 0)]), (1, 4, [(1, 0, 0, 0)]), (1, 4, [(1, 0, 0, 0)]), (1, 4, [(1, 0, 0, 0)]), (1, 8, [(1, 0, 0, 0)]), (0, 0, [(1, 0, 0, 0), (1, 0, 10, 10), (1, 0, 0, 0), (1, 0, 0, 0), (0, 20, 0, 0), (0, 21, 0, 0), (0, 22, 0, 0), (0, 23, 0, 0), (0, 24, 0, 0)]), (1, 4, [(1, 0, 0, 0)]), (1, 4, [(1, 0, 0, 0)]), (1, 4, [(1, 0, 0, 0)]), (1, 4, [(1, 0, 0, 0)]), (1, 8, [(1, 0, 0, 0)]), (2, 2, [(1, 0, 0, 0)]), (0, 2, [(0, 27, 0, 0), (1, 0, 0, 0), (0, 28, 0, 0), (1, 0, 0, 0), (1, 0, 0, 0), (1, 0, 0, 0), (1, 0, 0, 0), (1, 0, 0, 0), (1, 0, 0, 0), (1, 0, 0, 0), (1, 0, 0, 0)]), (1, 160, [(1, 0, 0, 0)]), (0, 0, [(1, 0, 0, 0), (1, 0, 10, 10), (1, 0, 0, 0), (1, 0, 0, 0), (0, 29, 0, 0), (0, 30, 0, 0), (0, 31, 0, 0), (0, 32, 0, 0), (0, 33, 0, 0)]), (1, 4, [(1, 0, 0, 0)]), (1, 4, [(1, 0, 0, 0)]), (1, 4, [(1, 0, 0, 0)]), (1, 4, [(1, 0, 0, 0)]), (1, 8, [(1, 0, 0, 0)]), (0, 4, [(1, 0, 0, 0), (0, 35, 0, 0), (0, 36, 0, 0), (0, 37, 0, 0), (0, 38, 0, 0)]), (1, 6, [(1, 0, 0, 0)]), (1, 6, [(1, 0, 0, 0)]), (1, 6, [(1, 0, 0, 0)]), (1, 6, [(1, 0, 0, 0)])] [(1, q1), (7, q2), (13, q3), (19, q4), (25, q5), (26, q6), (34, q7)] H locs := I
  refine lv_aload_n C.1 C.2.1 (kj5_0 (77, .aload_n 0, 1) (List.mem_of_getElem? (i := 36) rfl)) rfl (lv_at hl 0 rfl) ?_
  refine ct_child (r := (RX1, TX1, 3)) (N := 3) C I (by omega) (kx1 l (d - 1) (by omega)) rfl tyX1_ok knD1 (tv_mem (by decide +kernel)) (tv_mem (by decide +kernel)) (tv_mem (by decide +kernel)) (tv_mem (by decide +kernel)) (tv_mem (by decide +kernel)) kc1 rfl rfl rfl (by decide +kernel) (by decide) (Nat.le_of_ble_eq_true (rfl : Nat.ble 40 _ = true)) (Nat.le_of_ble_eq_true (rfl : Nat.ble 470 _ = true)) rfl (Nat.le_of_ble_eq_true rfl) hl.1 (kj5_0 (78, .new 43, 3) (List.mem_of_getElem? (i := 37) rfl)) (kj5_0 (81, .dup, 1) (List.mem_of_getElem? (i := 38) rfl)) (kj5_0 (82, .invokespecial 45, 3) (List.mem_of_getElem? (i := 39) rfl)) (fun q8 H locs I => ?_)
  have I : ct_I D A s q0 5 [.ref q1, .ref q2, .ref q3, .ref q4, .ref q5, .ref q6, .ref q7, .null, .null, .int 0, .int 0] [(0, 0, [(1, 0, 0, 0), (1, 0, 10, 10), (1, 0, 0, 0), (1, 0, 0, 0), (0, 2, 0, 0), (0, 3, 0, 0), (0, 4, 0, 0), (0, 5, 0, 0), (0, 6, 0, 0)]), (1, 4, [(1, 0, 0, 0)]), (1, 4, [(1, 0, 0, 0)]), (1, 4, [(1, 0, 0, 0)]), (1, 4, [(1, 0, 0, 0)]), (1, 8, [(1, 0, 0, 0)]), (0, 0, [(1, 0, 0, 0), (1, 0, 10, 10), (1, 0, 0, 0), (1, 0, 0, 0), (0, 8, 0, 0), (0, 9, 0, 0), (0, 10, 0, 0), (0, 11, 0, 0), (0, 12, 0, 0)]), (1, 4, [(1, 0, 0, 0)]), (1, 4, [(1, 0, 0, 0)]), (1, 4, [(1, 0, 0, 0)]), (1, 4, [(1, 0, 0, 0)]), (1, 8, [(1, 0, 0, 0)]), (0, 0, [(1, 0, 0, 0), (1, 0, 10, 10), (1, 0, 0, 0), (1, 0, 0, 0), (0, 14, 0, 0), (0, 15, 0, 0), (0, 16, 0, 0), (0, 17, 0, 0), (0, 18, 0, 0)]), (1, 4, [(1, 0, 0, 0)]), (1, 4, [(1, 0, 0, 0)]), (1, 4, [(1, 0, 0, 0)]), (1, 4, [(1, 0, 0, 0)]), (1, 8, [(1, 0, 0, 0)]), (0, 0, [(1, 0, 0, 0), (1, 0, 10, 10), (1, 0, 0, 0), (1, 0, 0, 0), (0, 20, 0, 0), (0, 21, 0, 0), (0, 22, 0, 0), (0, 23, 0, 0), (0, 24, 0, 0)]), (1, 4, [(1, 0, 0, 0)]), (1, 4, [(1, 0, 0, 0)]), (1, 4, [(1, 0, 0, 0)]), (1, 4, [(1, 0, 0, 0)]), (1, 8, [(1, 0, 0, 0)]), (2, 2, [(1, 0, 0, 0)]), (0, 2, [(0, 27, 0, 0), (1, 0, 0, 0), (0, 28, 0, 0), (1, 0, 0, 0), (1, 0, 0, 0), (1, 0, 0, 0), (1, 0, 0, 0), (1, 0, 0, 0), (1, 0, 0, 0), (1, 0, 0, 0), (1, 0, 0, 0)]), (1, 160, [(1, 0, 0, 0)]), (0, 0, [(1, 0, 0, 0), (1, 0, 10, 10), (1, 0, 0, 0), (1, 0, 0, 0), (0, 29, 0, 0), (0, 30, 0, 0), (0, 31, 0, 0), (0, 32, 0, 0), (0, 33, 0, 0)]), (1, 4, [(1, 0, 0, 0)]), (1, 4, [(1, 0, 0, 0)]), (1, 4, [(1, 0, 0, 0)]), (1, 4, [(1, 0, 0, 0)]), (1, 8, [(1, 0, 0, 0)]), (0, 4, [(1, 0, 0, 0), (0, 35, 0, 0), (0, 36, 0, 0), (0, 37, 0, 0), (0, 38, 0, 0)]), (1, 6, [(1, 0, 0, 0)]), (1, 6, [(1, 0, 0, 0)]), (1, 6, [(1, 0, 0, 0)]), (1, 6, [(1, 0, 0, 0)]), (0, 1, [(0, 40, 0, 0), (2, 0, 0, 0), (1, 0, 0, 0)]), (3, 100, [])] [(1, q1), (7, q2), (13, q3), (19, q4), (25, q5), (26, q6), (34, q7), (39, q8)] H locs := I
  refine W.widen (k := 40) (n := 470) (by decide) (by decide) ?_
  refine ct_putF C I (r := (RX5, TX5, 11)) rfl (j := 7) (by decide) (tv_mem (by decide +kernel)) rfl rfl (ty := (.object "HornTests$Odds")) (v := .ref q8) (by decide +kernel) rfl rfl (Nat.le_of_ble_eq_true rfl) (kj5_1 (85, .putfield 46, 3) (List.mem_of_getElem? (i := 0) rfl)) (fun H locs I => ?_)
  have I : ct_I D A s q0 5 [.ref q1, .ref q2, .ref q3, .ref q4, .ref q5, .ref q6, .ref q7, .ref q8, .null, .int 0, .int 0] [(0, 0, [(1, 0, 0, 0), (1, 0, 10, 10), (1, 0, 0, 0), (1, 0, 0, 0), (0, 2, 0, 0), (0, 3, 0, 0), (0, 4, 0, 0), (0, 5, 0, 0), (0, 6, 0, 0)]), (1, 4, [(1, 0, 0, 0)]), (1, 4, [(1, 0, 0, 0)]), (1, 4, [(1, 0, 0, 0)]), (1, 4, [(1, 0, 0, 0)]), (1, 8, [(1, 0, 0, 0)]), (0, 0, [(1, 0, 0, 0), (1, 0, 10, 10), (1, 0, 0, 0), (1, 0, 0, 0), (0, 8, 0, 0), (0, 9, 0, 0), (0, 10, 0, 0), (0, 11, 0, 0), (0, 12, 0, 0)]), (1, 4, [(1, 0, 0, 0)]), (1, 4, [(1, 0, 0, 0)]), (1, 4, [(1, 0, 0, 0)]), (1, 4, [(1, 0, 0, 0)]), (1, 8, [(1, 0, 0, 0)]), (0, 0, [(1, 0, 0, 0), (1, 0, 10, 10), (1, 0, 0, 0), (1, 0, 0, 0), (0, 14, 0, 0), (0, 15, 0, 0), (0, 16, 0, 0), (0, 17, 0, 0), (0, 18, 0, 0)]), (1, 4, [(1, 0, 0, 0)]), (1, 4, [(1, 0, 0, 0)]), (1, 4, [(1, 0, 0, 0)]), (1, 4, [(1, 0, 0, 0)]), (1, 8, [(1, 0, 0, 0)]), (0, 0, [(1, 0, 0, 0), (1, 0, 10, 10), (1, 0, 0, 0), (1, 0, 0, 0), (0, 20, 0, 0), (0, 21, 0, 0), (0, 22, 0, 0), (0, 23, 0, 0), (0, 24, 0, 0)]), (1, 4, [(1, 0, 0, 0)]), (1, 4, [(1, 0, 0, 0)]), (1, 4, [(1, 0, 0, 0)]), (1, 4, [(1, 0, 0, 0)]), (1, 8, [(1, 0, 0, 0)]), (2, 2, [(1, 0, 0, 0)]), (0, 2, [(0, 27, 0, 0), (1, 0, 0, 0), (0, 28, 0, 0), (1, 0, 0, 0), (1, 0, 0, 0), (1, 0, 0, 0), (1, 0, 0, 0), (1, 0, 0, 0), (1, 0, 0, 0), (1, 0, 0, 0), (1, 0, 0, 0)]), (1, 160, [(1, 0, 0, 0)]), (0, 0, [(1, 0, 0, 0), (1, 0, 10, 10), (1, 0, 0, 0), (1, 0, 0, 0), (0, 29, 0, 0), (0, 30, 0, 0), (0, 31, 0, 0), (0, 32, 0, 0), (0, 33, 0, 0)]), (1, 4, [(1, 0, 0, 0)]), (1, 4, [(1, 0, 0, 0)]), (1, 4, [(1, 0, 0, 0)]), (1, 4, [(1, 0, 0, 0)]), (1, 8, [(1, 0, 0, 0)]), (0, 4, [(1, 0, 0, 0), (0, 35, 0, 0), (0, 36, 0, 0), (0, 37, 0, 0), (0, 38, 0, 0)]), (1, 6, [(1, 0, 0, 0)]), (1, 6, [(1, 0, 0, 0)]), (1, 6, [(1, 0, 0, 0)]), (1, 6, [(1, 0, 0, 0)]), (0, 1, [(0, 40, 0, 0), (2, 0, 0, 0), (1, 0, 0, 0)]), (3, 100, [])] [(1, q1), (7, q2), (13, q3), (19, q4), (25, q5), (26, q6), (34, q7), (39, q8)] H locs := I
  refine lv_aload_n C.1 C.2.1 (kj5_1 (88, .aload_n 0, 1) (List.mem_of_getElem? (i := 1) rfl)) rfl (lv_at hl 0 rfl) ?_
  refine ct_child (r := (RX3, TX3, 3)) (N := 3) C I (by omega) (kx3 l (d - 1) (by omega)) rfl tyX3_ok knD3 (tv_mem (by decide +kernel)) (tv_mem (by decide +kernel)) (tv_mem (by decide +kernel)) (tv_mem (by decide +kernel)) (tv_mem (by decide +kernel)) kc3 rfl rfl rfl (by decide +kernel) (by decide) (Nat.le_of_ble_eq_true (rfl : Nat.ble 48 _ = true)) (Nat.le_of_ble_eq_true (rfl : Nat.ble 645 _ = true)) rfl (Nat.le_of_ble_eq_true rfl) hl.1 (kj5_1 (89, .new 50, 3) (List.mem_of_getElem? (i := 2) rfl)) (kj5_1 (92, .dup, 1) (List.mem_of_getElem? (i := 3) rfl)) (kj5_1 (93, .invokespecial 52, 3) (List.mem_of_getElem? (i := 4) rfl)) (fun q9 H locs I => ?_)
  have I : ct_I D A s q0 5 [.ref q1, .ref q2, .ref q3, .ref q4, .ref q5, .ref q6, .ref q7, .ref q8, .null, .int 0, .int 0] [(0, 0, [(1, 0, 0, 0), (1, 0, 10, 10), (1, 0, 0, 0), (1, 0, 0, 0), (0, 2, 0, 0), (0, 3, 0, 0), (0, 4, 0, 0), (0, 5, 0, 0), (0, 6, 0, 0)]), (1, 4, [(1, 0, 0, 0)]), (1, 4, [(1, 0, 0, 0)]), (1, 4, [(1, 0, 0, 0)]), (1, 4, [(1, 0, 0, 0)]), (1, 8, [(1, 0, 0, 0)]), (0, 0, [(1, 0, 0, 0), (1, 0, 10, 10), (1, 0, 0, 0), (1, 0, 0, 0), (0, 8, 0, 0), (0, 9, 0, 0), (0, 10, 0, 0), (0, 11, 0, 0), (0, 12, 0, 0)]), (1, 4, [(1, 0, 0, 0)]), (1, 4, [(1, 0, 0, 0)]), (1, 4, [(1, 0, 0, 0)]), (1, 4, [(1, 0, 0, 0)]), (1, 8, [(1, 0, 0, 0)]), (0, 0, [(1, 0, 0, 0), (1, 0, 10, 10), (1, 0, 0, 0), (1, 0, 0, 0), (0, 14, 0, 0), (0, 15, 0, 0), (0, 16, 0, 0), (0, 17, 0, 0), (0, 18, 0, 0)]), (1, 4, [(1, 0, 0, 0)]), (1, 4, [(1, 0, 0, 0)]), (1, 4, [(1, 0, 0, 0)]), (1, 4, [(1, 0, 0, 0)]), (1, 8, [(1, 0, 0, 0)]), (0, 0, [(1, 0, 0, 0), (1, 0, 10, 10), (1, 0, 0, 0), (1, 0, 0, 0), (0, 20, 0, 0), (0, 21, 0, 0), (0, 22, 0, 0), (0, 23, 0, 0), (0, 24, 0, 0)]), (1, 4, [(1, 0, 0, 0)]), (1, 4, [(1, 0, 0, 0)]), (1, 4, [(1, 0, 0, 0)]), (1, 4, [(1, 0, 0, 0)]), (1, 8, [(1, 0, 0, 0)]), (2, 2, [(1, 0, 0, 0)]), (0, 2, [(0, 27, 0, 0), (1, 0, 0, 0), (0, 28, 0, 0), (1, 0, 0, 0), (1, 0, 0, 0), (1, 0, 0, 0), (1, 0, 0, 0), (1, 0, 0, 0), (1, 0, 0, 0), (1, 0, 0, 0), (1, 0, 0, 0)]), (1, 160, [(1, 0, 0, 0)]), (0, 0, [(1, 0, 0, 0), (1, 0, 10, 10), (1, 0, 0, 0), (1, 0, 0, 0), (0, 29, 0, 0), (0, 30, 0, 0), (0, 31, 0, 0), (0, 32, 0, 0), (0, 33, 0, 0)]), (1, 4, [(1, 0, 0, 0)]), (1, 4, [(1, 0, 0, 0)]), (1, 4, [(1, 0, 0, 0)]), (1, 4, [(1, 0, 0, 0)]), (1, 8, [(1, 0, 0, 0)]), (0, 4, [(1, 0, 0, 0), (0, 35, 0, 0), (0, 36, 0, 0), (0, 37, 0, 0), (0, 38, 0, 0)]), (1, 6, [(1, 0, 0, 0)]), (1, 6, [(1, 0, 0, 0)]), (1, 6, [(1, 0, 0, 0)]), (1, 6, [(1, 0, 0, 0)]), (0, 1, [(0, 40, 0, 0), (2, 0, 0, 0), (1, 0, 0, 0)]), (3, 100, []), (0, 3, [(0, 42, 0, 0), (0, 43, 0, 0), (0, 44, 0, 0)]), (1, 4, [(1, 0, (-1), (-1)), (1, 0, (-1), (-1)), (1, 0, (-1), (-1)), (1, 0, (-1), (-1))]), (1, 4, [(1, 0, 0, 0)]), (4, 4, [(0, 45, 0, 0), (0, 46, 0, 0), (0, 47, 0, 0), (0, 48, 0, 0)]), (1, 40, [(1, 0, (-2147483648), 2147483647)]), (1, 40, [(1, 0, (-2147483648), 2147483647)]), (1, 40, [(1, 0, (-2147483648), 2147483647)]), (1, 40, [(1, 0, (-2147483648), 2147483647)])] [(1, q1), (7, q2), (13, q3), (19, q4), (25, q5), (26, q6), (34, q7), (39, q8), (41, q9)] H locs := I
  refine W.widen (k := 48) (n := 645) (by decide) (by decide) ?_
  refine ct_putF C I (r := (RX5, TX5, 11)) rfl (j := 8) (by decide) (tv_mem (by decide +kernel)) rfl rfl (ty := (.object "HornTests$Sheets")) (v := .ref q9) (by decide +kernel) rfl rfl (Nat.le_of_ble_eq_true rfl) (kj5_1 (96, .putfield 53, 3) (List.mem_of_getElem? (i := 5) rfl)) (fun H locs I => ?_)
  have I : ct_I D A s q0 5 [.ref q1, .ref q2, .ref q3, .ref q4, .ref q5, .ref q6, .ref q7, .ref q8, .ref q9, .int 0, .int 0] [(0, 0, [(1, 0, 0, 0), (1, 0, 10, 10), (1, 0, 0, 0), (1, 0, 0, 0), (0, 2, 0, 0), (0, 3, 0, 0), (0, 4, 0, 0), (0, 5, 0, 0), (0, 6, 0, 0)]), (1, 4, [(1, 0, 0, 0)]), (1, 4, [(1, 0, 0, 0)]), (1, 4, [(1, 0, 0, 0)]), (1, 4, [(1, 0, 0, 0)]), (1, 8, [(1, 0, 0, 0)]), (0, 0, [(1, 0, 0, 0), (1, 0, 10, 10), (1, 0, 0, 0), (1, 0, 0, 0), (0, 8, 0, 0), (0, 9, 0, 0), (0, 10, 0, 0), (0, 11, 0, 0), (0, 12, 0, 0)]), (1, 4, [(1, 0, 0, 0)]), (1, 4, [(1, 0, 0, 0)]), (1, 4, [(1, 0, 0, 0)]), (1, 4, [(1, 0, 0, 0)]), (1, 8, [(1, 0, 0, 0)]), (0, 0, [(1, 0, 0, 0), (1, 0, 10, 10), (1, 0, 0, 0), (1, 0, 0, 0), (0, 14, 0, 0), (0, 15, 0, 0), (0, 16, 0, 0), (0, 17, 0, 0), (0, 18, 0, 0)]), (1, 4, [(1, 0, 0, 0)]), (1, 4, [(1, 0, 0, 0)]), (1, 4, [(1, 0, 0, 0)]), (1, 4, [(1, 0, 0, 0)]), (1, 8, [(1, 0, 0, 0)]), (0, 0, [(1, 0, 0, 0), (1, 0, 10, 10), (1, 0, 0, 0), (1, 0, 0, 0), (0, 20, 0, 0), (0, 21, 0, 0), (0, 22, 0, 0), (0, 23, 0, 0), (0, 24, 0, 0)]), (1, 4, [(1, 0, 0, 0)]), (1, 4, [(1, 0, 0, 0)]), (1, 4, [(1, 0, 0, 0)]), (1, 4, [(1, 0, 0, 0)]), (1, 8, [(1, 0, 0, 0)]), (2, 2, [(1, 0, 0, 0)]), (0, 2, [(0, 27, 0, 0), (1, 0, 0, 0), (0, 28, 0, 0), (1, 0, 0, 0), (1, 0, 0, 0), (1, 0, 0, 0), (1, 0, 0, 0), (1, 0, 0, 0), (1, 0, 0, 0), (1, 0, 0, 0), (1, 0, 0, 0)]), (1, 160, [(1, 0, 0, 0)]), (0, 0, [(1, 0, 0, 0), (1, 0, 10, 10), (1, 0, 0, 0), (1, 0, 0, 0), (0, 29, 0, 0), (0, 30, 0, 0), (0, 31, 0, 0), (0, 32, 0, 0), (0, 33, 0, 0)]), (1, 4, [(1, 0, 0, 0)]), (1, 4, [(1, 0, 0, 0)]), (1, 4, [(1, 0, 0, 0)]), (1, 4, [(1, 0, 0, 0)]), (1, 8, [(1, 0, 0, 0)]), (0, 4, [(1, 0, 0, 0), (0, 35, 0, 0), (0, 36, 0, 0), (0, 37, 0, 0), (0, 38, 0, 0)]), (1, 6, [(1, 0, 0, 0)]), (1, 6, [(1, 0, 0, 0)]), (1, 6, [(1, 0, 0, 0)]), (1, 6, [(1, 0, 0, 0)]), (0, 1, [(0, 40, 0, 0), (2, 0, 0, 0), (1, 0, 0, 0)]), (3, 100, []), (0, 3, [(0, 42, 0, 0), (0, 43, 0, 0), (0, 44, 0, 0)]), (1, 4, [(1, 0, (-1), (-1)), (1, 0, (-1), (-1)), (1, 0, (-1), (-1)), (1, 0, (-1), (-1))]), (1, 4, [(1, 0, 0, 0)]), (4, 4, [(0, 45, 0, 0), (0, 46, 0, 0), (0, 47, 0, 0), (0, 48, 0, 0)]), (1, 40, [(1, 0, (-2147483648), 2147483647)]), (1, 40, [(1, 0, (-2147483648), 2147483647)]), (1, 40, [(1, 0, (-2147483648), 2147483647)]), (1, 40, [(1, 0, (-2147483648), 2147483647)])] [(1, q1), (7, q2), (13, q3), (19, q4), (25, q5), (26, q6), (34, q7), (39, q8), (41, q9)] H locs := I
  exact ct_ret (F := [(0, 1, 0, 0), (0, 7, 0, 0), (0, 13, 0, 0), (0, 19, 0, 0), (0, 25, 0, 0), (0, 26, 0, 0), (0, 34, 0, 0), (0, 39, 0, 0), (0, 41, 0, 0), (1, 0, 0, 0), (1, 0, 0, 0)]) C I ⟨Or.inl ⟨rfl, _, List.mem_of_getElem? (i := 0) rfl, rfl⟩, Or.inl ⟨rfl, _, List.mem_of_getElem? (i := 1) rfl, rfl⟩, Or.inl ⟨rfl, _, List.mem_of_getElem? (i := 2) rfl, rfl⟩, Or.inl ⟨rfl, _, List.mem_of_getElem? (i := 3) rfl, rfl⟩, Or.inl ⟨rfl, _, List.mem_of_getElem? (i := 4) rfl, rfl⟩, Or.inl ⟨rfl, _, List.mem_of_getElem? (i := 5) rfl, rfl⟩, Or.inl ⟨rfl, _, List.mem_of_getElem? (i := 6) rfl, rfl⟩, Or.inl ⟨rfl, _, List.mem_of_getElem? (i := 7) rfl, rfl⟩, Or.inl ⟨rfl, _, List.mem_of_getElem? (i := 8) rfl, rfl⟩, Or.inr (Or.inl ⟨rfl, _, rfl, by decide, by decide⟩), Or.inr (Or.inl ⟨rfl, _, rfl, by decide, by decide⟩), trivial⟩ hr hlk (Nat.le_refl _) (Nat.le_refl _) rfl (kj5_1 (99, .return_, 1) (List.mem_of_getElem? (i := 6) rfl))
def ki6_0 : List (Nat × Instr × Nat) := [(0, .aload_n 0, 1), (1, .invokespecial 1, 3), (4, .aload_n 0, 1), (5, .sipush 162, 3), (8, .newarray .int, 2), (10, .putfield 7, 3), (13, .aload_n 0, 1), (14, .bipush 27, 2), (16, .newarray .int, 2), (18, .putfield 13, 3), (21, .aload_n 0, 1), (22, .sipush 160, 3), (25, .newarray .int, 2), (27, .putfield 16, 3), (30, .aload_n 0, 1), (31, .bipush 8, 2), (33, .newarray .int, 2), (35, .dup, 1), (36, .iconst 0, 1), (37, .iconst 0, 1), (38, .iastore, 1), (39, .dup, 1), (40, .iconst 1, 1), (41, .iconst 5, 1), (42, .iastore, 1), (43, .dup, 1), (44, .iconst 2, 1), (45, .bipush 10, 2), (47, .iastore, 1), (48, .dup, 1), (49, .iconst 3, 1), (50, .bipush 13, 2), (52, .iastore, 1), (53, .dup, 1), (54, .iconst 4, 1), (55, .bipush 16, 2), (57, .iastore, 1), (58, .dup, 1), (59, .iconst 5, 1), (60, .bipush 21, 2)]
theorem kj6_0 : ∀ q ∈ ki6_0, decode cX6_init q.1 = .ok (q.2.1, q.2.2) := by decide +kernel
def ki6_1 : List (Nat × Instr × Nat) := [(62, .iastore, 1), (63, .dup, 1), (64, .bipush 6, 2), (66, .bipush 27, 2), (68, .iastore, 1), (69, .dup, 1), (70, .bipush 7, 2), (72, .bipush 31, 2), (74, .iastore, 1), (75, .putfield 19, 3), (78, .aload_n 0, 1), (79, .bipush 31, 2), (81, .newarray .int, 2), (83, .dup, 1), (84, .iconst 0, 1), (85, .bipush 112, 2), (87, .iastore, 1), (88, .dup, 1), (89, .iconst 1, 1), (90, .bipush 108, 2), (92, .iastore, 1), (93, .dup, 1), (94, .iconst 2, 1), (95, .bipush 97, 2), (97, .iastore, 1), (98, .dup, 1), (99, .iconst 3, 1), (100, .bipush 105, 2), (102, .iastore, 1), (103, .dup, 1), (104, .iconst 4, 1), (105, .bipush 110, 2), (107, .iastore, 1), (108, .dup, 1), (109, .iconst 5, 1), (110, .bipush 115, 2), (112, .iastore, 1), (113, .dup, 1), (114, .bipush 6, 2), (116, .bipush 110, 2)]
theorem kj6_1 : ∀ q ∈ ki6_1, decode cX6_init q.1 = .ok (q.2.1, q.2.2) := by decide +kernel
def ki6_2 : List (Nat × Instr × Nat) := [(118, .iastore, 1), (119, .dup, 1), (120, .bipush 7, 2), (122, .bipush 97, 2), (124, .iastore, 1), (125, .dup, 1), (126, .bipush 8, 2), (128, .bipush 107, 2), (130, .iastore, 1), (131, .dup, 1), (132, .bipush 9, 2), (134, .bipush 101, 2), (136, .iastore, 1), (137, .dup, 1), (138, .bipush 10, 2), (140, .bipush 115, 2), (142, .iastore, 1), (143, .dup, 1), (144, .bipush 11, 2), (146, .bipush 101, 2), (148, .iastore, 1), (149, .dup, 1), (150, .bipush 12, 2), (152, .bipush 97, 2), (154, .iastore, 1), (155, .dup, 1), (156, .bipush 13, 2), (158, .bipush 97, 2), (160, .iastore, 1), (161, .dup, 1), (162, .bipush 14, 2), (164, .bipush 103, 2), (166, .iastore, 1), (167, .dup, 1), (168, .bipush 15, 2), (170, .bipush 101, 2), (172, .iastore, 1), (173, .dup, 1), (174, .bipush 16, 2), (176, .bipush 103, 2)]
theorem kj6_2 : ∀ q ∈ ki6_2, decode cX6_init q.1 = .ok (q.2.1, q.2.2) := by decide +kernel
def ki6_3 : List (Nat × Instr × Nat) := [(178, .iastore, 1), (179, .dup, 1), (180, .bipush 17, 2), (182, .bipush 117, 2), (184, .iastore, 1), (185, .dup, 1), (186, .bipush 18, 2), (188, .bipush 101, 2), (190, .iastore, 1), (191, .dup, 1), (192, .bipush 19, 2), (194, .bipush 115, 2), (196, .iastore, 1), (197, .dup, 1), (198, .bipush 20, 2), (200, .bipush 116, 2), (202, .iastore, 1), (203, .dup, 1), (204, .bipush 21, 2), (206, .bipush 108, 2), (208, .iastore, 1), (209, .dup, 1), (210, .bipush 22, 2), (212, .bipush 97, 2), (214, .iastore, 1), (215, .dup, 1), (216, .bipush 23, 2), (218, .bipush 117, 2), (220, .iastore, 1), (221, .dup, 1), (222, .bipush 24, 2), (224, .bipush 103, 2), (226, .iastore, 1), (227, .dup, 1), (228, .bipush 25, 2), (230, .bipush 104, 2), (232, .iastore, 1), (233, .dup, 1), (234, .bipush 26, 2), (236, .bipush 115, 2)]
theorem kj6_3 : ∀ q ∈ ki6_3, decode cX6_init q.1 = .ok (q.2.1, q.2.2) := by decide +kernel
def ki6_4 : List (Nat × Instr × Nat) := [(238, .iastore, 1), (239, .dup, 1), (240, .bipush 27, 2), (242, .bipush 112, 2), (244, .iastore, 1), (245, .dup, 1), (246, .bipush 28, 2), (248, .bipush 108, 2), (250, .iastore, 1), (251, .dup, 1), (252, .bipush 29, 2), (254, .bipush 97, 2), (256, .iastore, 1), (257, .dup, 1), (258, .bipush 30, 2), (260, .bipush 110, 2), (262, .iastore, 1), (263, .putfield 22, 3), (266, .aload_n 0, 1), (267, .bipush 24, 2), (269, .newarray .int, 2), (271, .putfield 25, 3), (274, .aload_n 0, 1), (275, .iconst 2, 1), (276, .newarray .boolean, 2), (278, .putfield 28, 3), (281, .aload_n 0, 1), (282, .iconst 4, 1), (283, .newarray .int, 2), (285, .dup, 1), (286, .iconst 0, 1), (287, .bipush (-4), 2), (289, .iastore, 1), (290, .dup, 1), (291, .iconst 1, 1), (292, .bipush (-4), 2), (294, .iastore, 1), (295, .dup, 1), (296, .iconst 2, 1), (297, .bipush (-4), 2)]
theorem kj6_4 : ∀ q ∈ ki6_4, decode cX6_init q.1 = .ok (q.2.1, q.2.2) := by decide +kernel
def ki6_5 : List (Nat × Instr × Nat) := [(299, .iastore, 1), (300, .dup, 1), (301, .iconst 3, 1), (302, .bipush (-4), 2), (304, .iastore, 1), (305, .putfield 32, 3), (308, .aload_n 0, 1), (309, .iconst 4, 1), (310, .newarray .int, 2), (312, .putfield 35, 3), (315, .aload_n 0, 1), (316, .sipush 160, 3), (319, .newarray .int, 2), (321, .putfield 38, 3), (324, .return_, 1)]
theorem kj6_5 : ∀ q ∈ ki6_5, decode cX6_init q.1 = .ok (q.2.1, q.2.2) := by decide +kernel
set_option maxHeartbeats 4000000 in
set_option maxRecDepth 100000 in
theorem kx6 (l : Launch) (d : Nat) (hd : 1 ≤ d) : ct_Met l km6 d 10 582 6 kd6 kT6 := by
  refine ct_met l (by decide) rfl (by decide) rfl ?_
  intro p e s m args below meth c ls D q0 A C I hl hr hlk
  have hl : lv_has ls 1 [(0, .ref q0)] := hl
  generalize ([] : List Loc) = locs at I ⊢
  refine lv_aload_n C.1 C.2.1 (kj6_0 (0, .aload_n 0, 1) (List.mem_of_getElem? (i := 0) rfl)) rfl (lv_at hl 0 rfl) ?_
  refine ct_obj C (by omega) (tv_mem (by decide +kernel)) ko1 ko2 hl.1 (kj6_0 (1, .invokespecial 1, 3) (List.mem_of_getElem? (i := 1) rfl)) ?_
  refine lv_aload_n C.1 C.2.1 (kj6_0 (4, .aload_n 0, 1) (List.mem_of_getElem? (i := 2) rfl)) rfl (lv_at hl 0 rfl) ?_
  refine lv_sipush (v := 162) C.1 C.2.1 (kj6_0 (5, .sipush 162, 3) (List.mem_of_getElem? (i := 3) rfl)) (by decide) ?_
  refine ct_arr (at_ := .int) (N := 162) (ty := .int) (a0 := (162, .inl (fun _ => 0))) (t := (1, 162, [(1, 0, 0, 0)])) C I ka_int rfl (fun _ => rfl) (by decide) (by decide) (by decide) (Nat.le_of_ble_eq_true (rfl : Nat.ble 1 _ = true)) (Nat.le_of_ble_eq_true (rfl : Nat.ble 162 _ = true)) (ct_z1 (by decide)) (kj6_0 (8, .newarray .int, 2) (List.mem_of_getElem? (i := 4) rfl)) (fun q1 H I => ?_)
  have I : ct_I D A s q0 6 [.null, .int 0, .null, .int 0, .int 0, .int 0, .null, .int 0, .int 0, .int 0, .int 0, .int 0, .int 0, .int 0, .int 0, .null, .null, .int 0, .null, .int 0, .null, .null, .null, .null, .int 0] [(1, 162, [(1, 0, 0, 0)])] [(1, q1)] H locs := I
  refine W.widen (k := 1) (n := 162) (by decide) (by decide) ?_
  refine ct_putF C I (r := (RX6, TX6, 25)) rfl (j := 0) (by decide) (tv_mem (by decide +kernel)) rfl rfl (ty := (.array .int)) (v := .ref q1) (by decide +kernel) rfl rfl (Nat.le_of_ble_eq_true rfl) (kj6_0 (10, .putfield 7, 3) (List.mem_of_getElem? (i := 5) rfl)) (fun H locs I => ?_)
  have I : ct_I D A s q0 6 [.ref q1, .int 0, .null, .int 0, .int 0, .int 0, .null, .int 0, .int 0, .int 0, .int 0, .int 0, .int 0, .int 0, .int 0, .null, .null, .int 0, .null, .int 0, .null, .null, .null, .null, .int 0] [(1, 162, [(1, 0, 0, 0)])] [(1, q1)] H locs := I
  refine lv_aload_n C.1 C.2.1 (kj6_0 (13, .aload_n 0, 1) (List.mem_of_getElem? (i := 6) rfl)) rfl (lv_at hl 0 rfl) ?_
  refine lv_bipush (v := 27) C.1 C.2.1 (kj6_0 (14, .bipush 27, 2) (List.mem_of_getElem? (i := 7) rfl)) (by decide) ?_
  refine ct_arr (at_ := .int) (N := 27) (ty := .int) (a0 := (27, .inl (fun _ => 0))) (t := (1, 27, [(1, 0, 0, 0)])) C I ka_int rfl (fun _ => rfl) (by decide) (by decide) (by decide) (Nat.le_of_ble_eq_true (rfl : Nat.ble 2 _ = true)) (Nat.le_of_ble_eq_true (rfl : Nat.ble 189 _ = true)) (ct_z1 (by decide)) (kj6_0 (16, .newarray .int, 2) (List.mem_of_getElem? (i := 8) rfl)) (fun q2 H I => ?_)
  have I : ct_I D A s q0 6 [.ref q1, .int 0, .null, .int 0, .int 0, .int 0, .null, .int 0, .int 0, .int 0, .int 0, .int 0, .int 0, .int 0, .int 0, .null, .null, .int 0, .null, .int 0, .null, .null, .null, .null, .int 0] [(1, 162, [(1, 0, 0, 0)]), (1, 27, [(1, 0, 0, 0)])] [(1, q1), (2, q2)] H locs := I
  refine W.widen (k := 2) (n := 189) (by decide) (by decide) ?_
  refine ct_putF C I (r := (RX6, TX6, 25)) rfl (j := 2) (by decide) (tv_mem (by decide +kernel)) rfl rfl (ty := (.array .int)) (v := .ref q2) (by decide +kernel) rfl rfl (Nat.le_of_ble_eq_true rfl) (kj6_0 (18, .putfield 13, 3) (List.mem_of_getElem? (i := 9) rfl)) (fun H locs I => ?_)
  have I : ct_I D A s q0 6 [.ref q1, .int 0, .ref q2, .int 0, .int 0, .int 0, .null, .int 0, .int 0, .int 0, .int 0, .int 0, .int 0, .int 0, .int 0, .null, .null, .int 0, .null, .int 0, .null, .null, .null, .null, .int 0] [(1, 162, [(1, 0, 0, 0)]), (1, 27, [(1, 0, 0, 0)])] [(1, q1), (2, q2)] H locs := I
  refine lv_aload_n C.1 C.2.1 (kj6_0 (21, .aload_n 0, 1) (List.mem_of_getElem? (i := 10) rfl)) rfl (lv_at hl 0 rfl) ?_
  refine lv_sipush (v := 160) C.1 C.2.1 (kj6_0 (22, .sipush 160, 3) (List.mem_of_getElem? (i := 11) rfl)) (by decide) ?_
  refine ct_arr (at_ := .int) (N := 160) (ty := .int) (a0 := (160, .inl (fun _ => 0))) (t := (1, 160, [(1, 0, 0, 0)])) C I ka_int rfl (fun _ => rfl) (by decide) (by decide) (by decide) (Nat.le_of_ble_eq_true (rfl : Nat.ble 3 _ = true)) (Nat.le_of_ble_eq_true (rfl : Nat.ble 349 _ = true)) (ct_z1 (by decide)) (kj6_0 (25, .newarray .int, 2) (List.mem_of_getElem? (i := 12) rfl)) (fun q3 H I => ?_)
  have I : ct_I D A s q0 6 [.ref q1, .int 0, .ref q2, .int 0, .int 0, .int 0, .null, .int 0, .int 0, .int 0, .int 0, .int 0, .int 0, .int 0, .int 0, .null, .null, .int 0, .null, .int 0, .null, .null, .null, .null, .int 0] [(1, 162, [(1, 0, 0, 0)]), (1, 27, [(1, 0, 0, 0)]), (1, 160, [(1, 0, 0, 0)])] [(1, q1), (2, q2), (3, q3)] H locs := I
  refine W.widen (k := 3) (n := 349) (by decide) (by decide) ?_
  refine ct_putF C I (r := (RX6, TX6, 25)) rfl (j := 6) (by decide) (tv_mem (by decide +kernel)) rfl rfl (ty := (.array .int)) (v := .ref q3) (by decide +kernel) rfl rfl (Nat.le_of_ble_eq_true rfl) (kj6_0 (27, .putfield 16, 3) (List.mem_of_getElem? (i := 13) rfl)) (fun H locs I => ?_)
  have I : ct_I D A s q0 6 [.ref q1, .int 0, .ref q2, .int 0, .int 0, .int 0, .ref q3, .int 0, .int 0, .int 0, .int 0, .int 0, .int 0, .int 0, .int 0, .null, .null, .int 0, .null, .int 0, .null, .null, .null, .null, .int 0] [(1, 162, [(1, 0, 0, 0)]), (1, 27, [(1, 0, 0, 0)]), (1, 160, [(1, 0, 0, 0)])] [(1, q1), (2, q2), (3, q3)] H locs := I
  refine lv_aload_n C.1 C.2.1 (kj6_0 (30, .aload_n 0, 1) (List.mem_of_getElem? (i := 14) rfl)) rfl (lv_at hl 0 rfl) ?_
  refine lv_bipush (v := 8) C.1 C.2.1 (kj6_0 (31, .bipush 8, 2) (List.mem_of_getElem? (i := 15) rfl)) (by decide) ?_
  refine ct_arrJ (N := 8) C I ka_int (by decide) (by decide) (by decide) (Nat.le_of_ble_eq_true (rfl : Nat.ble 4 _ = true)) (Nat.le_of_ble_eq_true (rfl : Nat.ble 357 _ = true)) (kj6_0 (33, .newarray .int, 2) (List.mem_of_getElem? (i := 16) rfl)) (fun q4 H I => ?_)
  refine W.widen (k := 4) (n := 357) (by decide) (by decide) ?_
  refine lv_dup C.1 C.2.1 (kj6_0 (35, .dup, 1) (List.mem_of_getElem? (i := 17) rfl)) rfl ?_
  refine lv_iconst (v := 0) C.1 C.2.1 (kj6_0 (36, .iconst 0, 1) (List.mem_of_getElem? (i := 18) rfl)) (by decide) ?_
  refine lv_iconst (v := 0) C.1 C.2.1 (kj6_0 (37, .iconst 0, 1) (List.mem_of_getElem? (i := 19) rfl)) (by decide) ?_
  refine ct_sto (i := 0) (x := 0) C I (by unfold vp_in; decide) (kj6_0 (38, .iastore, 1) (List.mem_of_getElem? (i := 20) rfl)) (fun H locs I => ?_)
  refine lv_dup C.1 C.2.1 (kj6_0 (39, .dup, 1) (List.mem_of_getElem? (i := 21) rfl)) rfl ?_
  refine lv_iconst (v := 1) C.1 C.2.1 (kj6_0 (40, .iconst 1, 1) (List.mem_of_getElem? (i := 22) rfl)) (by decide) ?_
  refine lv_iconst (v := 5) C.1 C.2.1 (kj6_0 (41, .iconst 5, 1) (List.mem_of_getElem? (i := 23) rfl)) (by decide) ?_
  refine ct_sto (i := 1) (x := 5) C I (by unfold vp_in; decide) (kj6_0 (42, .iastore, 1) (List.mem_of_getElem? (i := 24) rfl)) (fun H locs I => ?_)
  refine lv_dup C.1 C.2.1 (kj6_0 (43, .dup, 1) (List.mem_of_getElem? (i := 25) rfl)) rfl ?_
  refine lv_iconst (v := 2) C.1 C.2.1 (kj6_0 (44, .iconst 2, 1) (List.mem_of_getElem? (i := 26) rfl)) (by decide) ?_
  refine lv_bipush (v := 10) C.1 C.2.1 (kj6_0 (45, .bipush 10, 2) (List.mem_of_getElem? (i := 27) rfl)) (by decide) ?_
  refine ct_sto (i := 2) (x := 10) C I (by unfold vp_in; decide) (kj6_0 (47, .iastore, 1) (List.mem_of_getElem? (i := 28) rfl)) (fun H locs I => ?_)
  refine lv_dup C.1 C.2.1 (kj6_0 (48, .dup, 1) (List.mem_of_getElem? (i := 29) rfl)) rfl ?_
  refine lv_iconst (v := 3) C.1 C.2.1 (kj6_0 (49, .iconst 3, 1) (List.mem_of_getElem? (i := 30) rfl)) (by decide) ?_
  refine lv_bipush (v := 13) C.1 C.2.1 (kj6_0 (50, .bipush 13, 2) (List.mem_of_getElem? (i := 31) rfl)) (by decide) ?_
  refine ct_sto (i := 3) (x := 13) C I (by unfold vp_in; decide) (kj6_0 (52, .iastore, 1) (List.mem_of_getElem? (i := 32) rfl)) (fun H locs I => ?_)
  refine lv_dup C.1 C.2.1 (kj6_0 (53, .dup, 1) (List.mem_of_getElem? (i := 33) rfl)) rfl ?_
  refine lv_iconst (v := 4) C.1 C.2.1 (kj6_0 (54, .iconst 4, 1) (List.mem_of_getElem? (i := 34) rfl)) (by decide) ?_
  refine lv_bipush (v := 16) C.1 C.2.1 (kj6_0 (55, .bipush 16, 2) (List.mem_of_getElem? (i := 35) rfl)) (by decide) ?_
  refine ct_sto (i := 4) (x := 16) C I (by unfold vp_in; decide) (kj6_0 (57, .iastore, 1) (List.mem_of_getElem? (i := 36) rfl)) (fun H locs I => ?_)
  refine lv_dup C.1 C.2.1 (kj6_0 (58, .dup, 1) (List.mem_of_getElem? (i := 37) rfl)) rfl ?_
  refine lv_iconst (v := 5) C.1 C.2.1 (kj6_0 (59, .iconst 5, 1) (List.mem_of_getElem? (i := 38) rfl)) (by decide) ?_
  refine lv_bipush (v := 21) C.1 C.2.1 (kj6_0 (60, .bipush 21, 2) (List.mem_of_getElem? (i := 39) rfl)) (by decide) ?_
  refine ct_sto (i := 5) (x := 21) C I (by unfold vp_in; decide) (kj6_1 (62, .iastore, 1) (List.mem_of_getElem? (i := 0) rfl)) (fun H locs I => ?_)
  refine lv_dup C.1 C.2.1 (kj6_1 (63, .dup, 1) (List.mem_of_getElem? (i := 1) rfl)) rfl ?_
  refine lv_bipush (v := 6) C.1 C.2.1 (kj6_1 (64, .bipush 6, 2) (List.mem_of_getElem? (i := 2) rfl)) (by decide) ?_
  refine lv_bipush (v := 27) C.1 C.2.1 (kj6_1 (66, .bipush 27, 2) (List.mem_of_getElem? (i := 3) rfl)) (by decide) ?_
  refine ct_sto (i := 6) (x := 27) C I (by unfold vp_in; decide) (kj6_1 (68, .iastore, 1) (List.mem_of_getElem? (i := 4) rfl)) (fun H locs I => ?_)
  refine lv_dup C.1 C.2.1 (kj6_1 (69, .dup, 1) (List.mem_of_getElem? (i := 5) rfl)) rfl ?_
  refine lv_bipush (v := 7) C.1 C.2.1 (kj6_1 (70, .bipush 7, 2) (List.mem_of_getElem? (i := 6) rfl)) (by decide) ?_
  refine lv_bipush (v := 31) C.1 C.2.1 (kj6_1 (72, .bipush 31, 2) (List.mem_of_getElem? (i := 7) rfl)) (by decide) ?_
  refine ct_sto (i := 7) (x := 31) C I (by unfold vp_in; decide) (kj6_1 (74, .iastore, 1) (List.mem_of_getElem? (i := 8) rfl)) (fun H locs I => ?_)
  have I := ct_J.close (pat := [(1, 0, 0, 0), (1, 0, 5, 5), (1, 0, 10, 10), (1, 0, 13, 13), (1, 0, 16, 16), (1, 0, 21, 21), (1, 0, 27, 27), (1, 0, 31, 31)]) I (fun i g hi hg => by
    match i, hi with
    | 0, _ => cases hg; exact ⟨by decide, by decide⟩
    | 1, _ => cases hg; exact ⟨by decide, by decide⟩
    | 2, _ => cases hg; exact ⟨by decide, by decide⟩
    | 3, _ => cases hg; exact ⟨by decide, by decide⟩
    | 4, _ => cases hg; exact ⟨by decide, by decide⟩
    | 5, _ => cases hg; exact ⟨by decide, by decide⟩
    | 6, _ => cases hg; exact ⟨by decide, by decide⟩
    | 7, _ => cases hg; exact ⟨by decide, by decide⟩
    | i + 8, hi => exact absurd hi (by omega))
  have I : ct_I D A s q0 6 [.ref q1, .int 0, .ref q2, .int 0, .int 0, .int 0, .ref q3, .int 0, .int 0, .int 0, .int 0, .int 0, .int 0, .int 0, .int 0, .null, .null, .int 0, .null, .int 0, .null, .null, .null, .null, .int 0] [(1, 162, [(1, 0, 0, 0)]), (1, 27, [(1, 0, 0, 0)]), (1, 160, [(1, 0, 0, 0)]), (1, 8, [(1, 0, 0, 0), (1, 0, 5, 5), (1, 0, 10, 10), (1, 0, 13, 13), (1, 0, 16, 16), (1, 0, 21, 21), (1, 0, 27, 27), (1, 0, 31, 31)])] [(1, q1), (2, q2), (3, q3), (4, q4)] H locs := I
  refine ct_putF C I (r := (RX6, TX6, 25)) rfl (j := 15) (by decide) (tv_mem (by decide +kernel)) rfl rfl (ty := (.array .int)) (v := .ref q4) (by decide +kernel) rfl rfl (Nat.le_of_ble_eq_true rfl) (kj6_1 (75, .putfield 19, 3) (List.mem_of_getElem? (i := 9) rfl)) (fun H locs I => ?_)
  have I : ct_I D A s q0 6 [.ref q1, .int 0, .ref q2, .int 0, .int 0, .int 0, .ref q3, .int 0, .int 0, .int 0, .int 0, .int 0, .int 0, .int 0, .int 0, .ref q4, .null, .int 0, .null, .int 0, .null, .null, .null, .null, .int 0] [(1, 162, [(1, 0, 0, 0)]), (1, 27, [(1, 0, 0, 0)]), (1, 160, [(1, 0, 0, 0)]), (1, 8, [(1, 0, 0, 0), (1, 0, 5, 5), (1, 0, 10, 10), (1, 0, 13, 13), (1, 0, 16, 16), (1, 0, 21, 21), (1, 0, 27, 27), (1, 0, 31, 31)])] [(1, q1), (2, q2), (3, q3), (4, q4)] H locs := I
  refine lv_aload_n C.1 C.2.1 (kj6_1 (78, .aload_n 0, 1) (List.mem_of_getElem? (i := 10) rfl)) rfl (lv_at hl 0 rfl) ?_
  refine lv_bipush (v := 31) C.1 C.2.1 (kj6_1 (79, .bipush 31, 2) (List.mem_of_getElem? (i := 11) rfl)) (by decide) ?_
  refine ct_arrJ (N := 31) C I ka_int (by decide) (by decide) (by decide) (Nat.le_of_ble_eq_true (rfl : Nat.ble 5 _ = true)) (Nat.le_of_ble_eq_true (rfl : Nat.ble 388 _ = true)) (kj6_1 (81, .newarray .int, 2) (List.mem_of_getElem? (i := 12) rfl)) (fun q5 H I => ?_)
  refine W.widen (k := 5) (n := 388) (by decide) (by decide) ?_
  refine lv_dup C.1 C.2.1 (kj6_1 (83, .dup, 1) (List.mem_of_getElem? (i := 13) rfl)) rfl ?_
  refine lv_iconst (v := 0) C.1 C.2.1 (kj6_1 (84, .iconst 0, 1) (List.mem_of_getElem? (i := 14) rfl)) (by decide) ?_
  refine lv_bipush (v := 112) C.1 C.2.1 (kj6_1 (85, .bipush 112, 2) (List.mem_of_getElem? (i := 15) rfl)) (by decide) ?_
  refine ct_sto (i := 0) (x := 112) C I (by unfold vp_in; decide) (kj6_1 (87, .iastore, 1) (List.mem_of_getElem? (i := 16) rfl)) (fun H locs I => ?_)
  refine lv_dup C.1 C.2.1 (kj6_1 (88, .dup, 1) (List.mem_of_getElem? (i := 17) rfl)) rfl ?_
  refine lv_iconst (v := 1) C.1 C.2.1 (kj6_1 (89, .iconst 1, 1) (List.mem_of_getElem? (i := 18) rfl)) (by decide) ?_
  refine lv_bipush (v := 108) C.1 C.2.1 (kj6_1 (90, .bipush 108, 2) (List.mem_of_getElem? (i := 19) rfl)) (by decide) ?_
  refine ct_sto (i := 1) (x := 108) C I (by unfold vp_in; decide) (kj6_1 (92, .iastore, 1) (List.mem_of_getElem? (i := 20) rfl)) (fun H locs I => ?_)
  refine lv_dup C.1 C.2.1 (kj6_1 (93, .dup, 1) (List.mem_of_getElem? (i := 21) rfl)) rfl ?_
  refine lv_iconst (v := 2) C.1 C.2.1 (kj6_1 (94, .iconst 2, 1) (List.mem_of_getElem? (i := 22) rfl)) (by decide) ?_
  refine lv_bipush (v := 97) C.1 C.2.1 (kj6_1 (95, .bipush 97, 2) (List.mem_of_getElem? (i := 23) rfl)) (by decide) ?_
  refine ct_sto (i := 2) (x := 97) C I (by unfold vp_in; decide) (kj6_1 (97, .iastore, 1) (List.mem_of_getElem? (i := 24) rfl)) (fun H locs I => ?_)
  refine lv_dup C.1 C.2.1 (kj6_1 (98, .dup, 1) (List.mem_of_getElem? (i := 25) rfl)) rfl ?_
  refine lv_iconst (v := 3) C.1 C.2.1 (kj6_1 (99, .iconst 3, 1) (List.mem_of_getElem? (i := 26) rfl)) (by decide) ?_
  refine lv_bipush (v := 105) C.1 C.2.1 (kj6_1 (100, .bipush 105, 2) (List.mem_of_getElem? (i := 27) rfl)) (by decide) ?_
  refine ct_sto (i := 3) (x := 105) C I (by unfold vp_in; decide) (kj6_1 (102, .iastore, 1) (List.mem_of_getElem? (i := 28) rfl)) (fun H locs I => ?_)
  refine lv_dup C.1 C.2.1 (kj6_1 (103, .dup, 1) (List.mem_of_getElem? (i := 29) rfl)) rfl ?_
  refine lv_iconst (v := 4) C.1 C.2.1 (kj6_1 (104, .iconst 4, 1) (List.mem_of_getElem? (i := 30) rfl)) (by decide) ?_
  refine lv_bipush (v := 110) C.1 C.2.1 (kj6_1 (105, .bipush 110, 2) (List.mem_of_getElem? (i := 31) rfl)) (by decide) ?_
  refine ct_sto (i := 4) (x := 110) C I (by unfold vp_in; decide) (kj6_1 (107, .iastore, 1) (List.mem_of_getElem? (i := 32) rfl)) (fun H locs I => ?_)
  refine lv_dup C.1 C.2.1 (kj6_1 (108, .dup, 1) (List.mem_of_getElem? (i := 33) rfl)) rfl ?_
  refine lv_iconst (v := 5) C.1 C.2.1 (kj6_1 (109, .iconst 5, 1) (List.mem_of_getElem? (i := 34) rfl)) (by decide) ?_
  refine lv_bipush (v := 115) C.1 C.2.1 (kj6_1 (110, .bipush 115, 2) (List.mem_of_getElem? (i := 35) rfl)) (by decide) ?_
  refine ct_sto (i := 5) (x := 115) C I (by unfold vp_in; decide) (kj6_1 (112, .iastore, 1) (List.mem_of_getElem? (i := 36) rfl)) (fun H locs I => ?_)
  refine lv_dup C.1 C.2.1 (kj6_1 (113, .dup, 1) (List.mem_of_getElem? (i := 37) rfl)) rfl ?_
  refine lv_bipush (v := 6) C.1 C.2.1 (kj6_1 (114, .bipush 6, 2) (List.mem_of_getElem? (i := 38) rfl)) (by decide) ?_
  refine lv_bipush (v := 110) C.1 C.2.1 (kj6_1 (116, .bipush 110, 2) (List.mem_of_getElem? (i := 39) rfl)) (by decide) ?_
  refine ct_sto (i := 6) (x := 110) C I (by unfold vp_in; decide) (kj6_2 (118, .iastore, 1) (List.mem_of_getElem? (i := 0) rfl)) (fun H locs I => ?_)
  refine lv_dup C.1 C.2.1 (kj6_2 (119, .dup, 1) (List.mem_of_getElem? (i := 1) rfl)) rfl ?_
  refine lv_bipush (v := 7) C.1 C.2.1 (kj6_2 (120, .bipush 7, 2) (List.mem_of_getElem? (i := 2) rfl)) (by decide) ?_
  refine lv_bipush (v := 97) C.1 C.2.1 (kj6_2 (122, .bipush 97, 2) (List.mem_of_getElem? (i := 3) rfl)) (by decide) ?_
  refine ct_sto (i := 7) (x := 97) C I (by unfold vp_in; decide) (kj6_2 (124, .iastore, 1) (List.mem_of_getElem? (i := 4) rfl)) (fun H locs I => ?_)
  refine lv_dup C.1 C.2.1 (kj6_2 (125, .dup, 1) (List.mem_of_getElem? (i := 5) rfl)) rfl ?_
  refine lv_bipush (v := 8) C.1 C.2.1 (kj6_2 (126, .bipush 8, 2) (List.mem_of_getElem? (i := 6) rfl)) (by decide) ?_
  refine lv_bipush (v := 107) C.1 C.2.1 (kj6_2 (128, .bipush 107, 2) (List.mem_of_getElem? (i := 7) rfl)) (by decide) ?_
  refine ct_sto (i := 8) (x := 107) C I (by unfold vp_in; decide) (kj6_2 (130, .iastore, 1) (List.mem_of_getElem? (i := 8) rfl)) (fun H locs I => ?_)
  refine lv_dup C.1 C.2.1 (kj6_2 (131, .dup, 1) (List.mem_of_getElem? (i := 9) rfl)) rfl ?_
  refine lv_bipush (v := 9) C.1 C.2.1 (kj6_2 (132, .bipush 9, 2) (List.mem_of_getElem? (i := 10) rfl)) (by decide) ?_
  refine lv_bipush (v := 101) C.1 C.2.1 (kj6_2 (134, .bipush 101, 2) (List.mem_of_getElem? (i := 11) rfl)) (by decide) ?_
  refine ct_sto (i := 9) (x := 101) C I (by unfold vp_in; decide) (kj6_2 (136, .iastore, 1) (List.mem_of_getElem? (i := 12) rfl)) (fun H locs I => ?_)
  refine lv_dup C.1 C.2.1 (kj6_2 (137, .dup, 1) (List.mem_of_getElem? (i := 13) rfl)) rfl ?_
  refine lv_bipush (v := 10) C.1 C.2.1 (kj6_2 (138, .bipush 10, 2) (List.mem_of_getElem? (i := 14) rfl)) (by decide) ?_
  refine lv_bipush (v := 115) C.1 C.2.1 (kj6_2 (140, .bipush 115, 2) (List.mem_of_getElem? (i := 15) rfl)) (by decide) ?_
  refine ct_sto (i := 10) (x := 115) C I (by unfold vp_in; decide) (kj6_2 (142, .iastore, 1) (List.mem_of_getElem? (i := 16) rfl)) (fun H locs I => ?_)
  refine lv_dup C.1 C.2.1 (kj6_2 (143, .dup, 1) (List.mem_of_getElem? (i := 17) rfl)) rfl ?_
  refine lv_bipush (v := 11) C.1 C.2.1 (kj6_2 (144, .bipush 11, 2) (List.mem_of_getElem? (i := 18) rfl)) (by decide) ?_
  refine lv_bipush (v := 101) C.1 C.2.1 (kj6_2 (146, .bipush 101, 2) (List.mem_of_getElem? (i := 19) rfl)) (by decide) ?_
  refine ct_sto (i := 11) (x := 101) C I (by unfold vp_in; decide) (kj6_2 (148, .iastore, 1) (List.mem_of_getElem? (i := 20) rfl)) (fun H locs I => ?_)
  refine lv_dup C.1 C.2.1 (kj6_2 (149, .dup, 1) (List.mem_of_getElem? (i := 21) rfl)) rfl ?_
  refine lv_bipush (v := 12) C.1 C.2.1 (kj6_2 (150, .bipush 12, 2) (List.mem_of_getElem? (i := 22) rfl)) (by decide) ?_
  refine lv_bipush (v := 97) C.1 C.2.1 (kj6_2 (152, .bipush 97, 2) (List.mem_of_getElem? (i := 23) rfl)) (by decide) ?_
  refine ct_sto (i := 12) (x := 97) C I (by unfold vp_in; decide) (kj6_2 (154, .iastore, 1) (List.mem_of_getElem? (i := 24) rfl)) (fun H locs I => ?_)
  refine lv_dup C.1 C.2.1 (kj6_2 (155, .dup, 1) (List.mem_of_getElem? (i := 25) rfl)) rfl ?_
  refine lv_bipush (v := 13) C.1 C.2.1 (kj6_2 (156, .bipush 13, 2) (List.mem_of_getElem? (i := 26) rfl)) (by decide) ?_
  refine lv_bipush (v := 97) C.1 C.2.1 (kj6_2 (158, .bipush 97, 2) (List.mem_of_getElem? (i := 27) rfl)) (by decide) ?_
  refine ct_sto (i := 13) (x := 97) C I (by unfold vp_in; decide) (kj6_2 (160, .iastore, 1) (List.mem_of_getElem? (i := 28) rfl)) (fun H locs I => ?_)
  refine lv_dup C.1 C.2.1 (kj6_2 (161, .dup, 1) (List.mem_of_getElem? (i := 29) rfl)) rfl ?_
  refine lv_bipush (v := 14) C.1 C.2.1 (kj6_2 (162, .bipush 14, 2) (List.mem_of_getElem? (i := 30) rfl)) (by decide) ?_
  refine lv_bipush (v := 103) C.1 C.2.1 (kj6_2 (164, .bipush 103, 2) (List.mem_of_getElem? (i := 31) rfl)) (by decide) ?_
  refine ct_sto (i := 14) (x := 103) C I (by unfold vp_in; decide) (kj6_2 (166, .iastore, 1) (List.mem_of_getElem? (i := 32) rfl)) (fun H locs I => ?_)
  refine lv_dup C.1 C.2.1 (kj6_2 (167, .dup, 1) (List.mem_of_getElem? (i := 33) rfl)) rfl ?_
  refine lv_bipush (v := 15) C.1 C.2.1 (kj6_2 (168, .bipush 15, 2) (List.mem_of_getElem? (i := 34) rfl)) (by decide) ?_
  refine lv_bipush (v := 101) C.1 C.2.1 (kj6_2 (170, .bipush 101, 2) (List.mem_of_getElem? (i := 35) rfl)) (by decide) ?_
  refine ct_sto (i := 15) (x := 101) C I (by unfold vp_in; decide) (kj6_2 (172, .iastore, 1) (List.mem_of_getElem? (i := 36) rfl)) (fun H locs I => ?_)
  refine lv_dup C.1 C.2.1 (kj6_2 (173, .dup, 1) (List.mem_of_getElem? (i := 37) rfl)) rfl ?_
  refine lv_bipush (v := 16) C.1 C.2.1 (kj6_2 (174, .bipush 16, 2) (List.mem_of_getElem? (i := 38) rfl)) (by decide) ?_
  refine lv_bipush (v := 103) C.1 C.2.1 (kj6_2 (176, .bipush 103, 2) (List.mem_of_getElem? (i := 39) rfl)) (by decide) ?_
  refine ct_sto (i := 16) (x := 103) C I (by unfold vp_in; decide) (kj6_3 (178, .iastore, 1) (List.mem_of_getElem? (i := 0) rfl)) (fun H locs I => ?_)
  refine lv_dup C.1 C.2.1 (kj6_3 (179, .dup, 1) (List.mem_of_getElem? (i := 1) rfl)) rfl ?_
  refine lv_bipush (v := 17) C.1 C.2.1 (kj6_3 (180, .bipush 17, 2) (List.mem_of_getElem? (i := 2) rfl)) (by decide) ?_
  refine lv_bipush (v := 117) C.1 C.2.1 (kj6_3 (182, .bipush 117, 2) (List.mem_of_getElem? (i := 3) rfl)) (by decide) ?_
  refine ct_sto (i := 17) (x := 117) C I (by unfold vp_in; decide) (kj6_3 (184, .iastore, 1) (List.mem_of_getElem? (i := 4) rfl)) (fun H locs I => ?_)
  refine lv_dup C.1 C.2.1 (kj6_3 (185, .dup, 1) (List.mem_of_getElem? (i := 5) rfl)) rfl ?_
  refine lv_bipush (v := 18) C.1 C.2.1 (kj6_3 (186, .bipush 18, 2) (List.mem_of_getElem? (i := 6) rfl)) (by decide) ?_
  refine lv_bipush (v := 101) C.1 C.2.1 (kj6_3 (188, .bipush 101, 2) (List.mem_of_getElem? (i := 7) rfl)) (by decide) ?_
  refine ct_sto (i := 18) (x := 101) C I (by unfold vp_in; decide) (kj6_3 (190, .iastore, 1) (List.mem_of_getElem? (i := 8) rfl)) (fun H locs I => ?_)
  refine lv_dup C.1 C.2.1 (kj6_3 (191, .dup, 1) (List.mem_of_getElem? (i := 9) rfl)) rfl ?_
  refine lv_bipush (v := 19) C.1 C.2.1 (kj6_3 (192, .bipush 19, 2) (List.mem_of_getElem? (i := 10) rfl)) (by decide) ?_
  refine lv_bipush (v := 115) C.1 C.2.1 (kj6_3 (194, .bipush 115, 2) (List.mem_of_getElem? (i := 11) rfl)) (by decide) ?_
  refine ct_sto (i := 19) (x := 115) C I (by unfold vp_in; decide) (kj6_3 (196, .iastore, 1) (List.mem_of_getElem? (i := 12) rfl)) (fun H locs I => ?_)
  refine lv_dup C.1 C.2.1 (kj6_3 (197, .dup, 1) (List.mem_of_getElem? (i := 13) rfl)) rfl ?_
  refine lv_bipush (v := 20) C.1 C.2.1 (kj6_3 (198, .bipush 20, 2) (List.mem_of_getElem? (i := 14) rfl)) (by decide) ?_
  refine lv_bipush (v := 116) C.1 C.2.1 (kj6_3 (200, .bipush 116, 2) (List.mem_of_getElem? (i := 15) rfl)) (by decide) ?_
  refine ct_sto (i := 20) (x := 116) C I (by unfold vp_in; decide) (kj6_3 (202, .iastore, 1) (List.mem_of_getElem? (i := 16) rfl)) (fun H locs I => ?_)
  refine lv_dup C.1 C.2.1 (kj6_3 (203, .dup, 1) (List.mem_of_getElem? (i := 17) rfl)) rfl ?_
  refine lv_bipush (v := 21) C.1 C.2.1 (kj6_3 (204, .bipush 21, 2) (List.mem_of_getElem? (i := 18) rfl)) (by decide) ?_
  refine lv_bipush (v := 108) C.1 C.2.1 (kj6_3 (206, .bipush 108, 2) (List.mem_of_getElem? (i := 19) rfl)) (by decide) ?_
  refine ct_sto (i := 21) (x := 108) C I (by unfold vp_in; decide) (kj6_3 (208, .iastore, 1) (List.mem_of_getElem? (i := 20) rfl)) (fun H locs I => ?_)
  refine lv_dup C.1 C.2.1 (kj6_3 (209, .dup, 1) (List.mem_of_getElem? (i := 21) rfl)) rfl ?_
  refine lv_bipush (v := 22) C.1 C.2.1 (kj6_3 (210, .bipush 22, 2) (List.mem_of_getElem? (i := 22) rfl)) (by decide) ?_
  refine lv_bipush (v := 97) C.1 C.2.1 (kj6_3 (212, .bipush 97, 2) (List.mem_of_getElem? (i := 23) rfl)) (by decide) ?_
  refine ct_sto (i := 22) (x := 97) C I (by unfold vp_in; decide) (kj6_3 (214, .iastore, 1) (List.mem_of_getElem? (i := 24) rfl)) (fun H locs I => ?_)
  refine lv_dup C.1 C.2.1 (kj6_3 (215, .dup, 1) (List.mem_of_getElem? (i := 25) rfl)) rfl ?_
  refine lv_bipush (v := 23) C.1 C.2.1 (kj6_3 (216, .bipush 23, 2) (List.mem_of_getElem? (i := 26) rfl)) (by decide) ?_
  refine lv_bipush (v := 117) C.1 C.2.1 (kj6_3 (218, .bipush 117, 2) (List.mem_of_getElem? (i := 27) rfl)) (by decide) ?_
  refine ct_sto (i := 23) (x := 117) C I (by unfold vp_in; decide) (kj6_3 (220, .iastore, 1) (List.mem_of_getElem? (i := 28) rfl)) (fun H locs I => ?_)
  refine lv_dup C.1 C.2.1 (kj6_3 (221, .dup, 1) (List.mem_of_getElem? (i := 29) rfl)) rfl ?_
  refine lv_bipush (v := 24) C.1 C.2.1 (kj6_3 (222, .bipush 24, 2) (List.mem_of_getElem? (i := 30) rfl)) (by decide) ?_
  refine lv_bipush (v := 103) C.1 C.2.1 (kj6_3 (224, .bipush 103, 2) (List.mem_of_getElem? (i := 31) rfl)) (by decide) ?_
  refine ct_sto (i := 24) (x := 103) C I (by unfold vp_in; decide) (kj6_3 (226, .iastore, 1) (List.mem_of_getElem? (i := 32) rfl)) (fun H locs I => ?_)
  refine lv_dup C.1 C.2.1 (kj6_3 (227, .dup, 1) (List.mem_of_getElem? (i := 33) rfl)) rfl ?_
  refine lv_bipush (v := 25) C.1 C.2.1 (kj6_3 (228, .bipush 25, 2) (List.mem_of_getElem? (i := 34) rfl)) (by decide) ?_
  refine lv_bipush (v := 104) C.1 C.2.1 (kj6_3 (230, .bipush 104, 2) (List.mem_of_getElem? (i := 35) rfl)) (by decide) ?_
  refine ct_sto (i := 25) (x := 104) C I (by unfold vp_in; decide) (kj6_3 (232, .iastore, 1) (List.mem_of_getElem? (i := 36) rfl)) (fun H locs I => ?_)
  refine lv_dup C.1 C.2.1 (kj6_3 (233, .dup, 1) (List.mem_of_getElem? (i := 37) rfl)) rfl ?_
  refine lv_bipush (v := 26) C.1 C.2.1 (kj6_3 (234, .bipush 26, 2) (List.mem_of_getElem? (i := 38) rfl)) (by decide) ?_
  refine lv_bipush (v := 115) C.1 C.2.1 (kj6_3 (236, .bipush 115, 2) (List.mem_of_getElem? (i := 39) rfl)) (by decide) ?_
  refine ct_sto (i := 26) (x := 115) C I (by unfold vp_in; decide) (kj6_4 (238, .iastore, 1) (List.mem_of_getElem? (i := 0) rfl)) (fun H locs I => ?_)
  refine lv_dup C.1 C.2.1 (kj6_4 (239, .dup, 1) (List.mem_of_getElem? (i := 1) rfl)) rfl ?_
  refine lv_bipush (v := 27) C.1 C.2.1 (kj6_4 (240, .bipush 27, 2) (List.mem_of_getElem? (i := 2) rfl)) (by decide) ?_
  refine lv_bipush (v := 112) C.1 C.2.1 (kj6_4 (242, .bipush 112, 2) (List.mem_of_getElem? (i := 3) rfl)) (by decide) ?_
  refine ct_sto (i := 27) (x := 112) C I (by unfold vp_in; decide) (kj6_4 (244, .iastore, 1) (List.mem_of_getElem? (i := 4) rfl)) (fun H locs I => ?_)
  refine lv_dup C.1 C.2.1 (kj6_4 (245, .dup, 1) (List.mem_of_getElem? (i := 5) rfl)) rfl ?_
  refine lv_bipush (v := 28) C.1 C.2.1 (kj6_4 (246, .bipush 28, 2) (List.mem_of_getElem? (i := 6) rfl)) (by decide) ?_
  refine lv_bipush (v := 108) C.1 C.2.1 (kj6_4 (248, .bipush 108, 2) (List.mem_of_getElem? (i := 7) rfl)) (by decide) ?_
  refine ct_sto (i := 28) (x := 108) C I (by unfold vp_in; decide) (kj6_4 (250, .iastore, 1) (List.mem_of_getElem? (i := 8) rfl)) (fun H locs I => ?_)
  refine lv_dup C.1 C.2.1 (kj6_4 (251, .dup, 1) (List.mem_of_getElem? (i := 9) rfl)) rfl ?_
  refine lv_bipush (v := 29) C.1 C.2.1 (kj6_4 (252, .bipush 29, 2) (List.mem_of_getElem? (i := 10) rfl)) (by decide) ?_
  refine lv_bipush (v := 97) C.1 C.2.1 (kj6_4 (254, .bipush 97, 2) (List.mem_of_getElem? (i := 11) rfl)) (by decide) ?_
  refine ct_sto (i := 29) (x := 97) C I (by unfold vp_in; decide) (kj6_4 (256, .iastore, 1) (List.mem_of_getElem? (i := 12) rfl)) (fun H locs I => ?_)
  refine lv_dup C.1 C.2.1 (kj6_4 (257, .dup, 1) (List.mem_of_getElem? (i := 13) rfl)) rfl ?_
  refine lv_bipush (v := 30) C.1 C.2.1 (kj6_4 (258, .bipush 30, 2) (List.mem_of_getElem? (i := 14) rfl)) (by decide) ?_
  refine lv_bipush (v := 110) C.1 C.2.1 (kj6_4 (260, .bipush 110, 2) (List.mem_of_getElem? (i := 15) rfl)) (by decide) ?_
  refine ct_sto (i := 30) (x := 110) C I (by unfold vp_in; decide) (kj6_4 (262, .iastore, 1) (List.mem_of_getElem? (i := 16) rfl)) (fun H locs I => ?_)
  have I := ct_J.close (pat := [(1, 0, 112, 112), (1, 0, 108, 108), (1, 0, 97, 97), (1, 0, 105, 105), (1, 0, 110, 110), (1, 0, 115, 115), (1, 0, 110, 110), (1, 0, 97, 97), (1, 0, 107, 107), (1, 0, 101, 101), (1, 0, 115, 115), (1, 0, 101, 101), (1, 0, 97, 97), (1, 0, 97, 97), (1, 0, 103, 103), (1, 0, 101, 101), (1, 0, 103, 103), (1, 0, 117, 117), (1, 0, 101, 101), (1, 0, 115, 115), (1, 0, 116, 116), (1, 0, 108, 108), (1, 0, 97, 97), (1, 0, 117, 117), (1, 0, 103, 103), (1, 0, 104, 104), (1, 0, 115, 115), (1, 0, 112, 112), (1, 0, 108, 108), (1, 0, 97, 97), (1, 0, 110, 110)]) I (fun i g hi hg => by
    match i, hi with
    | 0, _ => cases hg; exact ⟨by decide, by decide⟩
    | 1, _ => cases hg; exact ⟨by decide, by decide⟩
    | 2, _ => cases hg; exact ⟨by decide, by decide⟩
    | 3, _ => cases hg; exact ⟨by decide, by decide⟩
    | 4, _ => cases hg; exact ⟨by decide, by decide⟩
    | 5, _ => cases hg; exact ⟨by decide, by decide⟩
    | 6, _ => cases hg; exact ⟨by decide, by decide⟩
    | 7, _ => cases hg; exact ⟨by decide, by decide⟩
    | 8, _ => cases hg; exact ⟨by decide, by decide⟩
    | 9, _ => cases hg; exact ⟨by decide, by decide⟩
    | 10, _ => cases hg; exact ⟨by decide, by decide⟩
    | 11, _ => cases hg; exact ⟨by decide, by decide⟩
    | 12, _ => cases hg; exact ⟨by decide, by decide⟩
    | 13, _ => cases hg; exact ⟨by decide, by decide⟩
    | 14, _ => cases hg; exact ⟨by decide, by decide⟩
    | 15, _ => cases hg; exact ⟨by decide, by decide⟩
    | 16, _ => cases hg; exact ⟨by decide, by decide⟩
    | 17, _ => cases hg; exact ⟨by decide, by decide⟩
    | 18, _ => cases hg; exact ⟨by decide, by decide⟩
    | 19, _ => cases hg; exact ⟨by decide, by decide⟩
    | 20, _ => cases hg; exact ⟨by decide, by decide⟩
    | 21, _ => cases hg; exact ⟨by decide, by decide⟩
    | 22, _ => cases hg; exact ⟨by decide, by decide⟩
    | 23, _ => cases hg; exact ⟨by decide, by decide⟩
    | 24, _ => cases hg; exact ⟨by decide, by decide⟩
    | 25, _ => cases hg; exact ⟨by decide, by decide⟩
    | 26, _ => cases hg; exact ⟨by decide, by decide⟩
    | 27, _ => cases hg; exact ⟨by decide, by decide⟩
    | 28, _ => cases hg; exact ⟨by decide, by decide⟩
    | 29, _ => cases hg; exact ⟨by decide, by decide⟩
    | 30, _ => cases hg; exact ⟨by decide, by decide⟩
    | i + 31, hi => exact absurd hi (by omega))
  have I : ct_I D A s q0 6 [.ref q1, .int 0, .ref q2, .int 0, .int 0, .int 0, .ref q3, .int 0, .int 0, .int 0, .int 0, .int 0, .int 0, .int 0, .int 0, .ref q4, .null, .int 0, .null, .int 0, .null, .null, .null, .null, .int 0] [(1, 162, [(1, 0, 0, 0)]), (1, 27, [(1, 0, 0, 0)]), (1, 160, [(1, 0, 0, 0)]), (1, 8, [(1, 0, 0, 0), (1, 0, 5, 5), (1, 0, 10, 10), (1, 0, 13, 13), (1, 0, 16, 16), (1, 0, 21, 21), (1, 0, 27, 27), (1, 0, 31, 31)]), (1, 31, [(1, 0, 112, 112), (1, 0, 108, 108), (1, 0, 97, 97), (1, 0, 105, 105), (1, 0, 110, 110), (1, 0, 115, 115), (1, 0, 110, 110), (1, 0, 97, 97), (1, 0, 107, 107), (1, 0, 101, 101), (1, 0, 115, 115), (1, 0, 101, 101), (1, 0, 97, 97), (1, 0, 97, 97), (1, 0, 103, 103), (1, 0, 101, 101), (1, 0, 103, 103), (1, 0, 117, 117), (1, 0, 101, 101), (1, 0, 115, 115), (1, 0, 116, 116), (1, 0, 108, 108), (1, 0, 97, 97), (1, 0, 117, 117), (1, 0, 103, 103), (1, 0, 104, 104), (1, 0, 115, 115), (1, 0, 112, 112), (1, 0, 108, 108), (1, 0, 97, 97), (1, 0, 110, 110)])] [(1, q1), (2, q2), (3, q3), (4, q4), (5, q5)] H locs := I
  refine ct_putF C I (r := (RX6, TX6, 25)) rfl (j := 16) (by decide) (tv_mem (by decide +kernel)) rfl rfl (ty := (.array .int)) (v := .ref q5) (by decide +kernel) rfl rfl (Nat.le_of_ble_eq_true rfl) (kj6_4 (263, .putfield 22, 3) (List.mem_of_getElem? (i := 17) rfl)) (fun H locs I => ?_)
  have I : ct_I D A s q0 6 [.ref q1, .int 0, .ref q2, .int 0, .int 0, .int 0, .ref q3, .int 0, .int 0, .int 0, .int 0, .int 0, .int 0, .int 0, .int 0, .ref q4, .ref q5, .int 0, .null, .int 0, .null, .null, .null, .null, .int 0] [(1, 162, [(1, 0, 0, 0)]), (1, 27, [(1, 0, 0, 0)]), (1, 160, [(1, 0, 0, 0)]), (1, 8, [(1, 0, 0, 0), (1, 0, 5, 5), (1, 0, 10, 10), (1, 0, 13, 13), (1, 0, 16, 16), (1, 0, 21, 21), (1, 0, 27, 27), (1, 0, 31, 31)]), (1, 31, [(1, 0, 112, 112), (1, 0, 108, 108), (1, 0, 97, 97), (1, 0, 105, 105), (1, 0, 110, 110), (1, 0, 115, 115), (1, 0, 110, 110), (1, 0, 97, 97), (1, 0, 107, 107), (1, 0, 101, 101), (1, 0, 115, 115), (1, 0, 101, 101), (1, 0, 97, 97), (1, 0, 97, 97), (1, 0, 103, 103), (1, 0, 101, 101), (1, 0, 103, 103), (1, 0, 117, 117), (1, 0, 101, 101), (1, 0, 115, 115), (1, 0, 116, 116), (1, 0, 108, 108), (1, 0, 97, 97), (1, 0, 117, 117), (1, 0, 103, 103), (1, 0, 104, 104), (1, 0, 115, 115), (1, 0, 112, 112), (1, 0, 108, 108), (1, 0, 97, 97), (1, 0, 110, 110)])] [(1, q1), (2, q2), (3, q3), (4, q4), (5, q5)] H locs := I
  refine lv_aload_n C.1 C.2.1 (kj6_4 (266, .aload_n 0, 1) (List.mem_of_getElem? (i := 18) rfl)) rfl (lv_at hl 0 rfl) ?_
  refine lv_bipush (v := 24) C.1 C.2.1 (kj6_4 (267, .bipush 24, 2) (List.mem_of_getElem? (i := 19) rfl)) (by decide) ?_
  refine ct_arr (at_ := .int) (N := 24) (ty := .int) (a0 := (24, .inl (fun _ => 0))) (t := (1, 24, [(1, 0, 0, 0)])) C I ka_int rfl (fun _ => rfl) (by decide) (by decide) (by decide) (Nat.le_of_ble_eq_true (rfl : Nat.ble 6 _ = true)) (Nat.le_of_ble_eq_true (rfl : Nat.ble 412 _ = true)) (ct_z1 (by decide)) (kj6_4 (269, .newarray .int, 2) (List.mem_of_getElem? (i := 20) rfl)) (fun q6 H I => ?_)
  have I : ct_I D A s q0 6 [.ref q1, .int 0, .ref q2, .int 0, .int 0, .int 0, .ref q3, .int 0, .int 0, .int 0, .int 0, .int 0, .int 0, .int 0, .int 0, .ref q4, .ref q5, .int 0, .null, .int 0, .null, .null, .null, .null, .int 0] [(1, 162, [(1, 0, 0, 0)]), (1, 27, [(1, 0, 0, 0)]), (1, 160, [(1, 0, 0, 0)]), (1, 8, [(1, 0, 0, 0), (1, 0, 5, 5), (1, 0, 10, 10), (1, 0, 13, 13), (1, 0, 16, 16), (1, 0, 21, 21), (1, 0, 27, 27), (1, 0, 31, 31)]), (1, 31, [(1, 0, 112, 112), (1, 0, 108, 108), (1, 0, 97, 97), (1, 0, 105, 105), (1, 0, 110, 110), (1, 0, 115, 115), (1, 0, 110, 110), (1, 0, 97, 97), (1, 0, 107, 107), (1, 0, 101, 101), (1, 0, 115, 115), (1, 0, 101, 101), (1, 0, 97, 97), (1, 0, 97, 97), (1, 0, 103, 103), (1, 0, 101, 101), (1, 0, 103, 103), (1, 0, 117, 117), (1, 0, 101, 101), (1, 0, 115, 115), (1, 0, 116, 116), (1, 0, 108, 108), (1, 0, 97, 97), (1, 0, 117, 117), (1, 0, 103, 103), (1, 0, 104, 104), (1, 0, 115, 115), (1, 0, 112, 112), (1, 0, 108, 108), (1, 0, 97, 97), (1, 0, 110, 110)]), (1, 24, [(1, 0, 0, 0)])] [(1, q1), (2, q2), (3, q3), (4, q4), (5, q5), (6, q6)] H locs := I
  refine W.widen (k := 6) (n := 412) (by decide) (by decide) ?_
  refine ct_putF C I (r := (RX6, TX6, 25)) rfl (j := 18) (by decide) (tv_mem (by decide +kernel)) rfl rfl (ty := (.array .int)) (v := .ref q6) (by decide +kernel) rfl rfl (Nat.le_of_ble_eq_true rfl) (kj6_4 (271, .putfield 25, 3) (List.mem_of_getElem? (i := 21) rfl)) (fun H locs I => ?_)
  have I : ct_I D A s q0 6 [.ref q1, .int 0, .ref q2, .int 0, .int 0, .int 0, .ref q3, .int 0, .int 0, .int 0, .int 0, .int 0, .int 0, .int 0, .int 0, .ref q4, .ref q5, .int 0, .ref q6, .int 0, .null, .null, .null, .null, .int 0] [(1, 162, [(1, 0, 0, 0)]), (1, 27, [(1, 0, 0, 0)]), (1, 160, [(1, 0, 0, 0)]), (1, 8, [(1, 0, 0, 0), (1, 0, 5, 5), (1, 0, 10, 10), (1, 0, 13, 13), (1, 0, 16, 16), (1, 0, 21, 21), (1, 0, 27, 27), (1, 0, 31, 31)]), (1, 31, [(1, 0, 112, 112), (1, 0, 108, 108), (1, 0, 97, 97), (1, 0, 105, 105), (1, 0, 110, 110), (1, 0, 115, 115), (1, 0, 110, 110), (1, 0, 97, 97), (1, 0, 107, 107), (1, 0, 101, 101), (1, 0, 115, 115), (1, 0, 101, 101), (1, 0, 97, 97), (1, 0, 97, 97), (1, 0, 103, 103), (1, 0, 101, 101), (1, 0, 103, 103), (1, 0, 117, 117), (1, 0, 101, 101), (1, 0, 115, 115), (1, 0, 116, 116), (1, 0, 108, 108), (1, 0, 97, 97), (1, 0, 117, 117), (1, 0, 103, 103), (1, 0, 104, 104), (1, 0, 115, 115), (1, 0, 112, 112), (1, 0, 108, 108), (1, 0, 97, 97), (1, 0, 110, 110)]), (1, 24, [(1, 0, 0, 0)])] [(1, q1), (2, q2), (3, q3), (4, q4), (5, q5), (6, q6)] H locs := I
  refine lv_aload_n C.1 C.2.1 (kj6_4 (274, .aload_n 0, 1) (List.mem_of_getElem? (i := 22) rfl)) rfl (lv_at hl 0 rfl) ?_
  refine lv_iconst (v := 2) C.1 C.2.1 (kj6_4 (275, .iconst 2, 1) (List.mem_of_getElem? (i := 23) rfl)) (by decide) ?_
  refine ct_arr (at_ := .boolean) (N := 2) (ty := .boolean) (a0 := (2, .inl (fun _ => 0))) (t := (2, 2, [(1, 0, 0, 0)])) C I ka_boolean rfl (fun _ => rfl) (by decide) (by decide) (by decide) (Nat.le_of_ble_eq_true (rfl : Nat.ble 7 _ = true)) (Nat.le_of_ble_eq_true (rfl : Nat.ble 414 _ = true)) (ct_z2 (by decide)) (kj6_4 (276, .newarray .boolean, 2) (List.mem_of_getElem? (i := 24) rfl)) (fun q7 H I => ?_)
  have I : ct_I D A s q0 6 [.ref q1, .int 0, .ref q2, .int 0, .int 0, .int 0, .ref q3, .int 0, .int 0, .int 0, .int 0, .int 0, .int 0, .int 0, .int 0, .ref q4, .ref q5, .int 0, .ref q6, .int 0, .null, .null, .null, .null, .int 0] [(1, 162, [(1, 0, 0, 0)]), (1, 27, [(1, 0, 0, 0)]), (1, 160, [(1, 0, 0, 0)]), (1, 8, [(1, 0, 0, 0), (1, 0, 5, 5), (1, 0, 10, 10), (1, 0, 13, 13), (1, 0, 16, 16), (1, 0, 21, 21), (1, 0, 27, 27), (1, 0, 31, 31)]), (1, 31, [(1, 0, 112, 112), (1, 0, 108, 108), (1, 0, 97, 97), (1, 0, 105, 105), (1, 0, 110, 110), (1, 0, 115, 115), (1, 0, 110, 110), (1, 0, 97, 97), (1, 0, 107, 107), (1, 0, 101, 101), (1, 0, 115, 115), (1, 0, 101, 101), (1, 0, 97, 97), (1, 0, 97, 97), (1, 0, 103, 103), (1, 0, 101, 101), (1, 0, 103, 103), (1, 0, 117, 117), (1, 0, 101, 101), (1, 0, 115, 115), (1, 0, 116, 116), (1, 0, 108, 108), (1, 0, 97, 97), (1, 0, 117, 117), (1, 0, 103, 103), (1, 0, 104, 104), (1, 0, 115, 115), (1, 0, 112, 112), (1, 0, 108, 108), (1, 0, 97, 97), (1, 0, 110, 110)]), (1, 24, [(1, 0, 0, 0)]), (2, 2, [(1, 0, 0, 0)])] [(1, q1), (2, q2), (3, q3), (4, q4), (5, q5), (6, q6), (7, q7)] H locs := I
  refine W.widen (k := 7) (n := 414) (by decide) (by decide) ?_
  refine ct_putF C I (r := (RX6, TX6, 25)) rfl (j := 20) (by decide) (tv_mem (by decide +kernel)) rfl rfl (ty := (.array .boolean)) (v := .ref q7) (by decide +kernel) rfl rfl (Nat.le_of_ble_eq_true rfl) (kj6_4 (278, .putfield 28, 3) (List.mem_of_getElem? (i := 25) rfl)) (fun H locs I => ?_)
  have I : ct_I D A s q0 6 [.ref q1, .int 0, .ref q2, .int 0, .int 0, .int 0, .ref q3, .int 0, .int 0, .int 0, .int 0, .int 0, .int 0, .int 0, .int 0, .ref q4, .ref q5, .int 0, .ref q6, .int 0, .ref q7, .null, .null, .null, .int 0] [(1, 162, [(1, 0, 0, 0)]), (1, 27, [(1, 0, 0, 0)]), (1, 160, [(1, 0, 0, 0)]), (1, 8, [(1, 0, 0, 0), (1, 0, 5, 5), (1, 0, 10, 10), (1, 0, 13, 13), (1, 0, 16, 16), (1, 0, 21, 21), (1, 0, 27, 27), (1, 0, 31, 31)]), (1, 31, [(1, 0, 112, 112), (1, 0, 108, 108), (1, 0, 97, 97), (1, 0, 105, 105), (1, 0, 110, 110), (1, 0, 115, 115), (1, 0, 110, 110), (1, 0, 97, 97), (1, 0, 107, 107), (1, 0, 101, 101), (1, 0, 115, 115), (1, 0, 101, 101), (1, 0, 97, 97), (1, 0, 97, 97), (1, 0, 103, 103), (1, 0, 101, 101), (1, 0, 103, 103), (1, 0, 117, 117), (1, 0, 101, 101), (1, 0, 115, 115), (1, 0, 116, 116), (1, 0, 108, 108), (1, 0, 97, 97), (1, 0, 117, 117), (1, 0, 103, 103), (1, 0, 104, 104), (1, 0, 115, 115), (1, 0, 112, 112), (1, 0, 108, 108), (1, 0, 97, 97), (1, 0, 110, 110)]), (1, 24, [(1, 0, 0, 0)]), (2, 2, [(1, 0, 0, 0)])] [(1, q1), (2, q2), (3, q3), (4, q4), (5, q5), (6, q6), (7, q7)] H locs := I
  refine lv_aload_n C.1 C.2.1 (kj6_4 (281, .aload_n 0, 1) (List.mem_of_getElem? (i := 26) rfl)) rfl (lv_at hl 0 rfl) ?_
  refine lv_iconst (v := 4) C.1 C.2.1 (kj6_4 (282, .iconst 4, 1) (List.mem_of_getElem? (i := 27) rfl)) (by decide) ?_
  refine ct_arrJ (N := 4) C I ka_int (by decide) (by decide) (by decide) (Nat.le_of_ble_eq_true (rfl : Nat.ble 8 _ = true)) (Nat.le_of_ble_eq_true (rfl : Nat.ble 418 _ = true)) (kj6_4 (283, .newarray .int, 2) (List.mem_of_getElem? (i := 28) rfl)) (fun q8 H I => ?_)
  refine W.widen (k := 8) (n := 418) (by decide) (by decide) ?_
  refine lv_dup C.1 C.2.1 (kj6_4 (285, .dup, 1) (List.mem_of_getElem? (i := 29) rfl)) rfl ?_
  refine lv_iconst (v := 0) C.1 C.2.1 (kj6_4 (286, .iconst 0, 1) (List.mem_of_getElem? (i := 30) rfl)) (by decide) ?_
  refine lv_bipush (v := (-4)) C.1 C.2.1 (kj6_4 (287, .bipush (-4), 2) (List.mem_of_getElem? (i := 31) rfl)) (by decide) ?_
  refine ct_sto (i := 0) (x := (-4)) C I (by unfold vp_in; decide) (kj6_4 (289, .iastore, 1) (List.mem_of_getElem? (i := 32) rfl)) (fun H locs I => ?_)
  refine lv_dup C.1 C.2.1 (kj6_4 (290, .dup, 1) (List.mem_of_getElem? (i := 33) rfl)) rfl ?_
  refine lv_iconst (v := 1) C.1 C.2.1 (kj6_4 (291, .iconst 1, 1) (List.mem_of_getElem? (i := 34) rfl)) (by decide) ?_
  refine lv_bipush (v := (-4)) C.1 C.2.1 (kj6_4 (292, .bipush (-4), 2) (List.mem_of_getElem? (i := 35) rfl)) (by decide) ?_
  refine ct_sto (i := 1) (x := (-4)) C I (by unfold vp_in; decide) (kj6_4 (294, .iastore, 1) (List.mem_of_getElem? (i := 36) rfl)) (fun H locs I => ?_)
  refine lv_dup C.1 C.2.1 (kj6_4 (295, .dup, 1) (List.mem_of_getElem? (i := 37) rfl)) rfl ?_
  refine lv_iconst (v := 2) C.1 C.2.1 (kj6_4 (296, .iconst 2, 1) (List.mem_of_getElem? (i := 38) rfl)) (by decide) ?_
  refine lv_bipush (v := (-4)) C.1 C.2.1 (kj6_4 (297, .bipush (-4), 2) (List.mem_of_getElem? (i := 39) rfl)) (by decide) ?_
  refine ct_sto (i := 2) (x := (-4)) C I (by unfold vp_in; decide) (kj6_5 (299, .iastore, 1) (List.mem_of_getElem? (i := 0) rfl)) (fun H locs I => ?_)
  refine lv_dup C.1 C.2.1 (kj6_5 (300, .dup, 1) (List.mem_of_getElem? (i := 1) rfl)) rfl ?_
  refine lv_iconst (v := 3) C.1 C.2.1 (kj6_5 (301, .iconst 3, 1) (List.mem_of_getElem? (i := 2) rfl)) (by decide) ?_
  refine lv_bipush (v := (-4)) C.1 C.2.1 (kj6_5 (302, .bipush (-4), 2) (List.mem_of_getElem? (i := 3) rfl)) (by decide) ?_
  refine ct_sto (i := 3) (x := (-4)) C I (by unfold vp_in; decide) (kj6_5 (304, .iastore, 1) (List.mem_of_getElem? (i := 4) rfl)) (fun H locs I => ?_)
  have I := ct_J.close (pat := [(1, 0, (-4), (-4)), (1, 0, (-4), (-4)), (1, 0, (-4), (-4)), (1, 0, (-4), (-4))]) I (fun i g hi hg => by
    match i, hi with
    | 0, _ => cases hg; exact ⟨by decide, by decide⟩
    | 1, _ => cases hg; exact ⟨by decide, by decide⟩
    | 2, _ => cases hg; exact ⟨by decide, by decide⟩
    | 3, _ => cases hg; exact ⟨by decide, by decide⟩
    | i + 4, hi => exact absurd hi (by omega))
  have I : ct_I D A s q0 6 [.ref q1, .int 0, .ref q2, .int 0, .int 0, .int 0, .ref q3, .int 0, .int 0, .int 0, .int 0, .int 0, .int 0, .int 0, .int 0, .ref q4, .ref q5, .int 0, .ref q6, .int 0, .ref q7, .null, .null, .null, .int 0] [(1, 162, [(1, 0, 0, 0)]), (1, 27, [(1, 0, 0, 0)]), (1, 160, [(1, 0, 0, 0)]), (1, 8, [(1, 0, 0, 0), (1, 0, 5, 5), (1, 0, 10, 10), (1, 0, 13, 13), (1, 0, 16, 16), (1, 0, 21, 21), (1, 0, 27, 27), (1, 0, 31, 31)]), (1, 31, [(1, 0, 112, 112), (1, 0, 108, 108), (1, 0, 97, 97), (1, 0, 105, 105), (1, 0, 110, 110), (1, 0, 115, 115), (1, 0, 110, 110), (1, 0, 97, 97), (1, 0, 107, 107), (1, 0, 101, 101), (1, 0, 115, 115), (1, 0, 101, 101), (1, 0, 97, 97), (1, 0, 97, 97), (1, 0, 103, 103), (1, 0, 101, 101), (1, 0, 103, 103), (1, 0, 117, 117), (1, 0, 101, 101), (1, 0, 115, 115), (1, 0, 116, 116), (1, 0, 108, 108), (1, 0, 97, 97), (1, 0, 117, 117), (1, 0, 103, 103), (1, 0, 104, 104), (1, 0, 115, 115), (1, 0, 112, 112), (1, 0, 108, 108), (1, 0, 97, 97), (1, 0, 110, 110)]), (1, 24, [(1, 0, 0, 0)]), (2, 2, [(1, 0, 0, 0)]), (1, 4, [(1, 0, (-4), (-4)), (1, 0, (-4), (-4)), (1, 0, (-4), (-4)), (1, 0, (-4), (-4))])] [(1, q1), (2, q2), (3, q3), (4, q4), (5, q5), (6, q6), (7, q7), (8, q8)] H locs := I
  refine ct_putF C I (r := (RX6, TX6, 25)) rfl (j := 21) (by decide) (tv_mem (by decide +kernel)) rfl rfl (ty := (.array .int)) (v := .ref q8) (by decide +kernel) rfl rfl (Nat.le_of_ble_eq_true rfl) (kj6_5 (305, .putfield 32, 3) (List.mem_of_getElem? (i := 5) rfl)) (fun H locs I => ?_)
  have I : ct_I D A s q0 6 [.ref q1, .int 0, .ref q2, .int 0, .int 0, .int 0, .ref q3, .int 0, .int 0, .int 0, .int 0, .int 0, .int 0, .int 0, .int 0, .ref q4, .ref q5, .int 0, .ref q6, .int 0, .ref q7, .ref q8, .null, .null, .int 0] [(1, 162, [(1, 0, 0, 0)]), (1, 27, [(1, 0, 0, 0)]), (1, 160, [(1, 0, 0, 0)]), (1, 8, [(1, 0, 0, 0), (1, 0, 5, 5), (1, 0, 10, 10), (1, 0, 13, 13), (1, 0, 16, 16), (1, 0, 21, 21), (1, 0, 27, 27), (1, 0, 31, 31)]), (1, 31, [(1, 0, 112, 112), (1, 0, 108, 108), (1, 0, 97, 97), (1, 0, 105, 105), (1, 0, 110, 110), (1, 0, 115, 115), (1, 0, 110, 110), (1, 0, 97, 97), (1, 0, 107, 107), (1, 0, 101, 101), (1, 0, 115, 115), (1, 0, 101, 101), (1, 0, 97, 97), (1, 0, 97, 97), (1, 0, 103, 103), (1, 0, 101, 101), (1, 0, 103, 103), (1, 0, 117, 117), (1, 0, 101, 101), (1, 0, 115, 115), (1, 0, 116, 116), (1, 0, 108, 108), (1, 0, 97, 97), (1, 0, 117, 117), (1, 0, 103, 103), (1, 0, 104, 104), (1, 0, 115, 115), (1, 0, 112, 112), (1, 0, 108, 108), (1, 0, 97, 97), (1, 0, 110, 110)]), (1, 24, [(1, 0, 0, 0)]), (2, 2, [(1, 0, 0, 0)]), (1, 4, [(1, 0, (-4), (-4)), (1, 0, (-4), (-4)), (1, 0, (-4), (-4)), (1, 0, (-4), (-4))])] [(1, q1), (2, q2), (3, q3), (4, q4), (5, q5), (6, q6), (7, q7), (8, q8)] H locs := I
  refine lv_aload_n C.1 C.2.1 (kj6_5 (308, .aload_n 0, 1) (List.mem_of_getElem? (i := 6) rfl)) rfl (lv_at hl 0 rfl) ?_
  refine lv_iconst (v := 4) C.1 C.2.1 (kj6_5 (309, .iconst 4, 1) (List.mem_of_getElem? (i := 7) rfl)) (by decide) ?_
  refine ct_arr (at_ := .int) (N := 4) (ty := .int) (a0 := (4, .inl (fun _ => 0))) (t := (1, 4, [(1, 0, 0, 0)])) C I ka_int rfl (fun _ => rfl) (by decide) (by decide) (by decide) (Nat.le_of_ble_eq_true (rfl : Nat.ble 9 _ = true)) (Nat.le_of_ble_eq_true (rfl : Nat.ble 422 _ = true)) (ct_z1 (by decide)) (kj6_5 (310, .newarray .int, 2) (List.mem_of_getElem? (i := 8) rfl)) (fun q9 H I => ?_)
  have I : ct_I D A s q0 6 [.ref q1, .int 0, .ref q2, .int 0, .int 0, .int 0, .ref q3, .int 0, .int 0, .int 0, .int 0, .int 0, .int 0, .int 0, .int 0, .ref q4, .ref q5, .int 0, .ref q6, .int 0, .ref q7, .ref q8, .null, .null, .int 0] [(1, 162, [(1, 0, 0, 0)]), (1, 27, [(1, 0, 0, 0)]), (1, 160, [(1, 0, 0, 0)]), (1, 8, [(1, 0, 0, 0), (1, 0, 5, 5), (1, 0, 10, 10), (1, 0, 13, 13), (1, 0, 16, 16), (1, 0, 21, 21), (1, 0, 27, 27), (1, 0, 31, 31)]), (1, 31, [(1, 0, 112, 112), (1, 0, 108, 108), (1, 0, 97, 97), (1, 0, 105, 105), (1, 0, 110, 110), (1, 0, 115, 115), (1, 0, 110, 110), (1, 0, 97, 97), (1, 0, 107, 107), (1, 0, 101, 101), (1, 0, 115, 115), (1, 0, 101, 101), (1, 0, 97, 97), (1, 0, 97, 97), (1, 0, 103, 103), (1, 0, 101, 101), (1, 0, 103, 103), (1, 0, 117, 117), (1, 0, 101, 101), (1, 0, 115, 115), (1, 0, 116, 116), (1, 0, 108, 108), (1, 0, 97, 97), (1, 0, 117, 117), (1, 0, 103, 103), (1, 0, 104, 104), (1, 0, 115, 115), (1, 0, 112, 112), (1, 0, 108, 108), (1, 0, 97, 97), (1, 0, 110, 110)]), (1, 24, [(1, 0, 0, 0)]), (2, 2, [(1, 0, 0, 0)]), (1, 4, [(1, 0, (-4), (-4)), (1, 0, (-4), (-4)), (1, 0, (-4), (-4)), (1, 0, (-4), (-4))]), (1, 4, [(1, 0, 0, 0)])] [(1, q1), (2, q2), (3, q3), (4, q4), (5, q5), (6, q6), (7, q7), (8, q8), (9, q9)] H locs := I
  refine W.widen (k := 9) (n := 422) (by decide) (by decide) ?_
  refine ct_putF C I (r := (RX6, TX6, 25)) rfl (j := 22) (by decide) (tv_mem (by decide +kernel)) rfl rfl (ty := (.array .int)) (v := .ref q9) (by decide +kernel) rfl rfl (Nat.le_of_ble_eq_true rfl) (kj6_5 (312, .putfield 35, 3) (List.mem_of_getElem? (i := 9) rfl)) (fun H locs I => ?_)
  have I : ct_I D A s q0 6 [.ref q1, .int 0, .ref q2, .int 0, .int 0, .int 0, .ref q3, .int 0, .int 0, .int 0, .int 0, .int 0, .int 0, .int 0, .int 0, .ref q4, .ref q5, .int 0, .ref q6, .int 0, .ref q7, .ref q8, .ref q9, .null, .int 0] [(1, 162, [(1, 0, 0, 0)]), (1, 27, [(1, 0, 0, 0)]), (1, 160, [(1, 0, 0, 0)]), (1, 8, [(1, 0, 0, 0), (1, 0, 5, 5), (1, 0, 10, 10), (1, 0, 13, 13), (1, 0, 16, 16), (1, 0, 21, 21), (1, 0, 27, 27), (1, 0, 31, 31)]), (1, 31, [(1, 0, 112, 112), (1, 0, 108, 108), (1, 0, 97, 97), (1, 0, 105, 105), (1, 0, 110, 110), (1, 0, 115, 115), (1, 0, 110, 110), (1, 0, 97, 97), (1, 0, 107, 107), (1, 0, 101, 101), (1, 0, 115, 115), (1, 0, 101, 101), (1, 0, 97, 97), (1, 0, 97, 97), (1, 0, 103, 103), (1, 0, 101, 101), (1, 0, 103, 103), (1, 0, 117, 117), (1, 0, 101, 101), (1, 0, 115, 115), (1, 0, 116, 116), (1, 0, 108, 108), (1, 0, 97, 97), (1, 0, 117, 117), (1, 0, 103, 103), (1, 0, 104, 104), (1, 0, 115, 115), (1, 0, 112, 112), (1, 0, 108, 108), (1, 0, 97, 97), (1, 0, 110, 110)]), (1, 24, [(1, 0, 0, 0)]), (2, 2, [(1, 0, 0, 0)]), (1, 4, [(1, 0, (-4), (-4)), (1, 0, (-4), (-4)), (1, 0, (-4), (-4)), (1, 0, (-4), (-4))]), (1, 4, [(1, 0, 0, 0)])] [(1, q1), (2, q2), (3, q3), (4, q4), (5, q5), (6, q6), (7, q7), (8, q8), (9, q9)] H locs := I
  refine lv_aload_n C.1 C.2.1 (kj6_5 (315, .aload_n 0, 1) (List.mem_of_getElem? (i := 10) rfl)) rfl (lv_at hl 0 rfl) ?_
  refine lv_sipush (v := 160) C.1 C.2.1 (kj6_5 (316, .sipush 160, 3) (List.mem_of_getElem? (i := 11) rfl)) (by decide) ?_
  refine ct_arr (at_ := .int) (N := 160) (ty := .int) (a0 := (160, .inl (fun _ => 0))) (t := (1, 160, [(1, 0, 0, 0)])) C I ka_int rfl (fun _ => rfl) (by decide) (by decide) (by decide) (Nat.le_of_ble_eq_true (rfl : Nat.ble 10 _ = true)) (Nat.le_of_ble_eq_true (rfl : Nat.ble 582 _ = true)) (ct_z1 (by decide)) (kj6_5 (319, .newarray .int, 2) (List.mem_of_getElem? (i := 12) rfl)) (fun q10 H I => ?_)
  have I : ct_I D A s q0 6 [.ref q1, .int 0, .ref q2, .int 0, .int 0, .int 0, .ref q3, .int 0, .int 0, .int 0, .int 0, .int 0, .int 0, .int 0, .int 0, .ref q4, .ref q5, .int 0, .ref q6, .int 0, .ref q7, .ref q8, .ref q9, .null, .int 0] [(1, 162, [(1, 0, 0, 0)]), (1, 27, [(1, 0, 0, 0)]), (1, 160, [(1, 0, 0, 0)]), (1, 8, [(1, 0, 0, 0), (1, 0, 5, 5), (1, 0, 10, 10), (1, 0, 13, 13), (1, 0, 16, 16), (1, 0, 21, 21), (1, 0, 27, 27), (1, 0, 31, 31)]), (1, 31, [(1, 0, 112, 112), (1, 0, 108, 108), (1, 0, 97, 97), (1, 0, 105, 105), (1, 0, 110, 110), (1, 0, 115, 115), (1, 0, 110, 110), (1, 0, 97, 97), (1, 0, 107, 107), (1, 0, 101, 101), (1, 0, 115, 115), (1, 0, 101, 101), (1, 0, 97, 97), (1, 0, 97, 97), (1, 0, 103, 103), (1, 0, 101, 101), (1, 0, 103, 103), (1, 0, 117, 117), (1, 0, 101, 101), (1, 0, 115, 115), (1, 0, 116, 116), (1, 0, 108, 108), (1, 0, 97, 97), (1, 0, 117, 117), (1, 0, 103, 103), (1, 0, 104, 104), (1, 0, 115, 115), (1, 0, 112, 112), (1, 0, 108, 108), (1, 0, 97, 97), (1, 0, 110, 110)]), (1, 24, [(1, 0, 0, 0)]), (2, 2, [(1, 0, 0, 0)]), (1, 4, [(1, 0, (-4), (-4)), (1, 0, (-4), (-4)), (1, 0, (-4), (-4)), (1, 0, (-4), (-4))]), (1, 4, [(1, 0, 0, 0)]), (1, 160, [(1, 0, 0, 0)])] [(1, q1), (2, q2), (3, q3), (4, q4), (5, q5), (6, q6), (7, q7), (8, q8), (9, q9), (10, q10)] H locs := I
  refine W.widen (k := 10) (n := 582) (by decide) (by decide) ?_
  refine ct_putF C I (r := (RX6, TX6, 25)) rfl (j := 23) (by decide) (tv_mem (by decide +kernel)) rfl rfl (ty := (.array .int)) (v := .ref q10) (by decide +kernel) rfl rfl (Nat.le_of_ble_eq_true rfl) (kj6_5 (321, .putfield 38, 3) (List.mem_of_getElem? (i := 13) rfl)) (fun H locs I => ?_)
  have I : ct_I D A s q0 6 [.ref q1, .int 0, .ref q2, .int 0, .int 0, .int 0, .ref q3, .int 0, .int 0, .int 0, .int 0, .int 0, .int 0, .int 0, .int 0, .ref q4, .ref q5, .int 0, .ref q6, .int 0, .ref q7, .ref q8, .ref q9, .ref q10, .int 0] [(1, 162, [(1, 0, 0, 0)]), (1, 27, [(1, 0, 0, 0)]), (1, 160, [(1, 0, 0, 0)]), (1, 8, [(1, 0, 0, 0), (1, 0, 5, 5), (1, 0, 10, 10), (1, 0, 13, 13), (1, 0, 16, 16), (1, 0, 21, 21), (1, 0, 27, 27), (1, 0, 31, 31)]), (1, 31, [(1, 0, 112, 112), (1, 0, 108, 108), (1, 0, 97, 97), (1, 0, 105, 105), (1, 0, 110, 110), (1, 0, 115, 115), (1, 0, 110, 110), (1, 0, 97, 97), (1, 0, 107, 107), (1, 0, 101, 101), (1, 0, 115, 115), (1, 0, 101, 101), (1, 0, 97, 97), (1, 0, 97, 97), (1, 0, 103, 103), (1, 0, 101, 101), (1, 0, 103, 103), (1, 0, 117, 117), (1, 0, 101, 101), (1, 0, 115, 115), (1, 0, 116, 116), (1, 0, 108, 108), (1, 0, 97, 97), (1, 0, 117, 117), (1, 0, 103, 103), (1, 0, 104, 104), (1, 0, 115, 115), (1, 0, 112, 112), (1, 0, 108, 108), (1, 0, 97, 97), (1, 0, 110, 110)]), (1, 24, [(1, 0, 0, 0)]), (2, 2, [(1, 0, 0, 0)]), (1, 4, [(1, 0, (-4), (-4)), (1, 0, (-4), (-4)), (1, 0, (-4), (-4)), (1, 0, (-4), (-4))]), (1, 4, [(1, 0, 0, 0)]), (1, 160, [(1, 0, 0, 0)])] [(1, q1), (2, q2), (3, q3), (4, q4), (5, q5), (6, q6), (7, q7), (8, q8), (9, q9), (10, q10)] H locs := I
  exact ct_ret (F := [(0, 1, 0, 0), (1, 0, 0, 0), (0, 2, 0, 0), (1, 0, 0, 0), (1, 0, 0, 0), (1, 0, 0, 0), (0, 3, 0, 0), (1, 0, 0, 0), (1, 0, 0, 0), (1, 0, 0, 0), (1, 0, 0, 0), (1, 0, 0, 0), (1, 0, 0, 0), (1, 0, 0, 0), (1, 0, 0, 0), (0, 4, 0, 0), (0, 5, 0, 0), (1, 0, 0, 0), (0, 6, 0, 0), (1, 0, 0, 0), (0, 7, 0, 0), (0, 8, 0, 0), (0, 9, 0, 0), (0, 10, 0, 0), (1, 0, 0, 0)]) C I ⟨Or.inl ⟨rfl, _, List.mem_of_getElem? (i := 0) rfl, rfl⟩, Or.inr (Or.inl ⟨rfl, _, rfl, by decide, by decide⟩), Or.inl ⟨rfl, _, List.mem_of_getElem? (i := 1) rfl, rfl⟩, Or.inr (Or.inl ⟨rfl, _, rfl, by decide, by decide⟩), Or.inr (Or.inl ⟨rfl, _, rfl, by decide, by decide⟩), Or.inr (Or.inl ⟨rfl, _, rfl, by decide, by decide⟩), Or.inl ⟨rfl, _, List.mem_of_getElem? (i := 2) rfl, rfl⟩, Or.inr (Or.inl ⟨rfl, _, rfl, by decide, by decide⟩), Or.inr (Or.inl ⟨rfl, _, rfl, by decide, by decide⟩), Or.inr (Or.inl ⟨rfl, _, rfl, by decide, by decide⟩), Or.inr (Or.inl ⟨rfl, _, rfl, by decide, by decide⟩), Or.inr (Or.inl ⟨rfl, _, rfl, by decide, by decide⟩), Or.inr (Or.inl ⟨rfl, _, rfl, by decide, by decide⟩), Or.inr (Or.inl ⟨rfl, _, rfl, by decide, by decide⟩), Or.inr (Or.inl ⟨rfl, _, rfl, by decide, by decide⟩), Or.inl ⟨rfl, _, List.mem_of_getElem? (i := 3) rfl, rfl⟩, Or.inl ⟨rfl, _, List.mem_of_getElem? (i := 4) rfl, rfl⟩, Or.inr (Or.inl ⟨rfl, _, rfl, by decide, by decide⟩), Or.inl ⟨rfl, _, List.mem_of_getElem? (i := 5) rfl, rfl⟩, Or.inr (Or.inl ⟨rfl, _, rfl, by decide, by decide⟩), Or.inl ⟨rfl, _, List.mem_of_getElem? (i := 6) rfl, rfl⟩, Or.inl ⟨rfl, _, List.mem_of_getElem? (i := 7) rfl, rfl⟩, Or.inl ⟨rfl, _, List.mem_of_getElem? (i := 8) rfl, rfl⟩, Or.inl ⟨rfl, _, List.mem_of_getElem? (i := 9) rfl, rfl⟩, Or.inr (Or.inl ⟨rfl, _, rfl, by decide, by decide⟩), trivial⟩ hr hlk (Nat.le_refl _) (Nat.le_refl _) rfl (kj6_5 (324, .return_, 1) (List.mem_of_getElem? (i := 14) rfl))
