/-! readLine of the class is sp_line -/
def vi (ws : va_W) (k i : Nat) (z : Int) : Prop := ∃ j : Int32, ai_sl ws k i (.int j) ∧ j.toInt = z
theorem vi.fr {WR : List (Nat × Nat × Nat)} {ws ws' : va_W} {k i : Nat} {z : Int} (h : vi ws k i z) (hf : ai_fr WR ws ws') (hw : ai_wr WR k i i = false) : vi ws' k i z := by
  obtain ⟨j, h1, h2⟩ := h
  exact ⟨j, hf k i _ hw h1, h2⟩
theorem vi.kn {ad : List Nat} {b : Nat} {r : List Int} {ws : va_W} {k i n : Nat} {o t z : Int} (h : vi ws k i z) (hr : r[n]? = some t) (hz : z = t + o) : ∃ x, ai_sl ws k i x ∧ ai_dv ad b r (1, n, 0, o) x := by
  obtain ⟨j, h1, h2⟩ := h
  exact kn1 h1 hr (by omega)
theorem vi.lk {ad : List Nat} {b : Nat} {r : List Int} {ws : va_W} {kn : List ai_k} {k i n : Nat} {o z t : Int} (g6 : ai_kn ad b r ws kn) (h : ai_lk kn k i = some (1, n, 0, o)) (hr : r[n]? = some z) (ht : t = z + o) : vi ws k i t := by
  obtain ⟨j, h1, h2⟩ := lkv g6 h hr
  exact ⟨j, h1, by omega⟩
theorem sb0 {w0 : va_W} {r : List Int} : ai_sb w0 r [] := fun q hq => by cases hq
theorem sbc {w0 : va_W} {r : List Int} {q : ai_b} {sb : List ai_b} (h : ai_sb w0 r [q]) (t : ai_sb w0 r sb) : ai_sb w0 r (q :: sb) := fun k hk => by
  rcases List.mem_cons.mp hk with rfl | hk
  · exact h _ (List.mem_singleton.mpr rfl)
  · exact t k hk
theorem f350 {w0 : va_W} {r : List Int} {n N : Nat} {g : Nat → Int} (hn : r[n]? = some (N : Int)) (hg : fx_tape w0 g) (h52 : ∀ i, i < N → fx_o w0 52 i = some (g i)) : ai_sb w0 r [(350, n, n, n, 0)] := fun q hq => by
  rw [List.mem_singleton.mp hq]
  exact ⟨N, N, N, hn, hn, hn, fun h => absurd (show (350 : Nat) = 0 from h) (by decide), fun h => absurd (show (350 : Nat) = 1 from h) (by decide), fun h => absurd (show (350 : Nat) = 2 from h) (by decide), fun h => absurd (show (350 : Nat) = 4 from h) (by decide), fun h => absurd (show (350 : Nat) = 5 from h) (by decide), fun _ => ⟨fun h => absurd (show (1000 : Nat) ≤ 350 from h) (by decide), fun h => absurd (show (350 : Nat) < 300 ∨ (500 ≤ 350 ∧ 350 < 1000) from h) (by decide), fun _ _ => ⟨fun _ h => absurd (show (350 : Nat) < 305 from h) (by decide), fun _ h => absurd (show (350 : Nat) < 318 from h) (by decide), fun _ h => absurd (show (350 : Nat) < 323 from h) (by decide), fun h => absurd (show (400 : Nat) ≤ 350 from h) (by decide), fun h => absurd (show (350 : Nat) = 330 from h) (by decide)⟩, fun _ => ⟨N, g, hn, hg, fun i hi => h52 i (by omega)⟩⟩⟩
theorem f4 {w0 : va_W} {r : List Int} {a a' : Nat} {o za zb : Int} (ha : r[a]? = some za) (hb : r[a']? = some zb) (h : za < zb + o) : ai_sb w0 r [(4, a, a', a, o)] := fun q hq => by
  rw [List.mem_singleton.mp hq]
  exact ⟨za, zb, za, ha, hb, ha, fun h => absurd (show (4 : Nat) = 0 from h) (by decide), fun h => absurd (show (4 : Nat) = 1 from h) (by decide), fun h => absurd (show (4 : Nat) = 2 from h) (by decide), fun _ => h, fun h => absurd (show (4 : Nat) = 5 from h) (by decide), fun h => absurd (show (100 : Nat) ≤ 4 from h) (by decide)⟩
theorem fword {w0 : va_W} {r : List Int} {f e w v F E : Nat} {g : Nat → Int} (hf : r[f]? = some (F : Int)) (he : r[e]? = some (E : Int)) (hv : ∃ zv, r[v]? = some zv) (hg : fx_tape w0 g) (hE : E ≤ 160) (h8 : w < 8)
    (h : if w = 0 then r[v]? = some ((sp_word g F E : Nat) : Int) ∧ sp_word g F E < 4 else sp_word g F E = w) : ai_sb w0 r [(310 + w, f, e, v, 0)] := fun q hq => by
  rw [List.mem_singleton.mp hq]
  obtain ⟨zv, hv⟩ := hv
  refine ⟨F, E, zv, hf, he, hv, fun h => absurd (show 310 + w = 0 from h) (by omega), fun h => absurd (show 310 + w = 1 from h) (by omega), fun h => absurd (show 310 + w = 2 from h) (by omega), fun h => absurd (show 310 + w = 4 from h) (by omega), fun h => absurd (show 310 + w = 5 from h) (by omega), fun _ => ⟨fun h => absurd (show 1000 ≤ 310 + w from h) (by omega), fun h => absurd (show 310 + w < 300 ∨ (500 ≤ 310 + w ∧ 310 + w < 1000) from h) (by omega), fun g' hg' => ⟨fun _ h => absurd (show 310 + w < 305 from h) (by omega), fun _ _ => ⟨F, E, hf, he, by omega, by omega, ?_⟩, fun h => absurd (show 320 ≤ 310 + w from h) (by omega), fun h => absurd (show 400 ≤ 310 + w from h) (by omega), fun h => absurd (show 310 + w = 330 from h) (by omega)⟩, fun h => absurd (show 310 + w = 350 from h) (by omega)⟩⟩
  rw [Int.toNat_natCast, Int.toNat_natCast]
  have hc : sp_word g' F E = sp_word g F E := sp_word_congr (fun i h1 h2 => tape_one hg' hg i (by omega))
  rw [hc]
  by_cases hw : w = 0
  · rw [if_pos hw] at h
    rw [if_pos (show 310 + w = 310 by omega)]
    exact ⟨_, h.1, rfl, by omega⟩
  · rw [if_neg hw] at h
    rw [if_neg (show ¬ 310 + w = 310 by omega), h]
    show w = 310 + w - 310
    omega
/-- the evening at cell c (its rows behind it) is E, as far as its first t tests go -/
def cev (ws : va_W) (c t : Nat) (E : Nat → Int) : Prop := (∀ i, i < t → vi ws (c + 1) i (E i) ∧ vi ws (c + 2) i (E (4 + i)) ∧ vi ws (c + 3) i (E (8 + i)) ∧ vi ws (c + 4) i (E (12 + i))) ∧ vi ws c 1 (E 16) ∧ vi ws c 2 (E 17)
def evw (W : List (Nat × Nat × Nat)) (c : Nat) : Bool := nowr W c && (nowr W (c + 1) && (nowr W (c + 2) && (nowr W (c + 3) && nowr W (c + 4))))
theorem cev.fr {W : List (Nat × Nat × Nat)} {ws ws' : va_W} {c t : Nat} {E : Nat → Int} (h : cev ws c t E) (hf : ai_fr W ws ws') (hw : evw W c = true) : cev ws' c t E := by
  unfold evw at hw
  rw [Bool.and_eq_true, Bool.and_eq_true, Bool.and_eq_true, Bool.and_eq_true] at hw
  obtain ⟨w0, w1, w2, w3, w4⟩ := hw
  obtain ⟨h1, h2, h3⟩ := h
  refine ⟨fun i hi => ?_, h2.fr hf (nowr_ok w0 1 1), h3.fr hf (nowr_ok w0 2 2)⟩
  obtain ⟨a1, a2, a3, a4⟩ := h1 i hi
  exact ⟨a1.fr hf (nowr_ok w1 i i), a2.fr hf (nowr_ok w2 i i), a3.fr hf (nowr_ok w3 i i), a4.fr hf (nowr_ok w4 i i)⟩
theorem cev_test {W : List (Nat × Nat × Nat)} {ws ws' : va_W} {c t : Nat} {E : Nat → Int} (ht : t < 4) (h : cev ws c t E) (hf : ai_fr W ws ws') (hw : ∀ i, i < t → ai_wr W (c + 1) i i = false ∧ ai_wr W (c + 2) i i = false ∧ ai_wr W (c + 3) i i = false ∧ ai_wr W (c + 4) i i = false) (w1 : ai_wr W c 1 1 = false) (w2 : ai_wr W c 2 2 = false) {k s m p : Int} (v1 : vi ws' (c + 1) t k) (v2 : vi ws' (c + 2) t s) (v3 : vi ws' (c + 3) t m) (v4 : vi ws' (c + 4) t p) : cev ws' c (t + 1) (ev_test E t k s m p) := by
  obtain ⟨h1, h2, h3⟩ := h
  refine ⟨fun i hi => ?_, ?_, ?_⟩
  · by_cases hit : i = t
    · subst hit
      rw [ev_test_k, ev_test_s, ev_test_m, ev_test_p]
      exact ⟨v1, v2, v3, v4⟩
    · obtain ⟨a1, a2, a3, a4⟩ := h1 i (by omega)
      obtain ⟨b1, b2, b3, b4⟩ := hw i (by omega)
      rw [ev_test_ne (j := i) (by omega) (by omega) (by omega) (by omega), ev_test_ne (j := 4 + i) (by omega) (by omega) (by omega) (by omega), ev_test_ne (j := 8 + i) (by omega) (by omega) (by omega) (by omega), ev_test_ne (j := 12 + i) (by omega) (by omega) (by omega) (by omega)]
      exact ⟨a1.fr hf b1, a2.fr hf b2, a3.fr hf b3, a4.fr hf b4⟩
  · rw [ev_test_ne (by omega) (by omega) (by omega) (by omega)]
    exact h2.fr hf w1
  · rw [ev_test_ne (by omega) (by omega) (by omega) (by omega)]
    exact h3.fr hf w2
theorem cev_up {W : List (Nat × Nat × Nat)} {ws ws' : va_W} {c t j : Nat} {E : Nat → Int} {z : Int} (ht : t ≤ 4) (hj : j = 1 ∨ j = 2) (h : cev ws c t E) (hf : ai_fr W ws ws') (hw : nowr W (c + 1) = true ∧ nowr W (c + 2) = true ∧ nowr W (c + 3) = true ∧ nowr W (c + 4) = true) (w1 : ai_wr W c (3 - j) (3 - j) = false) (v : vi ws' c j z) : cev ws' c t (ev_up E (15 + j) z) := by
  obtain ⟨h1, h2, h3⟩ := h
  refine ⟨fun i hi => ?_, ?_, ?_⟩
  · obtain ⟨a1, a2, a3, a4⟩ := h1 i hi
    rw [ev_up_ne (j := i) (by omega), ev_up_ne (j := 4 + i) (by omega), ev_up_ne (j := 8 + i) (by omega), ev_up_ne (j := 12 + i) (by omega)]
    exact ⟨a1.fr hf (nowr_ok hw.1 i i), a2.fr hf (nowr_ok hw.2.1 i i), a3.fr hf (nowr_ok hw.2.2.1 i i), a4.fr hf (nowr_ok hw.2.2.2 i i)⟩
  · rcases hj with rfl | rfl
    · rw [ev_up_at]
      exact v
    · rw [ev_up_ne (by omega)]
      exact h2.fr hf w1
  · rcases hj with rfl | rfl
    · rw [ev_up_ne (by omega)]
      exact h3.fr hf w1
    · rw [ev_up_at]
      exact v
theorem sy_ev1_ok {ad : List Nat} {b' : Nat} {w0 ws : va_W} {r : List Int} {x : ai_s} {g : Nat → Int} {n N nm : Nat} {T : sp_T} {k1 : Nat × Nat} {W : Int} {a b c d : Nat × Nat} (g2 : ai_sb w0 r x.2.2.2.2.2) (g6 : ai_kn ad b' r ws x.2.2.2.2.1) (hg : fx_tape w0 g) (r0 : r[0]? = some 0) (hn : r[n]? = some (N : Int)) (i1 : sy_is r k1 T) (hW : r[nm]? = some W) (h : sy_ev1 x n k1 (1, nm, 0, 0) a b c d = true) : vi ws a.1 a.2 W ∧ vi ws b.1 b.2 T.2.2.2 ∧ vi ws c.1 c.2 (ev_m g N T) ∧ vi ws d.1 d.2 (ev_p g N T) := by
  unfold sy_ev1 at h
  obtain ⟨k2, hk2, h⟩ := ai_anyE h
  have i2 := sy_tk_ok g2 hg hn i1.2.2.1 hk2
  rw [Bool.and_eq_true, Bool.and_eq_true] at h
  obtain ⟨h1, h2, h3⟩ := h
  refine ⟨vi.lk g6 (decide_eq_true_eq.mp h1) hW (by omega), vi.lk g6 (decide_eq_true_eq.mp h2) i1.2.2.2 (by omega), ?_⟩
  unfold ev_m ev_p
  split at h3
  · rename_i c2
    rw [Bool.and_eq_true] at h3
    obtain ⟨h3, h4⟩ := h3
    obtain ⟨k3, hk3, h4⟩ := ai_anyE h4
    have i3 := sy_tk_ok g2 hg hn i2.2.2.1 hk3
    have c' := i2.1.trans c2
    rw [if_pos c']
    refine ⟨vi.lk g6 (decide_eq_true_eq.mp h3) i2.2.2.2 (by omega), ?_⟩
    by_cases c3 : k3.1 = 2
    · rw [if_pos c3] at h4
      rw [if_pos ⟨c', i3.1.trans c3⟩]
      exact vi.lk g6 (decide_eq_true_eq.mp h4) i3.2.2.2 (by omega)
    · rw [if_neg c3] at h4
      rw [if_neg (fun hh => c3 (i3.1.symm.trans hh.2))]
      exact vi.lk g6 (decide_eq_true_eq.mp h4) r0 (by omega)
  · rename_i c2
    rw [Bool.and_eq_true] at h3
    have c' : ¬ (sp_tok g N T.2.2.1).1 = 2 := fun hh => c2 (i2.1.symm.trans hh)
    rw [if_neg c', if_neg (fun hh => c' hh.1)]
    exact ⟨vi.lk g6 (decide_eq_true_eq.mp h3.1) r0 (by omega), vi.lk g6 (decide_eq_true_eq.mp h3.2) r0 (by omega)⟩
theorem sy_ev_ok {ad : List Nat} {b' : Nat} {w0 ws : va_W} {r : List Int} {x : ai_s} {g : Nat → Int} {n p N P nm : Nat} {W : Int} {a b c d : Nat × Nat} (g2 : ai_sb w0 r x.2.2.2.2.2) (g6 : ai_kn ad b' r ws x.2.2.2.2.1) (hg : fx_tape w0 g) (r0 : r[0]? = some 0) (hn : r[n]? = some (N : Int)) (hp : r[p]? = some (P : Int)) (hW : r[nm]? = some W) (h : sy_ev x n p (1, nm, 0, 0) a b c d = true) : vi ws a.1 a.2 W ∧ vi ws b.1 b.2 (sp_tok g N P).2.2.2 ∧ vi ws c.1 c.2 (ev_m g N (sp_tok g N P)) ∧ vi ws d.1 d.2 (ev_p g N (sp_tok g N P)) := by
  unfold sy_ev at h
  obtain ⟨k1, hk1, h⟩ := ai_anyE h
  exact sy_ev1_ok g2 g6 hg r0 hn (sy_tk_ok g2 hg hn hp hk1) hW h
theorem sy_num_ok {ad : List Nat} {b' : Nat} {w0 ws : va_W} {r : List Int} {x : ai_s} {g : Nat → Int} {n p N P : Nat} {a : Nat × Nat} {o : Int} (g2 : ai_sb w0 r x.2.2.2.2.2) (g6 : ai_kn ad b' r ws x.2.2.2.2.1) (hg : fx_tape w0 g) (hn : r[n]? = some (N : Int)) (hp : r[p]? = some (P : Int)) (h : sy_num x n p a o = true) : vi ws a.1 a.2 ((sp_tok g N P).2.2.2 + o) := by
  unfold sy_num at h
  obtain ⟨k1, hk1, h⟩ := ai_anyE h
  have i1 := sy_tk_ok g2 hg hn hp hk1
  exact vi.lk g6 (decide_eq_true_eq.mp h) i1.2.2.2 rfl
/-- what the class's cells are between two lines -/
def cl_is (n : Nat) (ws : va_W) (S : sp_S) (ln : Nat) : Prop := vi ws 26 1 n ∧ vi ws 26 3 S.2.2.1 ∧ vi ws 26 4 ln ∧ vi ws 26 5 0 ∧ vi ws 26 7 S.1.2.2.1 ∧ vi ws 26 8 S.1.1 ∧ vi ws 26 9 S.1.2.1 ∧ vi ws 28 0 S.2.1 ∧ vi ws 28 3 S.2.2.2.length ∧ ∀ i, i < S.2.2.2.length → vi ws 33 i (S.2.2.2.getD i 0)
def sp_inv (n : Nat) (S : sp_S) : Prop := (∃ j, j < 8 ∧ S.2.2.1 = 16 * j) ∧ (S.2.2.1 / 64 % 2 = 0 → S.2.2.2 = []) ∧ S.2.1 ≤ 4 ∧ S.1.1 ≤ 4 ∧ S.1.2.1 ≤ n ∧ S.1.2.2.1 ≤ n
def sp_tape (g : Nat → Int) (n : Nat) (ws : va_W) : Prop := fx_tape ws g ∧ ∀ i, i < n → fx_o ws 52 i = some (g i)
def cl_W : List (Nat × Nat × Nat) := [(26, 3, 11), (28, 0, 4), (29, 0, 4), (30, 0, 4), (31, 0, 4), (32, 0, 4), (33, 0, 8)]
/-- a narrower list of places -/
def wsub (V W : List (Nat × Nat × Nat)) : Bool := V.all fun q => W.any fun k => Nat.beq k.1 q.1 && (Nat.ble k.2.1 q.2.1 && Nat.ble q.2.2 k.2.2)
theorem wsub_ok {V W : List (Nat × Nat × Nat)} {u v : va_W} (h : wsub V W = true) (hf : ai_fr V u v) : ai_fr W u v := fun c i x a b => hf c i x (by
  unfold ai_wr at a ⊢
  rw [List.any_eq_false] at a ⊢
  intro q hq hx
  obtain ⟨k, hk, h2⟩ := List.any_eq_true.mp (List.all_eq_true.mp h q hq)
  rw [Bool.and_eq_true, Bool.and_eq_true, ai_beq] at h2
  obtain ⟨e1, e2, e3⟩ := h2
  have e2 := Nat.le_of_ble_eq_true e2
  have e3 := Nat.le_of_ble_eq_true e3
  apply a k hk
  simp only [Bool.and_eq_true, Bool.or_eq_true, decide_eq_true_eq] at hx ⊢
  omega) b
section CLN
variable {ad : List Nat} {p : Program} {l : Launch} {e : Env} {R : Room} {s : State} {m : MethodId} {args : Array Value} {below : List Frame} {meth : Method} {c : Code} {D : va_G} {tys : ai_ty} {A : Nat → Prop} {b L : Nat} {sx : Nat → Int32} {cells slots : Nat} {Q : State → Prop}
theorem f267v {ws : va_W} {i : Nat} {z lo hi : Int} (h : ai_wd tb_TY ad tys ws) (hs : vi ws 26 i z) (hF : (tb_TY[26]?).bind (fun t => t.2.2[i]?) = some (1, 0, lo, hi)) : lo ≤ z ∧ z ≤ hi := by
  obtain ⟨j, h1, h2⟩ := hs
  have := f267 h h1 hF
  omega
theorem sp_tape.fr {g : Nat → Int} {n : Nat} {W : List (Nat × Nat × Nat)} {ws ws' : va_W} (h : sp_tape g n ws) (hn : n ≤ 160) (hw : ai_wd tb_TY ad tys ws') (hf : ai_fr W ws ws') (h27 : nowr W 27 = true) (h52 : nowr W 52 = true) : sp_tape g n ws' :=
  ⟨fun i hi => fr_fx hw (k := 27) rfl hf (nowr_ok h27 i i) (h.1 i hi), fun i hi => fr_fx hw (k := 52) rfl hf (nowr_ok h52 i i) (h.2 i hi)⟩
set_option maxHeartbeats 1000000 in
theorem cl_fin {W : List (Nat × Nat × Nat)} {ws ws' : va_W} {g : Nat → Int} {n ln t' T' : Nat} {as' : List Int} {S : sp_S} {x : ai_s} {r' : List Int} {lv' : List (Nat × Value)} {tests told : Option Int} {pl : Option (List Nat)} {y : sy_r}
    (C : ai_cx tb_m26 8 p R s m args c D tys A b L sx cells slots) (hn : n ≤ 160) (hT : sp_tape g n ws) (hi1 : vi ws 26 1 n) (hsub : wsub W cl_W = true)
    (g3 : ai_lo ad b r' x.2.1 lv') (hw' : ai_wd tb_TY ad tys ws') (g6 : ai_kn ad b r' ws' x.2.2.2.2.1) (hf : ai_fr W ws ws') (r0 : r'[0]? = some 0) (r5 : r'[5]? = some (ln : Int))
    (hres : cl_res x tests told pl y = true) (hy : sy_ok r' g n t' T' as' y (sp_line g n S)) (h28 : tests = some (t' : Int) ∨ vi ws' 28 0 t') (h3 : told = some (T' : Int) ∨ vi ws' 26 3 T') (hp : (∃ nm, pl = some nm ∧ as' = sy_v r' nm ∧ ∀ i, i < nm.length → ∃ z, r'[nm.getD i 0]? = some z) ∨ (vi ws' 28 3 as'.length ∧ ∀ i, i < as'.length → vi ws' 33 i (as'.getD i 0)))
    (hev : ∀ bb, y = .inr bb → ∀ E, cev ws 28 S.2.1 E → cev ws' 28 t' (ev_line g n S E))
    (k1 : ∀ (pcr : Nat) (ws' : va_W) (lv' : List (Nat × Value)) (c1 P : Nat), (pcr = 64 ∨ pcr = 85) → ai_wd tb_TY ad tys ws' → ai_fr cl_W ws ws' → sp_line g n S = .inl (c1, P) → vi ws' 26 5 c1 → vi ws' 26 6 P → hG tb_m26 p l e R s m args below meth c D A cells slots Q pcr lv' [] ws')
    (k2 : ∀ (ws' : va_W) (lv' : List (Nat × Value)) (S' : sp_S), ai_wd tb_TY ad tys ws' → ai_fr cl_W ws ws' → sp_line g n S = .inr S' → cl_is n ws' S' (ln + 1) → (∀ E, cev ws 28 S.2.1 E → cev ws' 28 S'.2.1 (ev_line g n S E)) → hG tb_m26 p l e R s m args below meth c D A cells slots Q 100 lv' [] ws') : hG tb_m26 p l e R s m args below meth c D A cells slots Q x.1 lv' [] ws' := by
  have hF : ai_fr cl_W ws ws' := wsub_ok hsub hf
  cases y with
  | inl y =>
    obtain ⟨P, hP1, hP2⟩ := hy
    unfold cl_res at hres
    rw [Bool.and_eq_true, Bool.and_eq_true, Bool.or_eq_true, ai_beq, ai_beq] at hres
    obtain ⟨hpc, h5, h6⟩ := hres
    exact k1 x.1 ws' lv' y.1 P hpc hw' hF hP2 (vi.lk g6 (decide_eq_true_eq.mp h5) r0 (by omega)) (vi.lk g6 (decide_eq_true_eq.mp h6) hP1 (by omega))
  | inr bb =>
    obtain ⟨E, hE1, hE2⟩ := hy
    unfold cl_res at hres
    rw [Bool.and_eq_true, Bool.and_eq_true, Bool.and_eq_true, Bool.and_eq_true, Bool.and_eq_true, Bool.and_eq_true, Bool.and_eq_true, ai_beq, decide_eq_true_eq] at hres
    obtain ⟨hpc, h5, h7, h4, hth, ht, htd, hpl⟩ := hres
    have v5 : vi ws' 26 5 0 := vi.lk g6 (decide_eq_true_eq.mp h5) r0 (by omega)
    have v7 : vi ws' 26 7 E := vi.lk g6 (decide_eq_true_eq.mp h7) hE1 (by omega)
    have v4 : vi ws' 26 4 ((ln + 1 : Nat) : Int) := vi.lk g6 (decide_eq_true_eq.mp h4) r5 (by omega)
    have v1 : vi ws' 26 1 n := hi1.fr hF (by decide)
    have v28 : vi ws' 28 0 t' := by
      rcases h28 with h28 | h28
      · rw [h28] at ht
        exact vi.lk g6 (decide_eq_true_eq.mp ht) r0 (by omega)
      · exact h28
    have v3 : vi ws' 26 3 T' := by
      rcases h3 with h3 | h3
      · rw [h3] at htd
        exact vi.lk g6 (decide_eq_true_eq.mp htd) r0 (by omega)
      · exact h3
    have vp : vi ws' 28 3 as'.length ∧ ∀ i, i < as'.length → vi ws' 33 i (as'.getD i 0) := by
      rcases hp with ⟨nm, h1, h2, h9⟩ | hp
      · rw [h1] at hpl
        have hpl : (decide (ai_lk x.2.2.2.2.1 28 3 = some (1, 0, 0, (nm.length : Int))) && (List.range nm.length).all fun i => decide (ai_lk x.2.2.2.2.1 33 i = some (1, nm.getD i 0, 0, 0))) = true := hpl
        rw [Bool.and_eq_true, decide_eq_true_eq] at hpl
        have hlen : as'.length = nm.length := by rw [h2]; exact List.length_map _
        refine ⟨vi.lk g6 hpl.1 r0 (by omega), fun i hi => ?_⟩
        have h10 := List.all_eq_true.mp hpl.2 i (List.mem_range.mpr (by omega))
        obtain ⟨z, hz⟩ := h9 i (by omega)
        refine vi.lk g6 (decide_eq_true_eq.mp h10) hz ?_
        rw [h2, List.getD_eq_getElem?_getD]
        unfold sy_v
        rw [List.getElem?_map]
        rw [List.getD_eq_getElem?_getD] at hz
        rw [List.getElem?_eq_getElem (show i < nm.length by omega)] at hz ⊢
        show ((r'[nm[i]]?).getD 0) = z + 0
        have hz : r'[nm[i]]? = some z := hz
        rw [hz, Int.add_zero]
        rfl
      · exact hp
    rw [hpc]
    refine hG_this g3 hth (fun lv1 hlv1 => ?_)
    obtain ⟨xs, hx1, hx2⟩ := ai_anyE cl_Ar
    obtain ⟨e0, e1⟩ := f267v (i := 7) hw' v7 rfl
    have gm : ai_gm tb_TY av_WR ws' ad b L sx tys tb_m26.2.2.2.2.1 [0, 0, (n : Int), (E : Int)] cl_A lv1 [] ws' := by
      refine ⟨en_mk (by simp only [cl_A, en_b, and_true]; omega) rfl, sb0, lo0_ok (r := [0]) rfl rfl rfl hlv1, trivial, hw', kc (v1.kn (n := 2) (t := (n : Int)) rfl (by omega)) (kc (v7.kn (n := 3) (t := (E : Int)) rfl (by omega)) k0), fun _ _ _ _ h => h, fun h => by cases h⟩
    refine hsegT (st := cl_A) hx1 rfl C gm (fun x2 hxx r2 lv2 sk2 ws2 hx' g' => ?_)
    obtain ⟨k1', k2', k3', k4', hw2, k6', f2, -⟩ := g'
    have hox := List.all_eq_true.mp hx2 x2 hxx
    unfold cl_Aok at hox
    rw [Bool.and_eq_true] at hox
    obtain ⟨hs, hox⟩ := hox
    have hsk : sk2 = [] := by
      rw [List.isEmpty_iff.mp hs] at k4'
      exact k4'.nil
    subst hsk
    obtain ⟨kb, hkb, hox⟩ := ai_anyE hox
    rw [Bool.and_eq_true, Bool.and_eq_true, Bool.and_eq_true, ai_beq] at hox
    obtain ⟨o1, o2, o3, o4⟩ := hox
    have y0 : r2[0]? = some 0 := hx'.at rfl
    have y2 : r2[2]? = some (n : Int) := hx'.at rfl
    have y3 : r2[3]? = some (E : Int) := hx'.at rfl
    obtain ⟨u1, u2, u3, -⟩ := sy_tk_ok k2' (hT.fr hn hw' hF (by decide) (by decide)).1 y2 y3 hkb
    rw [o1]
    refine k2 ws2 lv2 _ hw2 (hF.tr (wsub_ok (by decide) f2)) hE2 ⟨v1.fr f2 (by decide), v3.fr f2 (by decide), v4.fr f2 (by decide), v5.fr f2 (by decide), vi.lk k6' (decide_eq_true_eq.mp o4) u3 (by show ((sp_tok g n E).2.2.1 : Int) = _; omega), vi.lk k6' (decide_eq_true_eq.mp o2) y0 (by show ((sp_tok g n E).1 : Int) = _; rw [u1]; omega), vi.lk k6' (decide_eq_true_eq.mp o3) u2 (by show ((sp_tok g n E).2.1 : Int) = _; omega), v28.fr f2 (by decide), vp.1.fr f2 (by decide), fun i hi => (vp.2 i hi).fr f2 ?_⟩ (fun E' hE' => (hev bb rfl E' hE').fr f2 (by decide))
    unfold ai_wr av_WR
    simp
end CLN
