/-! advance is sp_tok: the walk with skip and takeNumber known, each end by hand -/
def sv_su (WR : List (Nat × Nat × Nat)) (mid : Nat) (st : ai_s) : Option (List ai_s) := if Nat.beq mid 35 = true then su_sk WR st else if Nat.beq mid 36 = true then su_tn WR st else none
def hkS (WR : List (Nat × Nat × Nat)) : ai_K := (tb_TY, WR, tb_MT, [], sv_su WR, [])
theorem hkS_su {WR : List (Nat × Nat × Nat)} : ai_SU (hkS WR) := by
  intro mid d cu st xs M h0 hM0 w0 ad p l e R s m args below meth c D tys A b L sx cells slots Q r0 C k
  have h : (if (Nat.beq st.1 0 && Nat.ble (ai_gd mid) d) = true then sv_su WR mid st else none) = some xs := h0
  have hM : tb_MT[mid]? = some M := hM0
  clear h0 hM0
  split at h
  · rename_i hc
    rw [Bool.and_eq_true, ai_beq] at hc
    have hd : ai_gd mid ≤ d := Nat.le_of_ble_eq_true hc.2
    unfold sv_su at h
    split at h
    · rename_i h35
      cases ai_beq.mp h35
      cases Option.some.inj (hM.symm.trans (rfl : tb_MT[35]? = some tb_m35))
      exact su_sk_ok h hc.1 hd C k
    · split at h
      · rename_i h36
        cases ai_beq.mp h36
        cases Option.some.inj (hM.symm.trans (rfl : tb_MT[36]? = some tb_m36))
        exact su_tn_ok h hc.1 hd C k
      · cases h
  · cases h
section HNS
variable {ad : List Nat} {M : ai_m} {d : Nat} {p : Program} {l : Launch} {e : Env} {R : Room} {s : State} {m : MethodId} {args : Array Value} {below : List Frame} {meth : Method} {c : Code} {D : va_G} {tys : ai_ty} {A : Nat → Prop} {b L : Nat} {sx : Nat → Int32} {cells slots : Nat} {Q : State → Prop}
theorem hsegS {WR : List (Nat × Nat × Nat)} {n mid : Nat} {cu : List Nat} {st : ai_s} {xs : List ai_s} (h : ai_ex (hkS WR) n mid M d cu st = some xs) (hM : tb_MT[mid]? = some M) (C : ai_cx M d p R s m args c D tys A b L sx cells slots) {r : List Int} {lv : List (Nat × Value)} {sk : List Value} {ws : va_W} (g : ai_gm tb_TY WR ws ad b L sx tys M.2.2.2.2.1 r st lv sk ws)
    (k : ∀ x ∈ xs, ∀ (r' : List Int) (lv' : List (Nat × Value)) (sk' : List Value) (ws' : va_W), ai_x r r' → ai_gm tb_TY WR ws ad b L sx tys M.2.2.2.2.1 r' x lv' sk' ws' → hG M p l e R s m args below meth c D A cells slots Q x.1 lv' sk' ws') : hG M p l e R s m args below meth c D A cells slots Q st.1 lv sk ws :=
  fun H locs ls hP hD hS hl => (ai_ex_ok (K := hkS WR) hkS_su tv_MT n) mid d cu st xs M h hM C (fun x hx r' lv' sk' ws' H' locs' ls' hx' g' hP' hD' hS' hl' => k x hx r' lv' sk' ws' hx' g' H' locs' ls' hP' hD' hS' hl') r lv sk ws H locs ls ai_x.rf g hP hD hS hl
end HNS
def av_WR : List (Nat × Nat × Nat) := [(26, 7, 11)]
def av_st : ai_s := (0, tn_lo, [], [(0, 0, false, 0, 0), (0, 2555, false, 1, 0), (0, 160, false, 2, 0), (0, 160, false, 3, 0)], [(26, 1, (1, 2, 0, 0)), (26, 7, (1, 3, 0, 0))], [])
/-- a fact (k, a, b, n, o) is among them -/
def av_f (x : ai_s) (k a b : Nat) (n : Option Nat) (o : Int) : Bool := x.2.2.2.2.2.any fun q => Nat.beq q.1 k && (Nat.beq q.2.1 a && (Nat.beq q.2.2.1 b && (decide (q.2.2.2.2 = o) && n.all fun i => Nat.beq q.2.2.2.1 i)))
/-- the byte at f is told, with bounds -/
def av_g (x : ai_s) (f : Nat) (h : ai_e → Bool) : Bool := x.2.2.2.2.2.any fun q => Nat.beq q.1 1027 && (Nat.beq q.2.1 f && (decide (q.2.2.2.2 = 0) && (x.2.2.2.1[q.2.2.2.1]?).any h))
def av_n (x : ai_s) (f : Nat) : Bool := x.2.2.2.2.2.any fun q => Nat.beq q.1 1027 && (Nat.beq q.2.1 f && (decide (q.2.2.2.2 = 0) && av_f x 140 q.2.2.2.1 0 none 59))
def av_out (x : ai_s) (f : Nat) (lo hi : Int) : Bool := av_g x f fun e => decide (e.2.1 < lo) || decide (hi < e.1)
def av_in (x : ai_s) (f : Nat) (lo hi : Int) : Bool := av_g x f fun e => decide (lo ≤ e.1) && decide (e.2.1 ≤ hi)
def av_not (x : ai_s) (f : Nat) : Bool := av_n x f || av_out x f 59 59
def av_ok (x : ai_s) : Bool := x.2.2.1.isEmpty && (Nat.beq x.1 141 && ((ai_lk x.2.2.2.2.1 26 9).any fun vf => decide (vf = (1, vf.2.1, 0, 0)) && (av_f x 320 3 2 (some vf.2.1) 0 &&
  ((decide (ai_lk x.2.2.2.2.1 26 8 = some (1, 0, 0, 0)) && (decide (ai_lk x.2.2.2.2.1 26 7 = some (1, vf.2.1, 0, 0)) && av_f x 5 vf.2.1 2 none 0)) ||
   (av_f x 4 vf.2.1 2 none 0 &&
    ((decide (ai_lk x.2.2.2.2.1 26 8 = some (1, 0, 0, 3)) && (decide (ai_lk x.2.2.2.2.1 26 7 = some (1, vf.2.1, 0, 1)) && av_in x vf.2.1 59 59)) ||
     ((decide (ai_lk x.2.2.2.2.1 26 8 = some (1, 0, 0, 1)) && ((ai_lk x.2.2.2.2.1 26 7).any fun ve => decide (ve = (1, ve.2.1, 0, 0)) && (av_f x 321 vf.2.1 2 (some ve.2.1) 0 && av_in x vf.2.1 97 122))) ||
      ((decide (ai_lk x.2.2.2.2.1 26 8 = some (1, 0, 0, 2)) && ((ai_lk x.2.2.2.2.1 26 7).any fun ve => decide (ve = (1, ve.2.1, 0, 0)) && (av_f x 322 vf.2.1 2 (some ve.2.1) 0 && (av_in x vf.2.1 48 57 && (av_f x 4 ve.2.1 vf.2.1 none 3 && (ai_lk x.2.2.2.2.1 26 10).any fun vn => decide (vn = (1, vn.2.1, 0, 0)) && av_f x 330 vf.2.1 ve.2.1 (some vn.2.1) 0))))) ||
       (decide (ai_lk x.2.2.2.2.1 26 8 = some (1, 0, 0, 4)) &&
        (((ai_lk x.2.2.2.2.1 26 7).any fun ve => decide (ve = (1, ve.2.1, 0, 0)) && (av_f x 322 vf.2.1 2 (some ve.2.1) 0 && (av_in x vf.2.1 48 57 && av_f x 5 ve.2.1 vf.2.1 none 3))) ||
         (decide (ai_lk x.2.2.2.2.1 26 7 = some (1, vf.2.1, 0, 0)) && (av_not x vf.2.1 && (av_out x vf.2.1 97 122 && av_out x vf.2.1 48 57)))))))))))))
noncomputable def av_x : Option (List ai_s) := ai_ex (hkS av_WR) 300 34 tb_m34 4 [] av_st
theorem av_r : (av_x.any fun xs => xs.all av_ok) = true := by decide +kernel
