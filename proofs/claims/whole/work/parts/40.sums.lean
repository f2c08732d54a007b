/-! sums over the square -/
theorem p_notCov {h : zH} {x c s sl g : Nat} {hr gd go qd mc mc' : Int32} {ea ea' n sn : Nat} {P Q : Nat → Nat} {A : Nat → Nat → Int} {D : Nat → Int32} {S : Nat → Nat → Int} {B : Nat → Int32} (kx : kX h x c s sl g hr gd go) (k : kW h c qd mc ea n P A D) (hl : kLy h c n A) (kt : kSt h sl mc' ea' sn Q S B) (os : okS2 S sn) :
    M_X4_stallsNotCovered h x = some (zi (opnS A n S sn)) := by
  have ho : ∀ i, i < n → okA (A i) := fun i hi => (k.2.2 i hi).2
  have hn := k.2.1.2.1
  have hs := kt.1.2.1
  unfold M_X4_stallsNotCovered
  refine wl2_st (fun j => zi (opnS A n S j)) (fun j => zi (j : Int)) sn n_0 n_0 ?_ ?_ 700 (by omega)
  · intro rec j hj
    have hp := kt.2 j hj
    have o := os j hj
    have hb := lay_bd A n (S j 0) (S j 1)
    have e4 : (zi (lay A n (S j 0) (S j 1)) = 0) = (lay A n (S j 0) (S j 1) = 0) := zi_eq (b := 0) (by omega) (by omega) (by omega) (by omega)
    simp (disch := omega) only [gR_of kx (k := 2) rfl, gR_of kx (k := 0) rfl, ck_of kt.1.1, p_lsize kt.1, Option.bind_some, zi_le, p_get kt.1 hj, ck_of hp, gI_of hp (k := 0) rfl, gI_of hp (k := 1) rfl, ck_of k.1, p_at k.1 hl (x := S j 0) (y := S j 1) (by omega) (by omega) ho, e4, jn1, n_1, zi_add, Int.natCast_add, Int.natCast_one]
    rw [if_neg (by omega)]
    by_cases h1 : lay A n (S j 0) (S j 1) = 0
    · rw [if_pos h1]
      refine congrArg (fun z => rec (zi z) _) ?_
      show opnS A n S j + 1 = sm j _ + b1 (decide (lay A n (S j 0) (S j 1) = 0))
      rw [decide_eq_true h1]; rfl
    · rw [if_neg h1]
      refine congrArg (fun z => rec (zi z) _) ?_
      show opnS A n S j = sm j _ + b1 (decide (lay A n (S j 0) (S j 1) = 0))
      rw [decide_eq_false h1]; exact (Int.add_zero _).symm
  · intro rec
    simp (disch := omega) only [gR_of kx (k := 2) rfl, ck_of kt.1.1, p_lsize kt.1, Option.bind_some, zi_le]
    rw [if_pos (by omega)]
def sumS (A : Nat → Nat → Int) (n : Nat) (G : Nat → Nat → Int32) (w : Int) (x y : Nat) : Int := if w = 3 then b1 (decide (1 ≤ lay A n x y)) else if w = 6 then b1 (decide (2 ≤ lay A n x y)) else (G x y).toInt
theorem p_sumOf {h : zH} {m n sn : Nat} {th hr ro : Int32} {A : Nat → Nat → Int} {D : Nat → Int32} {G : Nat → Nat → Int32} (km : kM h m th n sn hr ro) (ks : kSh h m n A D) (kg : kGm h m G) {w : Int} (hw : w = 3 ∨ w = 6 ∨ w = 8) :
    M_X5_sumOf h m (zi w) = some (zi (tot (sumS A n G w))) := by
  obtain ⟨hn, f, -, ho'⟩ := id ks
  have ho : ∀ i, i < n → okA (A i) := fun i hi => (ho' i hi).1
  have q3 : (zi w = 3) = (w = 3) := zi_eq (b := 3) (by omega) (by omega) (by omega) (by omega)
  have q6 : (zi w = 6) = (w = 6) := zi_eq (b := 6) (by omega) (by omega) (by omega) (by omega)
  have q8 : (zi w = 8) = (w = 8) := zi_eq (b := 8) (by omega) (by omega) (by omega) (by omega)
  unfold M_X5_sumOf
  refine wl2_st (fun j => zi (sm j fun x => sm 24 fun y => sumS A n G w x y)) (fun j => zi (j : Int)) 24 n_0 n_0 ?_ ?_ 700 (by omega)
  · intro rec x hx
    simp (disch := omega) only [jn2_e, q3, q6, q8, n_24, zi_le, ck_of km, ob_some, p_cov km ks, p_many]
    rw [if_neg (by omega)]
    by_cases h3 : w = 3
    · rw [if_pos h3, pc_24 (fun j hj => by rw [lay_out ho (by omega)]; rfl), zi_add]
      have hne : ¬ w = 6 ∧ ¬ w = 8 := by omega
      refine wl2_st (fun _ => zi (sm (x + 1) fun x => sm 24 fun y => sumS A n G w x y)) (fun y => zi (y : Int)) 24 ?_ n_0 ?_ ?_ 700 (by omega)
      · refine congrArg zi ?_
        show _ = sm x _ + sm 24 fun y => sumS A n G w x y
        refine congrArg _ (sm_congr fun y _ => ?_)
        rw [sumS, if_pos h3]
        refine congrArg b1 ?_
        rw [Bool.eq_iff_iff, decide_eq_true_iff, decide_eq_true_iff]
        omega
      · intro rec2 y hy
        simp (disch := omega) only [zi_le, hne.1, hne.2, if_false, n_0, n_1, zi_add, Int.add_zero, Int.natCast_add, Int.natCast_one]
        rw [if_neg (by omega)]
      · intro rec2
        simp (disch := omega) only [zi_le, n_1, zi_add, Int.natCast_add, Int.natCast_one]
        rw [if_pos (by omega)]
    · rw [if_neg h3, n_0, zi_add, Int.add_zero]
      refine wl2_st (fun y => zi ((sm x fun x => sm 24 fun y => sumS A n G w x y) + sm y fun y => sumS A n G w x y)) (fun y => zi (y : Int)) 24 (by rw [sm, Int.add_zero]) rfl ?_ ?_ 700 (by omega)
      · intro rec2 y hy
        have hb := lay_bd A n x y
        by_cases h6 : w = 6
        · have e1 : (zi (lay A n x y) ≤ 1) = (lay A n x y ≤ 1) := zi_le (b := 1) (by omega) (by omega) (by omega) (by omega)
          simp (disch := omega) only [zi_le, h6, if_true, p_lying km ks (x := (x : Int)) (y := y) (by omega) hy, Option.bind_some, e1]
          rw [if_neg (by omega)]
          by_cases h7 : lay A n x y ≤ 1
          · rw [if_pos h7, n_1, zi_add, zi_add, Int.natCast_add, Int.natCast_one]
            refine congrArg (fun z => rec2 (zi z) _) ?_
            show _ = _ + (sm y _ + sumS A n G 6 x y)
            rw [sumS, if_neg (by omega), if_pos rfl, decide_eq_false (by omega)]
            simp [b1]
          · rw [if_neg h7, n_1, zi_add, zi_add, Int.natCast_add, Int.natCast_one]
            refine congrArg (fun z => rec2 (zi z) _) ?_
            show _ = _ + (sm y _ + sumS A n G 6 x y)
            rw [sumS, if_neg (by omega), if_pos rfl, decide_eq_true (by omega)]
            simp [b1, Int.add_assoc]
        · have h8 : w = 8 := by omega
          have e1 : z_aI h (m + 4) (24 * zi x + zi y) = some (G x y) := by
            rw [n_24, zi_mul, zi_add, cI_of kg (by omega) (by omega) (by omega), show (24 * (x : Int) + (y : Int)).toNat / 24 = x from by omega, show (24 * (x : Int) + (y : Int)).toNat % 24 = y from by omega]
          have e2 : G x y = zi (G x y).toInt := zi_of _
          simp (disch := omega) only [zi_le, h6, if_false, if_pos h8, gR_of km (k := 6) rfl, Option.bind_some]
          rw [if_neg (by omega)]
          simp only [n_24] at e1
          rw [e1, Option.bind_some, n_1, e2, zi_add, zi_add, Int.natCast_add, Int.natCast_one]
          refine congrArg (fun z => rec2 (zi z) _) ?_
          show _ = _ + (sm y _ + sumS A n G w x y)
          rw [sumS, if_neg h3, if_neg h6, Int.add_assoc]
      · intro rec2
        simp (disch := omega) only [zi_le, n_1, zi_add, Int.natCast_add, Int.natCast_one]
        rw [if_pos (by omega)]
        rfl
  · intro rec
    simp (disch := omega) only [n_24, zi_le]
    rw [if_pos (by omega)]
    rfl
