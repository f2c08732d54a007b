/-! sums over the square -/
theorem p_notCov {h : zH} {x c s sl g : Nat} {hr gd go qd mc mc' : Int32} {ea ea' n sn : Nat} {P Q : Nat → Nat} {A : Nat → Nat → Int} {D : Nat → Int32} {S : Nat → Nat → Int} {B : Nat → Int32} (kx : kX h x c s sl g hr gd go) (k : kW h c qd mc ea n P A D) (hl : kLy h c n A) (kt : kSt h sl mc' ea' sn Q S B) (os : okS2 S sn) :
    M_X4_stallsNotCovered h x = some (zi (opnS A n S sn)) := by
  have ho : ∀ i, i < n → okA (A i) := fun i hi => (k.2.2 i hi).2
  have hn := k.2.1.2.1
  have hs := kt.1.2.1
  unfold M_X4_stallsNotCovered
  refine wl2_st (fun j => zi (opnS A n S j)) (fun j => zi (j : Int)) sn n_0 n_0 ?_ ?_ 700 (by omega)
  · intro rec j hj
    have hp := kt.2 j hj
    have o := os j hj
    have hb := lay_bd A n (S j 0) (S j 1)
    have e4 : (zi (lay A n (S j 0) (S j 1)) = 0) = (lay A n (S j 0) (S j 1) = 0) := zi_eq (b := 0) (by omega) (by omega) (by omega) (by omega)
    simp (disch := omega) only [gR_of kx (k := 2) rfl, gR_of kx (k := 0) rfl, ck_of kt.1.1, p_lsize kt.1, Option.bind_some, zi_le, p_get kt.1 hj, ck_of hp, gI_of hp (k := 0) rfl, gI_of hp (k := 1) rfl, ck_of k.1, p_at k.1 hl (x := S j 0) (y := S j 1) (by omega) (by omega) ho, e4, jn1, n_1, zi_add, Int.natCast_add, Int.natCast_one]
    rw [if_neg (by omega)]
    by_cases h1 : lay A n (S j 0) (S j 1) = 0
    · rw [if_pos h1]
      refine congrArg (fun z => rec (zi z) _) ?_
      show opnS A n S j + 1 = sm j _ + b1 (decide (lay A n (S j 0) (S j 1) = 0))
      rw [decide_eq_true h1]; rfl
    · rw [if_neg h1]
      refine congrArg (fun z => rec (zi z) _) ?_
      show opnS A n S j = sm j _ + b1 (decide (lay A n (S j 0) (S j 1) = 0))
      rw [decide_eq_false h1]; exact (Int.add_zero _).symm
  · intro rec
    simp (disch := omega) only [gR_of kx (k := 2) rfl, ck_of kt.1.1, p_lsize kt.1, Option.bind_some, zi_le]
    rw [if_pos (by omega)]
def sumS (A : Nat → Nat → Int) (n : Nat) (G : Nat → Nat → Int32) (w : Int) (x y : Nat) : Int := if w = 3 then b1 (decide (1 ≤ lay A n x y)) else if w = 6 then b1 (decide (2 ≤ lay A n x y)) else (G x y).toInt
