/-! told by the reference; the counts but outline and parts -/
def outS (A : Nat → Nat → Int) (n : Nat) : Int := sm n fun i => A i 6
theorem p_sizeOut {h : zH} {c : Nat} {qd mc : Int32} {ea n : Nat} {P : Nat → Nat} {A : Nat → Nat → Int} {D : Nat → Int32} (k : kW h c qd mc ea n P A D) : M_X1_sizeOut h c = some (zi (outS A n)) := by
  have hn := k.2.1.2.1
  unfold M_X1_sizeOut
  refine wl2_st (fun j => zi (outS A j)) (fun j => zi (j : Int)) n n_0 n_0 ?_ ?_ 700 (by omega)
  · intro rec j hj
    have hp := (k.2.2 j hj).1
    have o := (k.2.2 j hj).2
    unfold okA at o
    have h6 : (zi (A j 6) = 0) = (A j 6 = 0) := zi_eq (b := 0) (by omega) (by omega) (by omega) (by omega)
    simp (disch := omega) only [gR_of k.1 (k := 0) rfl, ck_of k.2.1.1, p_lsize k.2.1, Option.bind_some, zi_le, p_get k.2.1 hj, ck_of hp, gI_of hp (k := 6) rfl, h6, jn1, n_1, zi_add, Int.natCast_add, Int.natCast_one]
    rw [if_neg (by omega)]
    by_cases h1 : A j 6 = 0
    · rw [if_pos h1]
      refine congrArg (fun z => rec (zi z) _) ?_
      show outS A j = sm j (fun i => A i 6) + A j 6
      rw [h1, Int.add_zero]
      rfl
    · rw [if_neg h1]
      refine congrArg (fun z => rec (zi z) _) ?_
      show outS A j + 1 = sm j (fun i => A i 6) + A j 6
      rw [show A j 6 = 1 from by omega]
      rfl
  · intro rec
    simp (disch := omega) only [gR_of k.1 (k := 0) rfl, ck_of k.2.1.1, p_lsize k.2.1, Option.bind_some, zi_le]
    rw [if_pos (by omega)]
def opnS (A : Nat → Nat → Int) (n : Nat) (S : Nat → Nat → Int) (sn : Nat) : Int := sm sn fun i => b1 (decide (lay A n (S i 0) (S i 1) = 0))
