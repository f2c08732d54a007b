/-! how many lie over a cell: the class's layers -/
def lay (A : Nat → Nat → Int) (n : Nat) (x y : Int) : Int := sm n fun i => b1 (cv (A i) x y)
theorem lay_bd (A : Nat → Nat → Int) (n : Nat) (x y : Int) : 0 ≤ lay A n x y ∧ lay A n x y ≤ n := by
  have := sm_bd (n := n) (f := fun i => b1 (cv (A i) x y)) (B := 1) fun i _ => b1_bd _
  unfold lay; omega
def lrc (a : Nat → Int) (j k : Nat) (p : Nat) : Bool := decide (a 0 ≤ (p % 24 : Nat) ∧ ((p % 24 : Nat) : Int) < a 0 + a 2 ∧ a 1 ≤ (p / 24 : Nat) ∧ ((p / 24 : Nat) : Int) < a 1 + a 3 ∧ (((p / 24 : Nat) : Int) < a 1 + j ∨ (((p / 24 : Nat) : Int) = a 1 + j ∧ ((p % 24 : Nat) : Int) < a 0 + k)))
theorem p_layOver {h : zH} {c : Nat} {qd mc : Int32} {ea n : Nat} {P : Nat → Nat} {A : Nat → Nat → Int} {D : Nat → Int32} (k : kW h c qd mc ea n P A D) (e : ∀ q, inW c ea n P q → q ≠ c + 2) {i : Nat} (hi : i < n) (h6 : A i 6 = 1) (L : Nat → Int32) :
    M_X1_layOver (z_up h (c + 2) (cA 576 L)) c (P i) = some (z_up h (c + 2) (cA 576 fun p => L p + zi (b1 (cv (A i) (p % 24 : Nat) (p / 24 : Nat))))) := by
  have kz : ∀ c', kW (z_up h (c + 2) c') c qd mc ea n P A D := fun c' => kW_eq (fun q hq => up_ne (e q hq)) k
  have hp : ∀ c', z_up h (c + 2) c' (P i) = some (oA (A i) (D i)) := fun c' => ((kz c').2.2 i hi).1
  have o := (k.2.2 i hi).2
  unfold okA at o
  simp only [M_X1_layOver, gI_of (hp _) (k := 1) rfl, Option.bind_some]
  refine wl2_st (fun j => zi (A i 1 + (j : Nat))) (fun j => z_up h (c + 2) (cA 576 fun p => L p + zi (b1 (lrc (A i) j 0 p)))) (A i 3).toNat (by simp) ?_ ?_ ?_ 700 (by omega)
  · refine up_congr fun p hp => ?_
    have h1 : lrc (A i) 0 0 p = false := decide_eq_false (by omega)
    rw [h1]
    simp [b1, zi]
  · intro rec j hj
    simp (disch := omega) only [gI_of (hp _) (k := 1) rfl, gI_of (hp _) (k := 3) rfl, gI_of (hp _) (k := 0) rfl, Option.bind_some, zi_add, zi_le]
    rw [if_neg (by omega)]
    refine wl2_st (fun t => zi (A i 0 + (t : Nat))) (fun t => z_up h (c + 2) (cA 576 fun p => L p + zi (b1 (lrc (A i) j t p)))) (A i 2).toNat (by simp) rfl ?_ ?_ 700 (by omega)
    · intro rec2 t ht
      have hcell : M_X4_isCell (zi (A i 0 + (t : Int))) (zi (A i 1 + (j : Int))) = some 1 := by
        rw [p_isCell (by omega) (by omega), if_pos (by omega)]
      simp (disch := omega) only [gI_of (hp _) (k := 0) rfl, gI_of (hp _) (k := 2) rfl, Option.bind_some, zi_add, zi_le, hcell, jn1, gR_of (kz _).1 (k := 1) rfl, n_24, zi_mul]
      rw [if_neg (by omega), if_neg (by decide), cI_of (up_at _ _ _) (by omega) (by omega) (by omega), Option.bind_some, csI_of (up_at _ _ _) (by omega) (by omega) (by omega), Option.bind_some, up_up]
      simp only [n_1, zi_add, Int.natCast_add, Int.natCast_one, Int.add_assoc]
      refine congrArg (rec2 _) (up_congr fun p hp => ?_)
      have hq : ((A i 1 + (j : Int)) * 24 + (A i 0 + t)).toNat / 24 = (A i 1 + (j : Int)).toNat ∧ ((A i 1 + (j : Int)) * 24 + (A i 0 + t)).toNat % 24 = (A i 0 + (t : Int)).toNat := by omega
      by_cases h1 : p = ((A i 1 + (j : Int)) * 24 + (A i 0 + t)).toNat
      · have e1 : lrc (A i) j t p = false := decide_eq_false (by omega)
        have e2 : lrc (A i) j (t + 1) p = true := decide_eq_true (by omega)
        rw [if_pos h1, ← h1, e1, e2, Int32.add_assoc]
        rfl
      · have e1 : lrc (A i) j t p = lrc (A i) j (t + 1) p := by
          unfold lrc
          rw [Bool.eq_iff_iff, decide_eq_true_iff, decide_eq_true_iff]
          omega
        rw [if_neg h1, e1]
    · intro rec2
      simp (disch := omega) only [gI_of (hp _) (k := 0) rfl, gI_of (hp _) (k := 2) rfl, Option.bind_some, zi_add, zi_le]
      rw [if_pos (by omega)]
      simp only [n_1, zi_add, Int.natCast_add, Int.natCast_one, Int.add_assoc]
      refine congrArg (rec _) (up_congr fun p hp => ?_)
      have e1 : lrc (A i) j (A i 2).toNat p = lrc (A i) (j + 1) 0 p := by
        unfold lrc
        rw [Bool.eq_iff_iff, decide_eq_true_iff, decide_eq_true_iff]
        omega
      rw [e1]
  · intro rec
    simp (disch := omega) only [gI_of (hp _) (k := 1) rfl, gI_of (hp _) (k := 3) rfl, Option.bind_some, zi_add, zi_le]
    rw [if_pos (by omega)]
    refine congrArg some (up_congr fun p hp => ?_)
    have e1 : lrc (A i) (A i 3).toNat 0 p = cv (A i) (p % 24 : Nat) (p / 24 : Nat) := by
      unfold lrc cv
      rw [Bool.eq_iff_iff, decide_eq_true_iff, decide_eq_true_iff]
      omega
    rw [e1]
def hL (c : Nat) (A : Nat → Nat → Int) (n : Nat) (h : zH) : zH := z_up h (c + 2) (cA 576 fun p => zi (lay A n (p % 24 : Nat) (p / 24 : Nat)))
theorem p_layOut {h : zH} {c : Nat} {qd mc : Int32} {ea n : Nat} {P : Nat → Nat} {A : Nat → Nat → Int} {D : Nat → Int32} {f : Nat → Int32} (k : kW h c qd mc ea n P A D) (e : ∀ q, inW c ea n P q → q ≠ c + 2) (hf : h (c + 2) = some (cA 576 f)) :
    M_X1_layOut h c = some (hL c A n h) := by
  have kz : ∀ c', kW (z_up h (c + 2) c') c qd mc ea n P A D := fun c' => kW_eq (fun q hq => up_ne (e q hq)) k
  have hn := k.2.1.2.1
  simp only [M_X1_layOut, gR_of k.1 (k := 1) rfl, Option.bind_some, p_fill hf (by omega)]
  refine wl2_st (fun j => zi (j : Int)) (fun j => hL c A j h) n rfl rfl ?_ ?_ 700 (by omega)
  · intro rec j hj
    have o := (k.2.2 j hj).2
    unfold okA at o
    have kj := kz (cA 576 fun p => zi (lay A j (p % 24 : Nat) (p / 24 : Nat)))
    have hj0 := (kj.2.2 j hj).1
    have hz : (zi (A j 6) = 0) = (A j 6 = 0) := zi_eq (b := 0) (by omega) (by omega) (by omega) (by omega)
    unfold hL
    simp only [gR_of kj.1 (k := 0) rfl, Option.bind_some, ck_of kj.2.1.1, p_lsize kj.2.1, p_get kj.2.1 hj, ck_of hj0, gI_of hj0 (k := 6) rfl, jn1, ck_of kj.1, hz, zi_le (a := (n : Int)) (b := (j : Int)) (by omega) (by omega) (by omega) (by omega)]
    rw [if_neg (by omega)]
    by_cases h1 : A j 6 = 0
    · rw [if_pos h1, n_1, zi_add, Int.natCast_add, Int.natCast_one]
      refine congrArg (rec _) (up_congr fun p hp => ?_)
      rw [lay, lay, sm, cv_f (by omega)]
      simp [b1]
    · rw [if_neg h1, p_layOver k e hj (by omega), Option.bind_some, n_1, zi_add, Int.natCast_add, Int.natCast_one]
      refine congrArg (rec _) (up_congr fun p hp => ?_)
      rw [zi_add, lay, lay, sm]
  · intro rec
    have kj := kz (cA 576 fun p => zi (lay A n (p % 24 : Nat) (p / 24 : Nat)))
    unfold hL
    simp only [gR_of kj.1 (k := 0) rfl, Option.bind_some, ck_of kj.2.1.1, p_lsize kj.2.1, zi_le (a := (n : Int)) (b := (n : Int)) (by omega) (by omega) (by omega) (by omega)]
    rw [if_pos (by omega)]
/-- the layers stand in the heap -/
def kLy (h : zH) (c n : Nat) (A : Nat → Nat → Int) : Prop := h (c + 2) = some (cA 576 fun p => zi (lay A n (p % 24 : Nat) (p / 24 : Nat)))
theorem p_at {h : zH} {c n : Nat} {qd : Int32} {A : Nat → Nat → Int} (hc : kC h c qd) (hl : kLy h c n A) {x y : Int} (hx : -100 ≤ x ∧ x ≤ 100) (hy : -100 ≤ y ∧ y ≤ 100) (ho : ∀ i, i < n → okA (A i)) :
    M_X1_layersAt h c (zi x) (zi y) = some (zi (lay A n x y)) := by
  rw [p_layersAt hc (L := ar 576 fun p => zi (lay A n (p % 24 : Nat) (p / 24 : Nat))) hl hx hy]
  by_cases h1 : 0 ≤ x ∧ x < 24 ∧ 0 ≤ y ∧ y < 24
  · rw [if_pos h1, ar_lt (by omega), show (((24 * y + x).toNat % 24 : Nat) : Int) = x from by omega, show (((24 * y + x).toNat / 24 : Nat) : Int) = y from by omega]
  · rw [if_neg h1, lay, sm_congr (g := fun _ => 0), sm_zero]
    intro i hi
    have o := ho i hi
    unfold okA at o
    rw [cv_f (by omega)]
    rfl
