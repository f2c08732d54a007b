/-! share -/
theorem sm_const (n : Nat) (c : Int) : sm n (fun _ => c) = n * c := by
  induction n with
  | zero => simp [sm]
  | succ n ih => rw [sm, ih, Int.natCast_add, Int.add_mul]; simp
theorem zi_ite (p : Prop) [Decidable p] (a b : Int) : (if p then zi a else zi b) = zi (if p then a else b) := by split <;> rfl
def shrS (A : Nat → Nat → Int) (a b : Nat) : Int := tot fun x y => b1 (cv (A a) x y && cv (A b) x y)
theorem shr_0 {A : Nat → Nat → Int} {a b : Nat} (h : ∀ x y : Nat, ¬(cv (A a) x y = true ∧ cv (A b) x y = true)) : shrS A a b = 0 := by
  rw [shrS, tot, sm_congr (g := fun _ => 0), sm_zero]
  intro x _
  rw [sm_congr (g := fun _ => 0), sm_zero]
  intro y _
  have h1 : (cv (A a) x y && cv (A b) x y) = false := Bool.eq_false_iff.mpr fun h2 => h x y (Bool.and_eq_true_iff.mp h2)
  rw [h1]
  rfl
theorem shr_box {A : Nat → Nat → Int} {a b X Y W V : Nat} (hX : X + W ≤ 24) (hY : Y + V ≤ 24) (h : ∀ x y : Nat, (cv (A a) x y = true ∧ cv (A b) x y = true) ↔ (X ≤ x ∧ x < X + W ∧ Y ≤ y ∧ y < Y + V)) : shrS A a b = W * V := by
  have h1 := sm_rect (x := X) (y := Y) (w := W) (v := V) (fun _ _ => 1) hX hY
  rw [sm_const, sm_const] at h1
  rw [shrS, show (W : Int) * V = V * (W * 1) from by rw [Int.mul_one, Int.mul_comm], h1]
  refine sm_congr fun x _ => sm_congr fun y _ => ?_
  show b1 (cv (A a) x y && cv (A b) x y) = if X ≤ x ∧ x < X + W ∧ Y ≤ y ∧ y < Y + V then 1 else 0
  by_cases h2 : X ≤ x ∧ x < X + W ∧ Y ≤ y ∧ y < Y + V
  · obtain ⟨h3, h4⟩ := (h x y).mpr h2
    rw [if_pos h2, h3, h4]; rfl
  · have h3 : (cv (A a) x y && cv (A b) x y) = false := Bool.eq_false_iff.mpr fun h4 => h2 ((h x y).mp (Bool.and_eq_true_iff.mp h4))
    rw [if_neg h2, h3]; rfl
theorem cv_iff {a : Nat → Int} {x y : Int} : cv a x y = true ↔ a 6 = 1 ∧ a 0 ≤ x ∧ x < a 0 + a 2 ∧ a 1 ≤ y ∧ y < a 1 + a 3 := decide_eq_true_iff
theorem p_X4share {h : zH} {x c s sl g : Nat} {hr gd go qd mc : Int32} {ea n : Nat} {P : Nat → Nat} {A : Nat → Nat → Int} {D : Nat → Int32} (kx : kX h x c s sl g hr gd go) (k : kW h c qd mc ea n P A D)
    {a b : Int} (ha : -2147483648 ≤ a ∧ a < 2147483648) (hb : -2147483648 ≤ b ∧ b < 2147483648) :
    M_X4_share h x (zi a) (zi b) = some (if (0 ≤ a ∧ a < n) ∧ 0 ≤ b ∧ b < n then .inr (zi (shrS A a.toNat b.toNat)) else .inl sIO) := by
  simp only [M_X4_share, gR_of kx (k := 0) rfl, ck_of k.1, Option.bind_some, p_numbered k.1 k.2.1 (fun i hi => (k.2.2 i hi).1) ha, p_numbered k.1 k.2.1 (fun i hi => (k.2.2 i hi).1) hb, z_tb]
  by_cases h1 : 0 ≤ a ∧ a < n
  · by_cases h2 : 0 ≤ b ∧ b < n
    · obtain ⟨i, rfl⟩ : ∃ i : Nat, a = i := ⟨a.toNat, by omega⟩
      obtain ⟨j, rfl⟩ : ∃ j : Nat, b = j := ⟨b.toNat, by omega⟩
      rw [if_pos h1, if_pos h2, if_pos ⟨h1, h2⟩]
      have hi : i < n := by omega
      have hj : j < n := by omega
      have hp := (k.2.2 i hi).1
      have hq := (k.2.2 j hj).1
      have o := (k.2.2 i hi).2
      have o' := (k.2.2 j hj).2
      unfold okA at o o'
      simp (disch := omega) only [Option.bind_some, Int.toNat_natCast, n_0, gI_of hp (k := 0) rfl, gI_of hp (k := 1) rfl, gI_of hp (k := 2) rfl, gI_of hp (k := 3) rfl, gI_of hp (k := 6) rfl, gI_of hq (k := 0) rfl, gI_of hq (k := 1) rfl, gI_of hq (k := 2) rfl, gI_of hq (k := 3) rfl, gI_of hq (k := 6) rfl, jn0, zi_add, zi_lt, zi_eq, zi_ite, zi_sub, zi_mul]
      have r1 : ∃ R, (if A j 0 + A j 2 < A i 0 + A i 2 then A j 0 + A j 2 else A i 0 + A i 2) = R ∧ R ≤ A i 0 + A i 2 ∧ R ≤ A j 0 + A j 2 ∧ (R = A i 0 + A i 2 ∨ R = A j 0 + A j 2) := ⟨_, rfl, by split <;> omega, by split <;> omega, by split <;> omega⟩
      have r2 : ∃ R, (if A j 1 + A j 3 < A i 1 + A i 3 then A j 1 + A j 3 else A i 1 + A i 3) = R ∧ R ≤ A i 1 + A i 3 ∧ R ≤ A j 1 + A j 3 ∧ (R = A i 1 + A i 3 ∨ R = A j 1 + A j 3) := ⟨_, rfl, by split <;> omega, by split <;> omega, by split <;> omega⟩
      have r3 : ∃ R, (if A i 0 < A j 0 then A j 0 else A i 0) = R ∧ A i 0 ≤ R ∧ A j 0 ≤ R ∧ (R = A i 0 ∨ R = A j 0) := ⟨_, rfl, by split <;> omega, by split <;> omega, by split <;> omega⟩
      have r4 : ∃ R, (if A i 1 < A j 1 then A j 1 else A i 1) = R ∧ A i 1 ≤ R ∧ A j 1 ≤ R ∧ (R = A i 1 ∨ R = A j 1) := ⟨_, rfl, by split <;> omega, by split <;> omega, by split <;> omega⟩
      obtain ⟨R1, e1, r1⟩ := r1
      obtain ⟨R2, e2, r2⟩ := r2
      obtain ⟨R3, e3, r3⟩ := r3
      obtain ⟨R4, e4, r4⟩ := r4
      rw [e1, e2, e3, e4]
      clear e1 e2 e3 e4
      simp (disch := omega) only [zi_le]
      by_cases q1 : A i 6 = 0
      · rw [if_pos q1, shr_0 fun x y h => by have := cv_iff.mp h.1; omega]
      rw [if_neg q1]
      by_cases q2 : A j 6 = 0
      · rw [if_pos q2, shr_0 fun x y h => by have := cv_iff.mp h.2; omega]
      rw [if_neg q2]
      by_cases q3 : R1 - R3 ≤ 0
      · rw [if_pos q3, shr_0 fun x y h => by have := cv_iff.mp h.1; have := cv_iff.mp h.2; omega]
      rw [if_neg q3]
      by_cases q4 : R2 - R4 ≤ 0
      · rw [if_pos q4, shr_0 fun x y h => by have := cv_iff.mp h.1; have := cv_iff.mp h.2; omega]
      rw [if_neg q4, shr_box (X := R3.toNat) (Y := R4.toNat) (W := (R1 - R3).toNat) (V := (R2 - R4).toNat) (by omega) (by omega) fun x y => by rw [cv_iff, cv_iff]; omega]
      rw [Int.toNat_of_nonneg (by omega), Int.toNat_of_nonneg (by omega)]
    · rw [if_pos h1, if_neg h2, if_neg (c := (0 ≤ a ∧ a < (n : Int)) ∧ 0 ≤ b ∧ b < (n : Int)) (fun h => h2 h.2)]
      rfl
  · rw [if_neg h1, if_neg (c := (0 ≤ a ∧ a < (n : Int)) ∧ 0 ≤ b ∧ b < (n : Int)) (fun h => h1 h.1)]
    rfl
