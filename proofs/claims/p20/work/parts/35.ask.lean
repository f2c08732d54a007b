/-! what is asked: cord, cell, about -/
abbrev sIO : String := "java/lang/IndexOutOfBoundsException"
def kX (h : zH) (x c s sl g : Nat) (hr gd go : Int32) : Prop := h x = some (zO 5 [.ref c, .ref s, .ref sl, .ref g, .int hr, .int gd, .int go])
def kG (h : zH) (g : Nat) (G : Nat → Nat → Int32) : Prop := h g = some (cA 576 fun p => G (p % 24) (p / 24))
theorem p_what {w : Int} (hw : -2147483648 ≤ w ∧ w < 2147483648) {l : Int} (hl : 0 ≤ l ∧ l < 100) : M_X4_requireWhat (zi w) (zi l) = some (if 0 ≤ w ∧ w ≤ l then .inr () else .inl sIO) := by
  simp (disch := omega) only [M_X4_requireWhat, n_0, zi_lt, zi_le, zi_eq]
  by_cases h1 : w < 0
  · rw [if_pos h1, if_neg (by omega)]
  · rw [if_neg h1]
    by_cases h2 : w ≤ l
    · rw [if_pos h2, if_pos (by omega)]
    · rw [if_neg h2, if_neg (by omega)]
theorem zi_q {w : Int} (hw : -2147483648 ≤ w ∧ w < 2147483648) (k : Int) (hk : -1000 ≤ k ∧ k ≤ 1000) : (zi w = zi k) = (w = k) := zi_eq (by omega) (by omega) (by omega) (by omega)
theorem p_X4cord {h : zH} {x c s sl g : Nat} {hr gd go qd mc : Int32} {ea n : Nat} {P : Nat → Nat} {A : Nat → Nat → Int} {D : Nat → Int32} (kx : kX h x c s sl g hr gd go) (k : kW h c qd mc ea n P A D) (hl : kLy h c n A)
    {a w : Int} (ha : -2147483648 ≤ a ∧ a < 2147483648) (hw : -2147483648 ≤ w ∧ w < 2147483648) :
    M_X4_cord h x (zi a) (zi w) = some (if 0 ≤ a ∧ a < 24 ∧ 0 ≤ w ∧ w ≤ 3 then .inr (zi (cordS A n a w)) else .inl sIO) := by
  have hn := k.2.1.2.1
  have ho : ∀ i, i < n → okA (A i) := fun i hi => (k.2.2 i hi).2
  simp (disch := omega) only [M_X4_cord, n_0, n_24, n_3, zi_lt, zi_le, zi_eq, p_what hw, z_tb, Option.bind_some]
  by_cases h1 : 0 ≤ a ∧ a < 24
  · rw [if_neg (by omega), if_pos (by omega)]
    by_cases h2 : 0 ≤ w ∧ w ≤ 3
    · rw [if_pos h2, if_pos (c := 0 ≤ a ∧ a < 24 ∧ 0 ≤ w ∧ w ≤ 3) ⟨h1.1, h1.2, h2⟩]
      simp only [gR_of kx (k := 0) rfl, ck_of k.1, Option.bind_some, p_column hn k.1 hl ho (x := a) (by omega), p_runs hn k.1 hl ho (x := a) (by omega), p_clongest hn k.1 hl ho (x := a) (by omega), p_most hn k.1 hl ho (x := a) (by omega), n_1, n_2, zi_q hw 1 (by omega), zi_q hw 2 (by omega)]
      unfold cordS
      by_cases q0 : w = 0
      · rw [if_pos q0, if_pos q0]
      by_cases q1 : w = 1
      · rw [if_neg q0, if_neg q0, if_pos q1, if_pos q1]
      by_cases q2 : w = 2
      · rw [if_neg q0, if_neg q0, if_neg q1, if_neg q1, if_pos q2, if_pos q2]
      · rw [if_neg q0, if_neg q0, if_neg q1, if_neg q1, if_neg q2, if_neg q2]
    · rw [if_neg h2, if_neg (c := 0 ≤ a ∧ a < 24 ∧ 0 ≤ w ∧ w ≤ 3) (fun h => h2 h.2.2)]
  · rw [if_neg (c := 0 ≤ a ∧ a < 24 ∧ 0 ≤ w ∧ w ≤ 3) (fun h => h1 ⟨h.1, h.2.1⟩)]
    by_cases h3 : a < 0
    · rw [if_pos h3]
    · rw [if_neg h3, if_neg (by omega)]
