/-! cell and about -/
def cellS (A : Nat → Nat → Int) (n : Nat) (G : Nat → Nat → Int32) (x y w : Int) : Int32 := if w = 0 then zi (lay A n x y) else if w = 1 then zi (hbS A 10 x y n).1 else G x.toNat y.toNat
theorem p_reqCell {x y : Int} (hx : -2147483648 ≤ x ∧ x < 2147483648) (hy : -2147483648 ≤ y ∧ y < 2147483648) : M_X4_requireCell (zi x) (zi y) = some (if 0 ≤ x ∧ x < 24 ∧ 0 ≤ y ∧ y < 24 then .inr () else .inl sIO) := by
  rw [M_X4_requireCell, p_isCell hx hy, Option.bind_some]
  by_cases h : 0 ≤ x ∧ x < 24 ∧ 0 ≤ y ∧ y < 24
  · rw [if_pos h, if_neg (by decide), if_pos h]
  · rw [if_neg h, if_pos rfl, if_neg h]
theorem p_ground {h : zH} {x c s sl g : Nat} {hr gd go : Int32} {G : Nat → Nat → Int32} (kx : kX h x c s sl g hr gd go) (kg : kG h g G) {a b : Int} (hi : 0 ≤ a ∧ a < 24 ∧ 0 ≤ b ∧ b < 24) : M_X4_groundAt h x (zi a) (zi b) = some (G a.toNat b.toNat) := by
  have hc : M_X4_isCell (zi a) (zi b) = some 1 := by rw [p_isCell (by omega) (by omega), if_pos hi]
  simp only [M_X4_groundAt, hc, Option.bind_some]
  rw [if_neg (by decide), gR_of kx (k := 3) rfl, Option.bind_some, n_24, zi_mul, zi_add, cI_of kg (by omega) (by omega) (by omega), show (b * 24 + a).toNat % 24 = a.toNat from by omega, show (b * 24 + a).toNat / 24 = b.toNat from by omega]
  rfl
theorem p_X4cell {h : zH} {x c s sl g : Nat} {hr gd go qd mc : Int32} {ea n : Nat} {P : Nat → Nat} {A : Nat → Nat → Int} {D : Nat → Int32} {G : Nat → Nat → Int32} (kx : kX h x c s sl g hr gd go) (k : kW h c qd mc ea n P A D) (hl : kLy h c n A) (kg : kG h g G)
    {a b w : Int} (ha : -2147483648 ≤ a ∧ a < 2147483648) (hb : -2147483648 ≤ b ∧ b < 2147483648) (hw : -2147483648 ≤ w ∧ w < 2147483648) :
    M_X4_cell h x (zi a) (zi b) (zi w) = some (if (0 ≤ a ∧ a < 24 ∧ 0 ≤ b ∧ b < 24) ∧ 0 ≤ w ∧ w ≤ 2 then .inr (cellS A n G a b w) else .inl sIO) := by
  have ho : ∀ i, i < n → okA (A i) := fun i hi => (k.2.2 i hi).2
  simp only [M_X4_cell, p_reqCell ha hb, n_0, n_1, n_2, n_10, p_what hw (l := 2) (by omega), z_tb, Option.bind_some, zi_q hw 0 (by omega), zi_q hw 1 (by omega)]
  by_cases h1 : 0 ≤ a ∧ a < 24 ∧ 0 ≤ b ∧ b < 24
  · by_cases h2 : 0 ≤ w ∧ w ≤ 2
    · rw [if_pos h1, if_pos h2, if_pos (c := _ ∧ 0 ≤ w ∧ w ≤ 2) ⟨h1, h2⟩]
      simp only [gR_of kx (k := 0) rfl, ck_of k.1, ck_of kx, Option.bind_some, p_at k.1 hl (x := a) (y := b) (by omega) (by omega) ho, p_highest k.1 k.2.1 k.2.2 (l := 10) (x := a) (y := b) (by omega) (by omega) (by omega), p_ground kx kg h1]
      unfold cellS
      by_cases q0 : w = 0
      · rw [if_pos q0, if_pos q0]
      by_cases q1 : w = 1
      · rw [if_neg q0, if_neg q0, if_pos q1, if_pos q1]
      · rw [if_neg q0, if_neg q0, if_neg q1, if_neg q1]
    · rw [if_pos h1, if_neg h2, if_neg (c := _ ∧ 0 ≤ w ∧ w ≤ 2) (fun h => h2 h.2)]
  · rw [if_neg h1, if_neg (c := _ ∧ 0 ≤ w ∧ w ≤ 2) (fun h => h1 h.1)]
def aboutS (A : Nat → Nat → Int) (n : Nat) (D : Nat → Int32) (a : Nat) (w : Int) : Int32 := if w = 7 then zi (ownS A n a) else if w = 8 then D a else zi (A a w.toNat)
theorem p_X4about {h : zH} {x c s sl g : Nat} {hr gd go qd mc : Int32} {ea n : Nat} {P : Nat → Nat} {A : Nat → Nat → Int} {D : Nat → Int32} (kx : kX h x c s sl g hr gd go) (k : kW h c qd mc ea n P A D) (hl : kLy h c n A)
    {a w : Int} (ha : -2147483648 ≤ a ∧ a < 2147483648) (hw : -2147483648 ≤ w ∧ w < 2147483648) :
    M_X4_about h x (zi a) (zi w) = some (if (0 ≤ a ∧ a < n) ∧ 0 ≤ w ∧ w ≤ 8 then .inr (aboutS A n D a.toNat w) else .inl sIO) := by
  simp only [M_X4_about, gR_of kx (k := 0) rfl, ck_of k.1, Option.bind_some, p_numbered k.1 k.2.1 (fun i hi => (k.2.2 i hi).1) ha, z_tb]
  by_cases h1 : 0 ≤ a ∧ a < n
  · obtain ⟨i, rfl⟩ : ∃ i : Nat, a = i := ⟨a.toNat, by omega⟩
    rw [if_pos h1]
    have hi : i < n := by omega
    have hp := (k.2.2 i hi).1
    have o := (k.2.2 i hi).2
    unfold okA at o
    have h6 : (zi (A i 6) = zi 0) = (A i 6 = 0) := zi_eq (by omega) (by omega) (by omega) (by omega)
    simp only [Option.bind_some, Int.toNat_natCast, n_0, n_1, n_2, n_3, n_4, n_5, n_6, n_7, n_8, p_what hw (l := 8) (by omega), zi_q hw 0 (by omega), zi_q hw 1 (by omega), zi_q hw 2 (by omega), zi_q hw 3 (by omega), zi_q hw 4 (by omega), zi_q hw 5 (by omega), zi_q hw 6 (by omega), zi_q hw 7 (by omega),
      gI_of hp (k := 0) rfl, gI_of hp (k := 1) rfl, gI_of hp (k := 2) rfl, gI_of hp (k := 3) rfl, gI_of hp (k := 4) rfl, gI_of hp (k := 5) rfl, gI_of hp (k := 6) rfl, gI_of hp (k := 7) rfl, p_only k hl hi, h6]
    by_cases h2 : 0 ≤ w ∧ w ≤ 8
    · rw [if_pos h2, if_pos (c := _ ∧ 0 ≤ w ∧ w ≤ 8) ⟨h1, h2⟩]
      simp only
      obtain ⟨v, rfl⟩ : ∃ v : Nat, w = v := ⟨w.toNat, by omega⟩
      have hv : v = 0 ∨ v = 1 ∨ v = 2 ∨ v = 3 ∨ v = 4 ∨ v = 5 ∨ v = 6 ∨ v = 7 ∨ v = 8 := by omega
      rcases hv with rfl | rfl | rfl | rfl | rfl | rfl | rfl | rfl | rfl
      case inr.inr.inr.inr.inr.inr.inl =>
        have h7 : A i 6 = 0 ∨ A i 6 = 1 := by omega
        rcases h7 with h7 | h7 <;> simp [aboutS, h7]
      all_goals simp [aboutS]
    · rw [if_neg h2, if_neg (c := _ ∧ 0 ≤ w ∧ w ≤ 8) (fun h => h2 h.2)]
  · rw [if_neg h1, if_neg (c := _ ∧ 0 ≤ w ∧ w ≤ 8) (fun h => h1 h.1)]
    rfl
