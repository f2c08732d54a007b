/-! what other operations lacked -/
abbrev sIA : String := "java/lang/IllegalArgumentException"
theorem p_extent {w v : Int} (hw : -2147483648 ≤ w ∧ w < 2147483648) (hv : -2147483648 ≤ v ∧ v < 2147483648) : M_X4_requireExtent (zi w) (zi v) = some (if 1 ≤ w ∧ w ≤ 24 ∧ 1 ≤ v ∧ v ≤ 24 then .inr () else .inl sIA) := by
  simp (disch := omega) only [M_X4_requireExtent, n_1, n_24, zi_lt, zi_le, zi_eq]
  by_cases h1 : w < 1
  · rw [if_pos h1, if_neg (by omega)]
  rw [if_neg h1]
  by_cases h2 : 24 < w
  · rw [if_pos h2, if_neg (by omega)]
  rw [if_neg h2]
  by_cases h3 : v < 1
  · rw [if_pos h3, if_neg (by omega)]
  rw [if_neg h3]
  by_cases h4 : v ≤ 24
  · rw [if_pos h4, if_pos (by omega)]
  · rw [if_neg h4, if_neg (by omega)]
theorem p_drops {d : Int} (hd : -2147483648 ≤ d ∧ d < 2147483648) : M_X4_requireDrops (zi d) = some (if 1 ≤ d ∧ d ≤ 20 then .inr () else .inl sIA) := by
  simp (disch := omega) only [M_X4_requireDrops, n_1, n_20, zi_lt, zi_le, zi_eq]
  by_cases h1 : d < 1
  · rw [if_pos h1, if_neg (by omega)]
  · rw [if_neg h1]
    by_cases h2 : d ≤ 20
    · rw [if_pos h2, if_pos (by omega)]
    · rw [if_neg h2, if_neg (by omega)]
theorem p_fallenAt {s c : Nat} {σ : zS} {h : zH} {x y : Int} (hi : 0 ≤ x ∧ x < 24 ∧ 0 ≤ y ∧ y < 24) : M_X2_fallenAt (hS s c σ h) s (zi x) (zi y) = some (zi (σ.1 x.toNat y.toNat)) := by
  have hc : M_X4_isCell (zi x) (zi y) = some 1 := by rw [p_isCell (by omega) (by omega), if_pos hi]
  simp only [M_X2_fallenAt, hc, Option.bind_some]
  rw [if_neg (by decide), gR_of (hS_0 s c σ h) (k := 1) rfl, Option.bind_some, n_24, zi_mul, zi_add, cI_of (hS_1 s c σ h) (by omega) (by omega) (by omega), show (y * 24 + x).toNat % 24 = x.toNat from by omega, show (y * 24 + x).toNat / 24 = y.toNat from by omega]
  rfl
def adS2 (S : Nat → Nat → Int) (sn : Nat) (a b : Int) : Nat → Nat → Int := fun i k => if i = sn then (if k = 0 then a else b) else S i k
def adB (B : Nat → Int32) (sn : Nat) (v : Int32) : Nat → Int32 := fun i => if i = sn then v else B i
theorem up_cm {h : zH} {a b : Nat} {x y : zC} (e : a ≠ b) : z_up (z_up h a x) b y = z_up (z_up h b y) a x := by
  funext q
  unfold z_up
  by_cases h1 : q = b
  · rw [if_pos h1, if_neg (by omega), if_pos h1]
  · rw [if_neg h1, if_neg h1]
