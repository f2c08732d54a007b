/-! what is asked: cord, cell, about -/
abbrev sIO : String := "java/lang/IndexOutOfBoundsException"
def kX (h : zH) (x c s sl g : Nat) (hr gd go : Int32) : Prop := h x = some (zO 5 [.ref c, .ref s, .ref sl, .ref g, .int hr, .int gd, .int go])
def kG (h : zH) (g : Nat) (G : Nat → Nat → Int32) : Prop := h g = some (cA 576 fun p => G (p % 24) (p / 24))
def kGm (h : zH) (m : Nat) (G : Nat → Nat → Int32) : Prop := h (m + 4) = some (cA 576 fun p => G (p / 24) (p % 24))
theorem p_what {w : Int} (hw : -2147483648 ≤ w ∧ w < 2147483648) {l : Int} (hl : 0 ≤ l ∧ l < 100) : M_X4_requireWhat (zi w) (zi l) = some (if 0 ≤ w ∧ w ≤ l then .inr () else .inl sIO) := by
  simp (disch := omega) only [M_X4_requireWhat, n_0, zi_lt, zi_le, zi_eq]
  by_cases h1 : w < 0
  · rw [if_pos h1, if_neg (by omega)]
  · rw [if_neg h1]
    by_cases h2 : w ≤ l
    · rw [if_pos h2, if_pos (by omega)]
    · rw [if_neg h2, if_neg (by omega)]
theorem zi_q {w : Int} (hw : -2147483648 ≤ w ∧ w < 2147483648) (k : Int) (hk : -1000 ≤ k ∧ k ≤ 1000) : (zi w = zi k) = (w = k) := zi_eq (by omega) (by omega) (by omega) (by omega)
theorem p_X4cord {h : zH} {x c s sl g : Nat} {hr gd go qd mc : Int32} {ea n : Nat} {P : Nat → Nat} {A : Nat → Nat → Int} {D : Nat → Int32} (kx : kX h x c s sl g hr gd go) (k : kW h c qd mc ea n P A D) (hl : kLy h c n A)
    {a w : Int} (ha : -2147483648 ≤ a ∧ a < 2147483648) (hw : -2147483648 ≤ w ∧ w < 2147483648) :
    M_X4_cord h x (zi a) (zi w) = some (if 0 ≤ a ∧ a < 24 ∧ 0 ≤ w ∧ w ≤ 3 then .inr (zi (cordS A n a w)) else .inl sIO) := by
  have hn := k.2.1.2.1
  have ho : ∀ i, i < n → okA (A i) := fun i hi => (k.2.2 i hi).2
  simp (disch := omega) only [M_X4_cord, n_0, n_24, n_3, zi_lt, zi_le, zi_eq, p_what hw, z_tb, Option.bind_some]
  by_cases h1 : 0 ≤ a ∧ a < 24
  · rw [if_neg (by omega), if_pos (by omega)]
    by_cases h2 : 0 ≤ w ∧ w ≤ 3
    · rw [if_pos h2, if_pos (c := 0 ≤ a ∧ a < 24 ∧ 0 ≤ w ∧ w ≤ 3) ⟨h1.1, h1.2, h2⟩]
      simp only [gR_of kx (k := 0) rfl, ck_of k.1, Option.bind_some, p_column hn k.1 hl ho (x := a) (by omega), p_runs hn k.1 hl ho (x := a) (by omega), p_clongest hn k.1 hl ho (x := a) (by omega), p_most hn k.1 hl ho (x := a) (by omega), n_1, n_2, zi_q hw 1 (by omega), zi_q hw 2 (by omega)]
      unfold cordS
      by_cases q0 : w = 0
      · rw [if_pos q0, if_pos q0]
      by_cases q1 : w = 1
      · rw [if_neg q0, if_neg q0, if_pos q1, if_pos q1]
      by_cases q2 : w = 2
      · rw [if_neg q0, if_neg q0, if_neg q1, if_neg q1, if_pos q2, if_pos q2]
      · rw [if_neg q0, if_neg q0, if_neg q1, if_neg q1, if_neg q2, if_neg q2]
    · rw [if_neg h2, if_neg (c := 0 ≤ a ∧ a < 24 ∧ 0 ≤ w ∧ w ≤ 3) (fun h => h2 h.2.2)]
  · rw [if_neg (c := 0 ≤ a ∧ a < 24 ∧ 0 ≤ w ∧ w ≤ 3) (fun h => h1 ⟨h.1, h.2.1⟩)]
    by_cases h3 : a < 0
    · rw [if_pos h3]
    · rw [if_neg h3, if_neg (by omega)]
def hT (h : zH) (m : Nat) (t : Int32) (n sn : Nat) (hr ro : Int32) : zH := z_up h m (zO 6 [.int t, .int (zi n), .ref (m + 1), .int (zi sn), .ref (m + 2), .ref (m + 3), .ref (m + 4), .int hr, .int ro, .ref (m + 5), .ref (m + 6)])
theorem kM_hT (h : zH) (m : Nat) (t : Int32) (n sn : Nat) (hr ro : Int32) : kM (hT h m t n sn hr ro) m t n sn hr ro := up_at ..
theorem hT_ne {h : zH} {m q : Nat} {t : Int32} {n sn : Nat} {hr ro : Int32} (e : q ≠ m) : hT h m t n sn hr ro q = h q := up_ne e
theorem kSh_hT {h : zH} {m n sn n' : Nat} {t hr ro : Int32} {A : Nat → Nat → Int} {D : Nat → Int32} (ks : kSh h m n' A D) : kSh (hT h m t n sn hr ro) m n' A D := by
  obtain ⟨hn, f, h1, h2⟩ := ks
  exact ⟨hn, f, (up_ne (by omega)).trans h1, h2⟩
theorem p_setTh {h : zH} {m n sn : Nat} {th hr ro : Int32} (km : kM h m th n sn hr ro) (t : Int32) : z_pV h m 6 0 (.int t) = some (hT h m t n sn hr ro) := by
  rw [pV_of km (k := 0) (by simp)]
  rfl
theorem hT_hT (h : zH) (m : Nat) (t t' : Int32) (n sn n' sn' : Nat) (hr ro hr' ro' : Int32) : hT (hT h m t n sn hr ro) m t' n' sn' hr' ro' = hT h m t' n' sn' hr' ro' := up_up ..
theorem p_no {h : zH} {m n sn : Nat} {th hr ro : Int32} (km : kM h m th n sn hr ro) (t : Int32) : M_X5_no h m t = some (0, hT h m t n sn hr ro) := by
  simp only [M_X5_no, p_setTh km, Option.bind_some]
theorem p_X5cord {h : zH} {m n sn : Nat} {th hr ro : Int32} {A : Nat → Nat → Int} {D : Nat → Int32} (km : kM h m th n sn hr ro) (ks : kSh h m n A D)
    {a w : Int} (ha : -2147483648 ≤ a ∧ a < 2147483648) (hw : -2147483648 ≤ w ∧ w < 2147483648) :
    M_X5_cord h m (zi a) (zi w) = some (if 0 ≤ a ∧ a < 24 ∧ 0 ≤ w ∧ w ≤ 3 then (zi (cordS A n a w), hT h m 0 n sn hr ro) else (0, hT h m 1 n sn hr ro)) := by
  have k1 := kM_hT h m 0 n sn hr ro
  have i23 : M_X5_isIn (zi a) 0 23 = some (zi (b1 (decide (0 ≤ a ∧ a ≤ 23)))) := by
    rw [n_0, n_23]; exact p_isIn (by omega) (by omega) (by omega)
  have i3 : M_X5_isIn (zi w) 0 3 = some (zi (b1 (decide (0 ≤ w ∧ w ≤ 3)))) := by
    rw [n_0, n_3]; exact p_isIn (by omega) (by omega) (by omega)
  simp only [M_X5_cord, p_setTh km, Option.bind_some, i23, i3, jn0, b1_0, ck_of k1, p_no k1, hT_hT]
  by_cases h1 : 0 ≤ a ∧ a < 24
  · rw [if_neg (by omega)]
    by_cases h2 : 0 ≤ w ∧ w ≤ 3
    · rw [if_neg (by omega), if_pos ⟨h1.1, h1.2, h2⟩, p_cordTold k1 (kSh_hT ks) (by omega) h2]
      rfl
    · rw [if_pos (by omega), if_neg (fun h => h2 h.2.2)]
  · rw [if_pos (by omega), if_neg (fun h => h1 ⟨h.1, h.2.1⟩)]
