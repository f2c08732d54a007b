/-! the reference: its sheet, and the order in which awnings lie -/
def kM (h : zH) (m : Nat) (th : Int32) (n sn : Nat) (hr ro : Int32) : Prop := h m = some (zO 6 [.int th, .int (zi n), .ref (m + 1), .int (zi sn), .ref (m + 2), .ref (m + 3), .ref (m + 4), .int hr, .int ro, .ref (m + 5), .ref (m + 6)])
def kSh (h : zH) (m n : Nat) (A : Nat → Nat → Int) (D : Nat → Int32) : Prop := n ≤ 10 ∧ ∃ f, h (m + 1) = some (cA 80 f) ∧ ∀ i, i < n → okA (A i) ∧ (∀ k, k < 7 → f (8 * i + k) = zi (A i k)) ∧ f (8 * i + 7) = D i
theorem p_of {h : zH} {m n sn : Nat} {th hr ro : Int32} {A : Nat → Nat → Int} {D : Nat → Int32} (km : kM h m th n sn hr ro) (ks : kSh h m n A D) {i k : Nat} (hi : i < n) (hk : k < 8) : M_X5_of h m (zi i) (zi k) = some (if k < 7 then zi (A i k) else D i) := by
  obtain ⟨hn, f, h1, h2⟩ := ks
  obtain ⟨h3, h4, h5⟩ := h2 i hi
  simp only [M_X5_of, gR_of km (k := 2) rfl, Option.bind_some, n_8, zi_mul, zi_add]
  rw [cI_of h1 (by omega) (by omega) (by omega), Option.bind_some, show (8 * (i : Int) + k).toNat = 8 * i + k from by omega]
  by_cases h6 : k < 7
  · rw [if_pos h6, h4 k h6]
  · rw [if_neg h6, show k = 7 from by omega, h5]
theorem p_of0 {h : zH} {m n sn : Nat} {th hr ro : Int32} {A : Nat → Nat → Int} {D : Nat → Int32} (km : kM h m th n sn hr ro) (ks : kSh h m n A D) {i : Nat} (hi : i < n) : M_X5_of h m (zi i) 0 = some (zi (A i 0)) :=
  (p_of km ks hi (k := 0) (by omega)).trans (congrArg some (if_pos (by omega)))
theorem p_of1 {h : zH} {m n sn : Nat} {th hr ro : Int32} {A : Nat → Nat → Int} {D : Nat → Int32} (km : kM h m th n sn hr ro) (ks : kSh h m n A D) {i : Nat} (hi : i < n) : M_X5_of h m (zi i) 1 = some (zi (A i 1)) :=
  (p_of km ks hi (k := 1) (by omega)).trans (congrArg some (if_pos (by omega)))
theorem p_of2 {h : zH} {m n sn : Nat} {th hr ro : Int32} {A : Nat → Nat → Int} {D : Nat → Int32} (km : kM h m th n sn hr ro) (ks : kSh h m n A D) {i : Nat} (hi : i < n) : M_X5_of h m (zi i) 2 = some (zi (A i 2)) :=
  (p_of km ks hi (k := 2) (by omega)).trans (congrArg some (if_pos (by omega)))
theorem p_of3 {h : zH} {m n sn : Nat} {th hr ro : Int32} {A : Nat → Nat → Int} {D : Nat → Int32} (km : kM h m th n sn hr ro) (ks : kSh h m n A D) {i : Nat} (hi : i < n) : M_X5_of h m (zi i) 3 = some (zi (A i 3)) :=
  (p_of km ks hi (k := 3) (by omega)).trans (congrArg some (if_pos (by omega)))
theorem p_of4 {h : zH} {m n sn : Nat} {th hr ro : Int32} {A : Nat → Nat → Int} {D : Nat → Int32} (km : kM h m th n sn hr ro) (ks : kSh h m n A D) {i : Nat} (hi : i < n) : M_X5_of h m (zi i) 4 = some (zi (A i 4)) :=
  (p_of km ks hi (k := 4) (by omega)).trans (congrArg some (if_pos (by omega)))
theorem p_of5 {h : zH} {m n sn : Nat} {th hr ro : Int32} {A : Nat → Nat → Int} {D : Nat → Int32} (km : kM h m th n sn hr ro) (ks : kSh h m n A D) {i : Nat} (hi : i < n) : M_X5_of h m (zi i) 5 = some (zi (A i 5)) :=
  (p_of km ks hi (k := 5) (by omega)).trans (congrArg some (if_pos (by omega)))
theorem p_of6 {h : zH} {m n sn : Nat} {th hr ro : Int32} {A : Nat → Nat → Int} {D : Nat → Int32} (km : kM h m th n sn hr ro) (ks : kSh h m n A D) {i : Nat} (hi : i < n) : M_X5_of h m (zi i) 6 = some (zi (A i 6)) :=
  (p_of km ks hi (k := 6) (by omega)).trans (congrArg some (if_pos (by omega)))
theorem p_of7 {h : zH} {m n sn : Nat} {th hr ro : Int32} {A : Nat → Nat → Int} {D : Nat → Int32} (km : kM h m th n sn hr ro) (ks : kSh h m n A D) {i : Nat} (hi : i < n) : M_X5_of h m (zi i) 7 = some (D i) :=
  (p_of km ks hi (k := 7) (by omega)).trans (congrArg some (if_neg (by omega)))
theorem p_isOut {h : zH} {m n sn : Nat} {th hr ro : Int32} {A : Nat → Nat → Int} {D : Nat → Int32} (km : kM h m th n sn hr ro) (ks : kSh h m n A D) {i : Nat} (hi : i < n) : M_X5_isOut h m (zi i) = some (zi (b1 (decide (A i 6 = 1)))) := by
  obtain ⟨-, f, -, h2⟩ := id ks
  have o := (h2 i hi).1
  unfold okA at o
  simp (disch := omega) only [M_X5_isOut, ck_of km, Option.bind_some, p_of6 km ks hi, n_1, zi_eq]
  by_cases h1 : A i 6 = 1
  · rw [if_pos h1, decide_eq_true h1]; rfl
  · rw [if_neg h1, decide_eq_false h1]; rfl
theorem p_isIn {x a b : Int} (hx : -2147483648 ≤ x ∧ x < 2147483648) (ha : -2147483648 ≤ a ∧ a < 2147483648) (hb : -2147483648 ≤ b ∧ b < 2147483648) : M_X5_isIn (zi x) (zi a) (zi b) = some (zi (b1 (decide (a ≤ x ∧ x ≤ b)))) := by
  simp (disch := omega) only [M_X5_isIn, jn0, zi_lt, zi_le, zi_eq]
  by_cases h1 : x < a
  · rw [if_pos h1, decide_eq_false (by omega)]; rfl
  · rw [if_neg h1]
    by_cases h2 : b < x
    · rw [if_pos h2, decide_eq_false (by omega)]; rfl
    · rw [if_neg h2, decide_eq_true (by omega)]; rfl
theorem b1_0 (p : Prop) [Decidable p] : (zi (b1 (decide p)) = 0) = ¬p := by
  by_cases h : p
  · rw [decide_eq_true h]; simp only [h, not_true, b1, if_true]; exact eq_false (by decide)
  · rw [decide_eq_false h]; simp only [h, not_false_eq_true, b1, Bool.false_eq_true, if_false]; exact eq_true rfl
theorem p_bits {h : zH} {m n sn : Nat} {th hr ro : Int32} {A : Nat → Nat → Int} {D : Nat → Int32} (km : kM h m th n sn hr ro) (ks : kSh h m n A D) {i : Nat} (hi : i < n) {x : Int} (hx : -100 ≤ x ∧ x ≤ 100) : M_X5_bits h m (zi i) (zi x) = some (mk fun j => cv (A i) x j) := by
  obtain ⟨-, f, -, h2⟩ := id ks
  have o := (h2 i hi).1
  unfold okA at o
  have e1 : M_X5_of h m (zi i) (zi 1) = some (zi (A i 1)) := p_of1 km ks hi
  simp (disch := omega) only [M_X5_bits, ck_of km, ob_some, Option.bind_none, jn0_e, jn1_e, jn2_e, jn3_e, jn4_e, jn5_e, p_isOut km ks hi, b1_0, p_of0 km ks hi, e1, p_of2 km ks hi, p_of3 km ks hi, n_1, zi_add, zi_sub, p_isIn, p_rows]
  by_cases h1 : A i 6 = 1
  · rw [if_neg (by omega)]
    by_cases h3 : A i 0 ≤ x ∧ x ≤ A i 0 + A i 2 - 1
    · rw [if_neg (by omega)]
      refine congrArg some (mk_congr fun j hj => ?_)
      rw [Bool.eq_iff_iff, decide_eq_true_iff]
      unfold cv
      rw [decide_eq_true_iff]
      omega
    · rw [if_pos (by omega), mk_0]
      refine congrArg some (mk_congr fun j hj => ?_)
      rw [cv_f (by omega)]
  · rw [if_pos (by omega), mk_0]
    refine congrArg some (mk_congr fun j hj => ?_)
    rw [cv_f (by omega)]
abbrev hgh (A : Nat → Nat → Int) (i j : Nat) : Prop := A j 4 < A i 4 ∨ (A i 4 = A j 4 ∧ i < j)
theorem p_isHigher {h : zH} {m n sn : Nat} {th hr ro : Int32} {A : Nat → Nat → Int} {D : Nat → Int32} (km : kM h m th n sn hr ro) (ks : kSh h m n A D) {i j : Nat} (hi : i < n) (hj : j < n) : M_X5_isHigher h m (zi i) (zi j) = some (zi (b1 (decide (hgh A i j)))) := by
  obtain ⟨hn, f, -, h2⟩ := id ks
  have o := (h2 i hi).1
  have o' := (h2 j hj).1
  unfold okA at o o'
  simp (disch := omega) only [M_X5_isHigher, ck_of km, ob_some, Option.bind_none, jn0_e, jn1_e, jn2_e, jn3_e, jn4_e, jn5_e, p_of4 km ks hi, p_of4 km ks hj, zi_lt, zi_le, zi_eq]
  by_cases h1 : A j 4 < A i 4
  · rw [if_pos h1, decide_eq_true (.inl h1)]; rfl
  · rw [if_neg h1]
    by_cases h3 : A i 4 = A j 4
    · rw [if_pos h3]
      by_cases h4 : i < j
      · rw [if_neg (by omega), decide_eq_true (.inr ⟨h3, h4⟩)]; rfl
      · rw [if_pos (by omega), decide_eq_false (by unfold hgh; omega)]; rfl
    · rw [if_neg h3, decide_eq_false (by unfold hgh; omega)]; rfl
/-! the highest of those that .. -/
def Hi (A : Nat → Nat → Int) (n : Nat) (P : Nat → Prop) (r : Int) : Prop := (r = -1 ∧ ∀ j, j < n → ¬P j) ∨ ∃ i : Nat, i < n ∧ r = i ∧ P i ∧ ∀ j, j < n → P j → j ≠ i → hgh A i j
theorem Hi_uniq {A : Nat → Nat → Int} {n : Nat} {P P' : Nat → Prop} {r r' : Int} (h : Hi A n P r) (h' : Hi A n P' r') (e : ∀ j, j < n → (P j ↔ P' j)) : r = r' := by
  rcases h with ⟨h1, h2⟩ | ⟨i, h1, h2, h3, h4⟩
  · rcases h' with ⟨g1, g2⟩ | ⟨j, g1, g2, g3, g4⟩
    · omega
    · exact absurd ((e j g1).mpr g3) (h2 j g1)
  · rcases h' with ⟨g1, g2⟩ | ⟨j, g1, g2, g3, g4⟩
    · exact absurd ((e i h1).mp h3) (g2 i h1)
    · by_cases hij : i = j
      · omega
      · have k1 := h4 j g1 ((e j g1).mpr g3) (by omega)
        have k2 := g4 i h1 ((e i h1).mp h3) (by omega)
        unfold hgh at k1 k2
        omega
theorem hbS_Hi {A : Nat → Nat → Int} {l x y : Int} (n : Nat) (ho : ∀ i, i < n → okA (A i)) : Hi A n (fun j => A j 4 < l ∧ cv (A j) x y = true) (hbS A l x y n).1 := by
  induction n with
  | zero => exact .inl ⟨rfl, fun j hj => by omega⟩
  | succ k ih =>
    have h1 := ih fun i hi => ho i (by omega)
    have o := ho k (by omega)
    unfold okA at o
    rw [hbS]
    split
    · rename_i h2
      refine .inr ⟨k, by omega, rfl, ⟨h2.1, h2.2.2⟩, fun j hj h3 h4 => ?_⟩
      have h5 : A j 4 ≤ (hbS A l x y k).2 := by
        rcases h1 with ⟨-, h6⟩ | ⟨i, g1, g2, g3, g4⟩
        · exact absurd h3 (h6 j (by omega))
        · rcases hbS_of A l x y k with ⟨h7, -⟩ | ⟨i', h7, h8, h9, -⟩
          · omega
          · have : i' = i := by omega
            subst this
            by_cases hji : j = i'
            · subst hji; omega
            · have := g4 j (by omega) h3 hji
              unfold hgh at this
              omega
      exact .inl (by omega)
    · rename_i h2
      rcases h1 with ⟨h6, h7⟩ | ⟨i, g1, g2, g3, g4⟩
      · refine .inl ⟨h6, fun j hj hp => ?_⟩
        by_cases hjk : j = k
        · subst hjk
          rcases hbS_of A l x y j with ⟨-, h8⟩ | ⟨i', -, h8, -⟩
          · exact h2 ⟨hp.1, by omega, hp.2⟩
          · omega
        · exact h7 j (by omega) hp
      · refine .inr ⟨i, by omega, g2, g3, fun j hj hp hji => ?_⟩
        by_cases hjk : j = k
        · subst hjk
          rcases hbS_of A l x y j with ⟨h8, -⟩ | ⟨i', h7, h8, h9, -⟩
          · omega
          · have : i' = i := by omega
            subst this
            have h10 : ¬ (hbS A l x y j).2 < A j 4 := fun h11 => h2 ⟨hp.1, h11, hp.2⟩
            unfold hgh
            omega
        · exact g4 j (by omega) hp hji
abbrev blP (A : Nat → Nat → Int) (a : Int) (j : Nat) : Prop := A j 6 = 1 ∧ (a = -1 ∨ hgh A a.toNat j)
def blS (A : Nat → Nat → Int) (a : Int) : Nat → Int
  | 0 => -1
  | k + 1 => if blP A a k ∧ (blS A a k = -1 ∨ hgh A k (blS A a k).toNat) then (k : Int) else blS A a k
theorem blS_Hi (A : Nat → Nat → Int) (a : Int) (n : Nat) : Hi A n (blP A a) (blS A a n) := by
  induction n with
  | zero => exact .inl ⟨rfl, fun j hj => by omega⟩
  | succ k ih =>
    rw [blS]
    split
    · rename_i h1
      refine .inr ⟨k, by omega, rfl, h1.1, fun j hj h3 h4 => ?_⟩
      rcases ih with ⟨g1, g2⟩ | ⟨i, g1, g2, g3, g4⟩
      · exact absurd h3 (g2 j (by omega))
      · have h5 : hgh A k i := by
          rcases h1.2 with h6 | h6
          · omega
          · rw [g2] at h6; exact h6
        by_cases hji : j = i
        · subst hji; exact h5
        · have := g4 j (by omega) h3 hji
          unfold hgh at this h5 ⊢
          omega
    · rename_i h1
      rcases ih with ⟨g1, g2⟩ | ⟨i, g1, g2, g3, g4⟩
      · refine .inl ⟨g1, fun j hj hp => ?_⟩
        by_cases hjk : j = k
        · subst hjk; exact h1 ⟨hp, .inl g1⟩
        · exact g2 j (by omega) hp
      · refine .inr ⟨i, by omega, g2, g3, fun j hj hp hji => ?_⟩
        by_cases hjk : j = k
        · subst hjk
          have h6 : ¬ hgh A j i := fun h7 => h1 ⟨hp, .inr (by rw [g2]; exact h7)⟩
          unfold hgh at h6 ⊢
          omega
        · exact g4 j (by omega) hp hji
theorem blS_bd (A : Nat → Nat → Int) (a : Int) (n : Nat) : -1 ≤ blS A a n ∧ blS A a n < n := by
  rcases blS_Hi A a n with ⟨h, -⟩ | ⟨i, h1, h2, -⟩ <;> omega
theorem bl_in {R : Type} {q c : Prop} [Decidable q] [Decidable c] {o : Option Int32} {K B : Option R} (h : ¬q → o = some (zi (b1 (decide c)))) : (if q then K else o.bind fun r => if r = 0 then B else K) = if q ∨ c then K else B := by
  by_cases h1 : q
  · rw [if_pos h1, if_pos (.inl h1)]
  · rw [if_neg h1, h h1]
    simp only [Option.bind_some, b1_0]
    by_cases h2 : c
    · rw [if_neg (fun h => h h2), if_pos (.inr h2)]
    · rw [if_pos h2, if_neg (fun h => h.elim h1 h2)]
theorem p_below {h : zH} {m n sn : Nat} {th hr ro : Int32} {A : Nat → Nat → Int} {D : Nat → Int32} (km : kM h m th n sn hr ro) (ks : kSh h m n A D) {a : Int} (ha : -1 ≤ a ∧ a < n) : M_X5_below h m (zi a) = some (zi (blS A a n)) := by
  have hn := ks.1
  unfold M_X5_below
  refine wl2_st (fun j => zi (blS A a j)) (fun j => zi (j : Int)) n rfl rfl ?_ ?_ 700 (by omega)
  · intro rec j hj
    have hb := blS_bd A a j
    simp (disch := omega) only [gI_of km (k := 1) rfl, ob_some, Option.bind_none, jn0_e, jn1_e, jn2_e, jn3_e, jn4_e, jn5_e, zi_lt, zi_le, zi_eq, ck_of km, p_isOut km ks hj, b1_0, n_m1, n_1, zi_neg, zi_add, Int.natCast_add, Int.natCast_one]
    rw [if_neg (by omega), blS]
    by_cases h1 : A j 6 = 1
    · rw [if_neg (by omega)]
      have h2 : ¬a = -1 → M_X5_isHigher h m (zi a) (zi j) = some (zi (b1 (decide (hgh A a.toNat j)))) := fun h3 => by
        obtain ⟨i, rfl⟩ : ∃ i : Nat, a = i := ⟨a.toNat, by omega⟩
        rw [p_isHigher km ks (by omega) hj, Int.toNat_natCast]
      have h4 : ¬blS A a j = -1 → M_X5_isHigher h m (zi j) (zi (blS A a j)) = some (zi (b1 (decide (hgh A j (blS A a j).toNat)))) := fun h3 => by
        obtain ⟨i, hi⟩ : ∃ i : Nat, blS A a j = i := ⟨(blS A a j).toNat, by omega⟩
        rw [hi, p_isHigher km ks hj (by omega), Int.toNat_natCast]
      rw [bl_in h4, bl_in h2]
      by_cases h5 : a = -1 ∨ hgh A a.toNat j
      · rw [if_pos h5]
        by_cases h7 : blS A a j = -1 ∨ hgh A j (blS A a j).toNat
        · rw [if_pos h7, if_pos (c := blP A a j ∧ _) ⟨⟨h1, h5⟩, h7⟩]
        · rw [if_neg h7, if_neg (c := blP A a j ∧ _) (fun h => h7 h.2)]
      · rw [if_neg h5, if_neg (c := blP A a j ∧ _) (fun h => h5 h.1.2)]
    · rw [if_pos (by omega), if_neg (c := blP A a j ∧ _) (fun h => h1 h.1.1)]
  · intro rec
    simp (disch := omega) only [gI_of km (k := 1) rfl, ob_some, Option.bind_none, jn0_e, jn1_e, jn2_e, jn3_e, jn4_e, jn5_e, zi_lt, zi_le, zi_eq]
    rw [if_pos (by omega)]
