/-! the reference: its sheet, and the order in which awnings lie -/
theorem b1_0 (p : Prop) [Decidable p] : (zi (b1 (decide p)) = 0) = ¬p := by
  by_cases h : p
  · rw [decide_eq_true h]; simp only [h, not_true, b1, if_true]; exact eq_false (by decide)
  · rw [decide_eq_false h]; simp only [h, not_false_eq_true, b1, Bool.false_eq_true, if_false]; exact eq_true rfl
abbrev hgh (A : Nat → Nat → Int) (i j : Nat) : Prop := A j 4 < A i 4 ∨ (A i 4 = A j 4 ∧ i < j)
/-! the highest of those that .. -/
def Hi (A : Nat → Nat → Int) (n : Nat) (P : Nat → Prop) (r : Int) : Prop := (r = -1 ∧ ∀ j, j < n → ¬P j) ∨ ∃ i : Nat, i < n ∧ r = i ∧ P i ∧ ∀ j, j < n → P j → j ≠ i → hgh A i j
theorem Hi_uniq {A : Nat → Nat → Int} {n : Nat} {P P' : Nat → Prop} {r r' : Int} (h : Hi A n P r) (h' : Hi A n P' r') (e : ∀ j, j < n → (P j ↔ P' j)) : r = r' := by
  rcases h with ⟨h1, h2⟩ | ⟨i, h1, h2, h3, h4⟩
  · rcases h' with ⟨g1, g2⟩ | ⟨j, g1, g2, g3, g4⟩
    · omega
    · exact absurd ((e j g1).mpr g3) (h2 j g1)
  · rcases h' with ⟨g1, g2⟩ | ⟨j, g1, g2, g3, g4⟩
    · exact absurd ((e i h1).mp h3) (g2 i h1)
    · by_cases hij : i = j
      · omega
      · have k1 := h4 j g1 ((e j g1).mpr g3) (by omega)
        have k2 := g4 i h1 ((e i h1).mp h3) (by omega)
        unfold hgh at k1 k2
        omega
theorem hbS_Hi {A : Nat → Nat → Int} {l x y : Int} (n : Nat) (ho : ∀ i, i < n → okA (A i)) : Hi A n (fun j => A j 4 < l ∧ cv (A j) x y = true) (hbS A l x y n).1 := by
  induction n with
  | zero => exact .inl ⟨rfl, fun j hj => by omega⟩
  | succ k ih =>
    have h1 := ih fun i hi => ho i (by omega)
    have o := ho k (by omega)
    unfold okA at o
    rw [hbS]
    split
    · rename_i h2
      refine .inr ⟨k, by omega, rfl, ⟨h2.1, h2.2.2⟩, fun j hj h3 h4 => ?_⟩
      have h5 : A j 4 ≤ (hbS A l x y k).2 := by
        rcases h1 with ⟨-, h6⟩ | ⟨i, g1, g2, g3, g4⟩
        · exact absurd h3 (h6 j (by omega))
        · rcases hbS_of A l x y k with ⟨h7, -⟩ | ⟨i', h7, h8, h9, -⟩
          · omega
          · have : i' = i := by omega
            subst this
            by_cases hji : j = i'
            · subst hji; omega
            · have := g4 j (by omega) h3 hji
              unfold hgh at this
              omega
      exact .inl (by omega)
    · rename_i h2
      rcases h1 with ⟨h6, h7⟩ | ⟨i, g1, g2, g3, g4⟩
      · refine .inl ⟨h6, fun j hj hp => ?_⟩
        by_cases hjk : j = k
        · subst hjk
          rcases hbS_of A l x y j with ⟨-, h8⟩ | ⟨i', -, h8, -⟩
          · exact h2 ⟨hp.1, by omega, hp.2⟩
          · omega
        · exact h7 j (by omega) hp
      · refine .inr ⟨i, by omega, g2, g3, fun j hj hp hji => ?_⟩
        by_cases hjk : j = k
        · subst hjk
          rcases hbS_of A l x y j with ⟨h8, -⟩ | ⟨i', h7, h8, h9, -⟩
          · omega
          · have : i' = i := by omega
            subst this
            have h10 : ¬ (hbS A l x y j).2 < A j 4 := fun h11 => h2 ⟨hp.1, h11, hp.2⟩
            unfold hgh
            omega
        · exact g4 j (by omega) hp hji
abbrev blP (A : Nat → Nat → Int) (a : Int) (j : Nat) : Prop := A j 6 = 1 ∧ (a = -1 ∨ hgh A a.toNat j)
def blS (A : Nat → Nat → Int) (a : Int) : Nat → Int
  | 0 => -1
  | k + 1 => if blP A a k ∧ (blS A a k = -1 ∨ hgh A k (blS A a k).toNat) then (k : Int) else blS A a k
theorem blS_Hi (A : Nat → Nat → Int) (a : Int) (n : Nat) : Hi A n (blP A a) (blS A a n) := by
  induction n with
  | zero => exact .inl ⟨rfl, fun j hj => by omega⟩
  | succ k ih =>
    rw [blS]
    split
    · rename_i h1
      refine .inr ⟨k, by omega, rfl, h1.1, fun j hj h3 h4 => ?_⟩
      rcases ih with ⟨g1, g2⟩ | ⟨i, g1, g2, g3, g4⟩
      · exact absurd h3 (g2 j (by omega))
      · have h5 : hgh A k i := by
          rcases h1.2 with h6 | h6
          · omega
          · rw [g2] at h6; exact h6
        by_cases hji : j = i
        · subst hji; exact h5
        · have := g4 j (by omega) h3 hji
          unfold hgh at this h5 ⊢
          omega
    · rename_i h1
      rcases ih with ⟨g1, g2⟩ | ⟨i, g1, g2, g3, g4⟩
      · refine .inl ⟨g1, fun j hj hp => ?_⟩
        by_cases hjk : j = k
        · subst hjk; exact h1 ⟨hp, .inl g1⟩
        · exact g2 j (by omega) hp
      · refine .inr ⟨i, by omega, g2, g3, fun j hj hp hji => ?_⟩
        by_cases hjk : j = k
        · subst hjk
          have h6 : ¬ hgh A j i := fun h7 => h1 ⟨hp, .inr (by rw [g2]; exact h7)⟩
          unfold hgh at h6 ⊢
          omega
        · exact g4 j (by omega) hp hji
theorem blS_bd (A : Nat → Nat → Int) (a : Int) (n : Nat) : -1 ≤ blS A a n ∧ blS A a n < n := by
  rcases blS_Hi A a n with ⟨h, -⟩ | ⟨i, h1, h2, -⟩ <;> omega
theorem bl_in {R : Type} {q c : Prop} [Decidable q] [Decidable c] {o : Option Int32} {K B : Option R} (h : ¬q → o = some (zi (b1 (decide c)))) : (if q then K else o.bind fun r => if r = 0 then B else K) = if q ∨ c then K else B := by
  by_cases h1 : q
  · rw [if_pos h1, if_pos (.inl h1)]
  · rw [if_neg h1, h h1]
    simp only [Option.bind_some, b1_0]
    by_cases h2 : c
    · rw [if_neg (fun h => h h2), if_pos (.inr h2)]
    · rw [if_pos h2, if_neg (fun h => h.elim h1 h2)]
