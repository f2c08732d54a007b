/-! cord: one answer of both -/
def lgr (A : Nat → Nat → Int) (n : Nat) (x : Int) : Nat → Int
  | 0 => 0
  | k + 1 => if 0 < lay A n x k then lgr A n x k + 1 else 0
def lgm (A : Nat → Nat → Int) (n : Nat) (x : Int) : Nat → Int
  | 0 => 0
  | k + 1 => if lgm A n x k < lgr A n x (k + 1) then lgr A n x (k + 1) else lgm A n x k
theorem lgr_bd (A : Nat → Nat → Int) (n : Nat) (x : Int) (k : Nat) : 0 ≤ lgr A n x k ∧ lgr A n x k ≤ k := by
  induction k with
  | zero => simp [lgr]
  | succ k ih => rw [lgr]; split <;> omega
theorem lgm_bd (A : Nat → Nat → Int) (n : Nat) (x : Int) (k : Nat) : 0 ≤ lgm A n x k ∧ lgm A n x k ≤ k := by
  induction k with
  | zero => simp [lgm]
  | succ k ih =>
    have := lgr_bd A n x (k + 1)
    rw [lgm]; split <;> omega
theorem lgm_top (A : Nat → Nat → Int) (n : Nat) (x : Int) (k : Nat) : (∀ j, j < k → lgr A n x (j + 1) ≤ lgm A n x k) ∧ (lgm A n x k = 0 ∨ ∃ j, j < k ∧ lgr A n x (j + 1) = lgm A n x k) := by
  induction k with
  | zero => exact ⟨fun j hj => by omega, .inl rfl⟩
  | succ k ih =>
    obtain ⟨h1, h2⟩ := ih
    rw [lgm]
    split
    · rename_i h3
      refine ⟨fun j hj => ?_, .inr ⟨k, by omega, rfl⟩⟩
      by_cases hjk : j = k
      · subst hjk; omega
      · have := h1 j (by omega); omega
    · rename_i h3
      refine ⟨fun j hj => ?_, ?_⟩
      · by_cases hjk : j = k
        · subst hjk; omega
        · exact h1 j (by omega)
      · rcases h2 with h2 | ⟨j, h4, h5⟩
        · exact .inl h2
        · exact .inr ⟨j, by omega, h5⟩
theorem p_clongest {h : zH} {c n : Nat} {qd : Int32} {A : Nat → Nat → Int} (hn : n ≤ 10) (hc : kC h c qd) (hl : kLy h c n A) (ho : ∀ i, i < n → okA (A i)) {x : Int} (hx : -100 ≤ x ∧ x ≤ 100) :
    M_X1_longestRunInColumn h c (zi x) = some (zi (lgm A n x 24)) := by
  unfold M_X1_longestRunInColumn
  refine wl3_st (fun k => zi (lgm A n x k)) (fun k => zi (lgr A n x k)) (fun k => zi (k : Int)) 24 n_0 n_0 n_0 ?_ ?_ 700 (by omega)
  · intro rec k hk
    have hb := lay_bd A n x k
    have h1 := lgm_bd A n x k
    have h2 := lgr_bd A n x k
    have h3 := lgr_bd A n x (k + 1)
    simp (disch := omega) only [n_24, zi_le, ck_of hc, Option.bind_some, jn1, p_at hc hl hx _ ho, n_0, n_1, zi_add, Int.natCast_add, Int.natCast_one, lgm]
    rw [if_neg (by omega)]
    by_cases h4 : 0 < lay A n x k
    · have h5 : lgr A n x (k + 1) = lgr A n x k + 1 := by rw [lgr, if_pos h4]
      rw [if_neg (by omega), h5]
      simp (disch := omega) only [zi_lt]
      split <;> rfl
    · have h5 : lgr A n x (k + 1) = 0 := by rw [lgr, if_neg h4]
      rw [if_pos (by omega), h5]
      simp (disch := omega) only [zi_lt]
      split <;> rfl
  · intro rec
    simp (disch := omega) only [n_24, zi_le]
    rw [if_pos (by omega)]
def cordS (A : Nat → Nat → Int) (n : Nat) (x w : Int) : Int :=
  if w = 0 then sm 24 fun y => b1 (decide (0 < lay A n x y))
  else if w = 1 then sm 24 fun y => b1 (decide (0 < lay A n x y ∧ lay A n x ((y : Int) - 1) = 0))
  else if w = 2 then lgm A n x 24 else mxl A n x 24
