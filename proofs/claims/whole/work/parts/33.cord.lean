/-! cord: one answer of both -/
theorem pc_24 {p : Nat → Bool} (h : ∀ j, 24 ≤ j → p j = false) : pc (mk p) = sm 24 fun j => b1 (p j) := by
  rw [pc_mk]
  exact sm_cut (fun k hk => by rw [h k hk]; rfl) (by omega)
def lgr (A : Nat → Nat → Int) (n : Nat) (x : Int) : Nat → Int
  | 0 => 0
  | k + 1 => if 0 < lay A n x k then lgr A n x k + 1 else 0
def lgm (A : Nat → Nat → Int) (n : Nat) (x : Int) : Nat → Int
  | 0 => 0
  | k + 1 => if lgm A n x k < lgr A n x (k + 1) then lgr A n x (k + 1) else lgm A n x k
theorem lgr_bd (A : Nat → Nat → Int) (n : Nat) (x : Int) (k : Nat) : 0 ≤ lgr A n x k ∧ lgr A n x k ≤ k := by
  induction k with
  | zero => simp [lgr]
  | succ k ih => rw [lgr]; split <;> omega
theorem lgm_bd (A : Nat → Nat → Int) (n : Nat) (x : Int) (k : Nat) : 0 ≤ lgm A n x k ∧ lgm A n x k ≤ k := by
  induction k with
  | zero => simp [lgm]
  | succ k ih =>
    have := lgr_bd A n x (k + 1)
    rw [lgm]; split <;> omega
theorem lgm_top (A : Nat → Nat → Int) (n : Nat) (x : Int) (k : Nat) : (∀ j, j < k → lgr A n x (j + 1) ≤ lgm A n x k) ∧ (lgm A n x k = 0 ∨ ∃ j, j < k ∧ lgr A n x (j + 1) = lgm A n x k) := by
  induction k with
  | zero => exact ⟨fun j hj => by omega, .inl rfl⟩
  | succ k ih =>
    obtain ⟨h1, h2⟩ := ih
    rw [lgm]
    split
    · rename_i h3
      refine ⟨fun j hj => ?_, .inr ⟨k, by omega, rfl⟩⟩
      by_cases hjk : j = k
      · subst hjk; omega
      · have := h1 j (by omega); omega
    · rename_i h3
      refine ⟨fun j hj => ?_, ?_⟩
      · by_cases hjk : j = k
        · subst hjk; omega
        · exact h1 j (by omega)
      · rcases h2 with h2 | ⟨j, h4, h5⟩
        · exact .inl h2
        · exact .inr ⟨j, by omega, h5⟩
theorem p_clongest {h : zH} {c n : Nat} {qd : Int32} {A : Nat → Nat → Int} (hn : n ≤ 10) (hc : kC h c qd) (hl : kLy h c n A) (ho : ∀ i, i < n → okA (A i)) {x : Int} (hx : -100 ≤ x ∧ x ≤ 100) :
    M_X1_longestRunInColumn h c (zi x) = some (zi (lgm A n x 24)) := by
  unfold M_X1_longestRunInColumn
  refine wl3_st (fun k => zi (lgm A n x k)) (fun k => zi (lgr A n x k)) (fun k => zi (k : Int)) 24 n_0 n_0 n_0 ?_ ?_ 700 (by omega)
  · intro rec k hk
    have hb := lay_bd A n x k
    have h1 := lgm_bd A n x k
    have h2 := lgr_bd A n x k
    have h3 := lgr_bd A n x (k + 1)
    simp (disch := omega) only [n_24, zi_le, ck_of hc, Option.bind_some, jn1, p_at hc hl hx _ ho, n_0, n_1, zi_add, Int.natCast_add, Int.natCast_one, lgm]
    rw [if_neg (by omega)]
    by_cases h4 : 0 < lay A n x k
    · have h5 : lgr A n x (k + 1) = lgr A n x k + 1 := by rw [lgr, if_pos h4]
      rw [if_neg (by omega), h5]
      simp (disch := omega) only [zi_lt]
      split <;> rfl
    · have h5 : lgr A n x (k + 1) = 0 := by rw [lgr, if_neg h4]
      rw [if_pos (by omega), h5]
      simp (disch := omega) only [zi_lt]
      split <;> rfl
  · intro rec
    simp (disch := omega) only [n_24, zi_le]
    rw [if_pos (by omega)]
theorem mk_ne {p : Nat → Bool} {j : Nat} (hj : j < 32) (h : p j = true) : mk p ≠ 0 := by
  intro e
  have h2 := bt_mk (p := p) hj
  rw [e, b_0, h] at h2
  cases h2
theorem p_mlongest {A : Nat → Nat → Int} {n : Nat} (ho : ∀ i, i < n → okA (A i)) (x : Int) :
    M_X5_longest (mk fun j => decide (0 < lay A n x j)) = some (zi (lgm A n x 24)) := by
  have hb := lgm_bd A n x 24
  obtain ⟨ht1, ht2⟩ := lgm_top A n x 24
  have hz : ∀ j, 24 ≤ j → lgr A n x (j + 1) = 0 := fun j hj => by
    rw [lgr, lay_out ho (by omega), if_neg (by omega)]
  unfold M_X5_longest
  refine wl2_st (fun k => zi (k : Int)) (fun k => mk fun j => decide ((k : Int) < lgr A n x (j + 1))) (lgm A n x 24).toNat n_0 ?_ ?_ ?_ 700 (by omega)
  · refine mk_congr fun j hj => ?_
    have h1 := lgr_bd A n x j
    rw [Bool.eq_iff_iff, decide_eq_true_iff, decide_eq_true_iff, lgr]
    split <;> omega
  · intro rec k hk
    rcases ht2 with h0 | ⟨j, h1, h2⟩
    · omega
    · rw [if_neg (mk_ne (j := j) (by omega) (decide_eq_true (by omega))), mk_shl1, mk_and, n_1, zi_add, Int.natCast_add, Int.natCast_one]
      refine congrArg (rec _) (mk_congr fun i hi => ?_)
      have h3 := lgr_bd A n x i
      rw [Bool.eq_iff_iff]
      simp only [Bool.and_eq_true, decide_eq_true_iff]
      cases i with
      | zero =>
        have h4 : lgr A n x 0 = 0 := rfl
        rw [lgr]
        split <;> omega
      | succ i =>
        have h5 : lgr A n x (i + 1 + 1) = if 0 < lay A n x (i + 1 : Nat) then lgr A n x (i + 1) + 1 else 0 := rfl
        rw [h5, Nat.add_sub_cancel]
        split <;> omega
  · intro rec
    have h1 : (mk fun j => decide (((lgm A n x 24).toNat : Int) < lgr A n x (j + 1))) = 0 := by
      rw [mk_0]
      refine mk_congr fun j hj => decide_eq_false ?_
      by_cases hj2 : j < 24
      · have := ht1 j hj2; omega
      · have := hz j (by omega); omega
    rw [if_pos h1]
    congr 2
    omega
def cordS (A : Nat → Nat → Int) (n : Nat) (x w : Int) : Int :=
  if w = 0 then sm 24 fun y => b1 (decide (0 < lay A n x y))
  else if w = 1 then sm 24 fun y => b1 (decide (0 < lay A n x y ∧ lay A n x ((y : Int) - 1) = 0))
  else if w = 2 then lgm A n x 24 else mxl A n x 24
theorem p_cordTold {h : zH} {m n sn : Nat} {th hr ro : Int32} {A : Nat → Nat → Int} {D : Nat → Int32} (km : kM h m th n sn hr ro) (ks : kSh h m n A D) {x w : Int} (hx : -100 ≤ x ∧ x ≤ 100) (hw : 0 ≤ w ∧ w ≤ 3) :
    M_X5_cordTold h m (zi x) (zi w) = some (zi (cordS A n x w)) := by
  obtain ⟨-, f, -, ho'⟩ := id ks
  have ho : ∀ i, i < n → okA (A i) := fun i hi => (ho' i hi).1
  have q0 : (zi w = 0) = (w = 0) := zi_eq (b := 0) (by omega) (by omega) (by omega) (by omega)
  have q1 : (zi w = 1) = (w = 1) := zi_eq (b := 1) (by omega) (by omega) (by omega) (by omega)
  have q2 : (zi w = 2) = (w = 2) := zi_eq (b := 2) (by omega) (by omega) (by omega) (by omega)
  simp only [M_X5_cordTold, ck_of km, Option.bind_some, p_cov km ks hx, p_mlongest ho, p_deepest km ks hx, mk_shl1, mk_not, mk_and, p_many, q0, q1, q2]
  unfold cordS
  by_cases h0 : w = 0
  · rw [if_pos h0, if_pos h0, pc_24]
    intro j hj
    rw [lay_out ho (by omega)]
    rfl
  by_cases h1 : w = 1
  · rw [if_neg h0, if_neg h0, if_pos h1, if_pos h1, pc_24]
    · refine congrArg (fun z => some (zi z)) (sm_congr fun j hj => congrArg b1 ?_)
      have hb := lay_bd A n x ((j : Int) - 1)
      rw [Bool.eq_iff_iff]
      simp only [Bool.and_eq_true, Bool.not_eq_true', Bool.and_eq_false_iff, decide_eq_true_iff, decide_eq_false_iff_not]
      cases j with
      | zero =>
        have h2 := lay_out (n := n) (x := x) (y := ((0 : Nat) : Int) - 1) ho (by omega)
        omega
      | succ j =>
        rw [show (((j + 1 : Nat) : Int) - 1) = (j : Int) from by omega] at hb ⊢
        rw [Nat.add_sub_cancel]
        omega
    · intro j hj
      rw [lay_out ho (by omega)]
      rfl
  by_cases h2 : w = 2
  · rw [if_neg h0, if_neg h0, if_neg h1, if_neg h1, if_pos h2, if_pos h2]
  · rw [if_neg h0, if_neg h0, if_neg h1, if_neg h1, if_neg h2, if_neg h2]
