/-! what the law asks of the cloth, pure -/
theorem b1_le {p q : Bool} (h : p = true → q = true) : b1 p ≤ b1 q := by
  cases p with
  | false => exact (b1_bd q).1
  | true => rw [h rfl]; exact Int.le_refl _
theorem b1d_le {p q : Prop} [Decidable p] [Decidable q] (h : p → q) : b1 (decide p) ≤ b1 (decide q) := b1_le fun e => decide_eq_true (h (of_decide_eq_true e))
theorem b1d_t {p : Prop} [Decidable p] (h : p) : b1 (decide p) = 1 := by rw [decide_eq_true h]; rfl
theorem b1d_f {p : Prop} [Decidable p] (h : ¬p) : b1 (decide p) = 0 := by rw [decide_eq_false h]; rfl
theorem tot_mono {F F' : Nat → Nat → Int} (h : ∀ x y, F x y ≤ F' x y) : tot F ≤ tot F' := sm_mono fun x _ => sm_mono fun y _ => h x y
theorem tot_ge {F : Nat → Nat → Int} {a b : Nat} (h : ∀ x y, 0 ≤ F x y) (ha : a < 24) (hb : b < 24) : F a b ≤ tot F := by
  have h1 := (sm_ge (n := 24) (f := F a) (fun i _ => h a i) hb).1
  have h2 := (sm_ge (n := 24) (f := fun p => sm 24 (F p)) (fun i _ => sm_nn fun j _ => h i j) ha).1
  exact Int.le_trans h1 h2
theorem tot_sm (n : Nat) (F : Nat → Nat → Nat → Int) : (sm n fun i => tot (F i)) = tot fun x y => sm n fun i => F i x y := by
  unfold tot
  rw [sm_swap n 24 fun i x => sm 24 fun y => F i x y]
  exact sm_congr fun x _ => sm_swap n 24 fun i y => F i x y
theorem tot_sub (F F' : Nat → Nat → Int) : (tot fun x y => F x y - F' x y) = tot F - tot F' := by
  have := tot_plus (fun x y => F x y - F' x y) F'
  rw [tot_congr (F := fun x y => F x y - F' x y + F' x y) (F' := F) fun x y _ _ => by omega] at this
  omega
theorem sm_mulr (n : Nat) (f : Nat → Int) (c : Int) : (sm n fun i => f i * c) = sm n f * c := by
  induction n with
  | zero => simp [sm]
  | succ n ih => rw [sm, sm, ih, Int.add_mul]
theorem sm_mull (n : Nat) (f : Nat → Int) (c : Int) : (sm n fun i => c * f i) = c * sm n f := by
  induction n with
  | zero => simp [sm]
  | succ n ih => rw [sm, sm, ih, Int.mul_add]
section FACT
variable {A : Nat → Nat → Int} {n : Nat}
/-! cords -/
theorem lgr_sm (x : Int) (k : Nat) : lgr A n x k ≤ sm k fun y => b1 (decide (0 < lay A n x y)) := by
  induction k with
  | zero => exact Int.le_refl _
  | succ k ih =>
    rw [lgr, sm]
    by_cases h : 0 < lay A n x k
    · rw [if_pos h, b1d_t h]; omega
    · rw [if_neg h, b1d_f h]
      have := sm_nn (n := k) (f := fun y => b1 (decide (0 < lay A n x y))) fun i _ => (b1_bd _).1
      omega
theorem lgm_sm (x : Int) (k : Nat) : lgm A n x k ≤ sm k fun y => b1 (decide (0 < lay A n x y)) := by
  induction k with
  | zero => exact Int.le_refl _
  | succ k ih =>
    have h1 := lgr_sm (A := A) (n := n) x (k + 1)
    rw [lgm]
    by_cases h : lgm A n x k < lgr A n x (k + 1)
    · rw [if_pos h]; exact h1
    · rw [if_neg h, sm]
      have := (b1_bd (decide (0 < lay A n x (k : Nat)))).1
      omega
theorem mxl_sm (x : Int) (k : Nat) : (mxl A n x k = 0) ↔ (sm k fun y => b1 (decide (0 < lay A n x y))) = 0 := by
  induction k with
  | zero => exact ⟨fun _ => rfl, fun _ => rfl⟩
  | succ k ih =>
    have h1 := mxl_bd A n x k
    have h2 := sm_nn (n := k) (f := fun y => b1 (decide (0 < lay A n x y))) fun i _ => (b1_bd _).1
    have h3 := lay_bd A n x k
    rw [mxl, sm]
    by_cases h : 0 < lay A n x k
    · rw [b1d_t h]
      split <;> omega
    · rw [b1d_f h, if_neg (by omega), ih]
      omega
theorem run_sm (ho : ∀ i, i < n → okA (A i)) (x : Int) (k : Nat) (hk : k ≤ 24) : (sm k fun y => b1 (decide (0 < lay A n x y))) ≤ ((sm k fun y => b1 (decide (0 < lay A n x y ∧ lay A n x ((y : Int) - 1) = 0))) - (if 0 < lgr A n x k then 1 else 0)) * lgm A n x 24 + lgr A n x k ∧ (0 < lgr A n x k ↔ 0 < lay A n x ((k : Int) - 1)) := by
  induction k with
  | zero => exact ⟨Int.le_of_eq (by simp [sm, lgr]), by rw [lay_out ho (by omega), lgr]⟩
  | succ k ih =>
    obtain ⟨i1, i2⟩ := ih (by omega)
    have b := lgr_bd A n x k
    have tp := (lgm_top A n x 24).1
    have lb := lgm_bd A n x 24
    have e1 : ((k + 1 : Nat) : Int) - 1 = k := by omega
    rw [e1, sm, sm]
    have l1 : lgr A n x k ≤ lgm A n x 24 := by
      cases k with
      | zero => rw [lgr]; omega
      | succ k => exact tp k (by omega)
    generalize lgm A n x 24 = L at *
    generalize (sm k fun y => b1 (decide (0 < lay A n x y))) = c at *
    generalize (sm k fun y => b1 (decide (0 < lay A n x y ∧ lay A n x ((y : Int) - 1) = 0))) = R at *
    by_cases h : 0 < lay A n x k
    · rw [lgr, if_pos h, b1d_t h, if_pos (by omega)]
      refine ⟨?_, by omega⟩
      by_cases g : 0 < lgr A n x k
      · rw [if_pos g] at i1
        rw [b1d_f (fun w => by have := i2.mp g; omega), Int.add_zero]
        omega
      · rw [if_neg g] at i1
        have g2 : lay A n x ((k : Int) - 1) = 0 := by have := lay_bd A n x ((k : Int) - 1); have := fun w => g (i2.mpr w); omega
        rw [b1d_t ⟨h, g2⟩, Int.add_sub_cancel]
        rw [Int.sub_zero] at i1
        omega
    · rw [lgr, if_neg h, b1d_f h, b1d_f (fun w => h w.1), if_neg (by omega)]
      refine ⟨?_, by omega⟩
      rw [Int.add_zero, Int.add_zero, Int.sub_zero, Int.add_zero]
      by_cases g : 0 < lgr A n x k
      · rw [if_pos g, Int.sub_mul, Int.one_mul] at i1
        omega
      · rw [if_neg g, Int.sub_zero] at i1
        omega
theorem cord_facts (ho : ∀ i, i < n → okA (A i)) (x : Int) : cordS A n x 2 ≤ cordS A n x 0 ∧ cordS A n x 1 ≤ cordS A n x 0 ∧ (cordS A n x 0 ≤ 0 ↔ cordS A n x 3 ≤ 0) ∧ cordS A n x 0 ≤ cordS A n x 1 * cordS A n x 2 ∧ (0 ≤ cordS A n x 0 ∧ cordS A n x 0 ≤ 24) ∧ 0 ≤ cordS A n x 1 ∧ 0 ≤ cordS A n x 2 ∧ 0 ≤ cordS A n x 3 ∧ cordS A n x 3 ≤ n := by
  show lgm A n x 24 ≤ (sm 24 fun y => b1 (decide (0 < lay A n x y))) ∧ (sm 24 fun y => b1 (decide (0 < lay A n x y ∧ lay A n x ((y : Int) - 1) = 0))) ≤ (sm 24 fun y => b1 (decide (0 < lay A n x y))) ∧ ((sm 24 fun y => b1 (decide (0 < lay A n x y))) ≤ 0 ↔ mxl A n x 24 ≤ 0) ∧ (sm 24 fun y => b1 (decide (0 < lay A n x y))) ≤ (sm 24 fun y => b1 (decide (0 < lay A n x y ∧ lay A n x ((y : Int) - 1) = 0))) * lgm A n x 24 ∧ (0 ≤ (sm 24 fun y => b1 (decide (0 < lay A n x y))) ∧ (sm 24 fun y => b1 (decide (0 < lay A n x y))) ≤ 24) ∧ 0 ≤ (sm 24 fun y => b1 (decide (0 < lay A n x y ∧ lay A n x ((y : Int) - 1) = 0))) ∧ 0 ≤ lgm A n x 24 ∧ 0 ≤ mxl A n x 24 ∧ mxl A n x 24 ≤ n
  have h1 := lgm_sm (A := A) (n := n) x 24
  have h2 := sm_mono (n := 24) (f := fun y => b1 (decide (0 < lay A n x y ∧ lay A n x ((y : Int) - 1) = 0))) (g := fun y => b1 (decide (0 < lay A n x y))) fun k _ => b1d_le fun w => w.1
  have h3 := mxl_sm (A := A) (n := n) x 24
  have h4 := (run_sm ho x 24 (by omega)).1
  have h5 := sm_b1_bd 24 fun y => decide (0 < lay A n x y)
  have h6 := sm_b1_bd 24 fun y => decide (0 < lay A n x y ∧ lay A n x ((y : Int) - 1) = 0)
  have h7 := lgm_bd A n x 24
  have h8 := mxl_bd A n x 24
  have h9 := lgr_bd A n x 24
  have h10 := (lgm_top A n x 24).1 23 (by omega)
  refine ⟨h1, h2, by omega, ?_, by omega, by omega, h7.1, h8.1, h8.2⟩
  refine Int.le_trans h4 ?_
  by_cases g : 0 < lgr A n x 24
  · rw [if_pos g, Int.sub_mul, Int.one_mul]
    have : lgr A n x (23 + 1) = lgr A n x 24 := rfl
    omega
  · rw [if_neg g, Int.sub_zero]
    omega
theorem cord_sum : (sm 24 fun x => cordS A n x 0) = tot fun x y => b1 (decide (1 ≤ lay A n x y)) := rfl
end FACT
