/-! what is counted of the layers -/
def lyw (A : Nat → Nat → Int) (w x y : Int) (n : Nat) : Int := sm n fun i => if (i : Int) = w then 0 else b1 (cv (A i) x y)
theorem lyw_bd (A : Nat → Nat → Int) (w x y : Int) (n : Nat) : 0 ≤ lyw A w x y n ∧ lyw A w x y n ≤ n := by
  have := sm_bd (n := n) (f := fun i => if (i : Int) = w then 0 else b1 (cv (A i) x y)) (B := 1) fun i _ => by
    have := b1_bd (cv (A i) x y)
    split <;> omega
  unfold lyw; omega
theorem lyw_none (A : Nat → Nat → Int) (x y : Int) (n : Nat) : lyw A (-1) x y n = lay A n x y := sm_congr fun i _ => if_neg (by omega)
theorem lyw_one {A : Nat → Nat → Int} {a n : Nat} (x y : Int) (ha : a < n) : lay A n x y = lyw A a x y n + b1 (cv (A a) x y) := by
  unfold lay lyw
  have h : (fun i => b1 (cv (A i) x y)) = add1 (fun i => if (i : Int) = (a : Int) then 0 else b1 (cv (A i) x y)) a (b1 (cv (A a) x y)) := by
    funext i
    by_cases hi : i = a
    · subst hi; simp [add1]
    · simp only [add1]
      rw [if_neg hi, if_neg (by omega)]
  rw [h, sm_add1 _ _ ha]
theorem lay_out {A : Nat → Nat → Int} {n : Nat} {x y : Int} (ho : ∀ i, i < n → okA (A i)) (h : ¬(0 ≤ x ∧ x < 24 ∧ 0 ≤ y ∧ y < 24)) : lay A n x y = 0 := by
  rw [lay, sm_congr (g := fun _ => 0), sm_zero]
  intro i hi
  have o := ho i hi
  unfold okA at o
  rw [cv_f (by omega)]
  rfl
theorem sm_cut {a b : Nat} {f : Nat → Int} (h : ∀ k, a ≤ k → f k = 0) (hab : a ≤ b) : sm b f = sm a f := by
  obtain ⟨d, rfl⟩ : ∃ d, b = a + d := ⟨b - a, by omega⟩
  rw [sm_split, sm_congr (g := fun _ => 0) (fun k _ => h (a + k) (by omega)), sm_zero]
  omega
theorem sm_flat (G : Nat → Nat → Int) (m : Nat) : sm (24 * m) (fun p => G (p % 24) (p / 24)) = sm m fun y => sm 24 fun x => G x y := by
  induction m with
  | zero => rfl
  | succ m ih =>
    have h : sm 24 (fun k => G ((24 * m + k) % 24) ((24 * m + k) / 24)) = sm 24 fun x => G x m :=
      sm_congr fun k hk => by rw [show (24 * m + k) % 24 = k from by omega, show (24 * m + k) / 24 = m from by omega]
    rw [Nat.mul_add, Nat.mul_one, sm_split, ih, h]
    rfl
theorem tot_flat (G : Nat → Nat → Int) : sm 576 (fun p => G (p % 24) (p / 24)) = tot G := by
  have h := sm_flat G 24
  rw [tot, sm_swap]
  exact h
theorem p_cells {h : zH} {c n : Nat} {qd : Int32} {A : Nat → Nat → Int} (hn : n ≤ 10) (hc : kC h c qd) (hl : kLy h c n A) {t : Int} (ht : -100 ≤ t ∧ t ≤ 100) :
    M_X1_cellsWithLayers h c (zi t) = some (zi (tot fun x y => b1 (decide (t ≤ lay A n x y)))) := by
  rw [← tot_flat]
  unfold M_X1_cellsWithLayers
  refine wl2_st (fun k => zi (sm k fun p => b1 (decide (t ≤ lay A n (p % 24 : Nat) (p / 24 : Nat))))) (fun k => zi (k : Int)) 576 n_0 n_0 ?_ ?_ 700 (by omega)
  · intro rec k hk
    have hb := lay_bd A n (k % 24 : Nat) (k / 24 : Nat)
    simp (disch := omega) only [n_576, zi_le, gR_of hc (k := 1) rfl, Option.bind_some, jn1, cI_of hl, Int.toNat_natCast, zi_lt]
    rw [if_neg (by omega)]
    simp only [n_1, zi_add, Int.natCast_add, Int.natCast_one, sm]
    by_cases h1 : t ≤ lay A n (k % 24 : Nat) (k / 24 : Nat)
    · rw [if_neg (by omega), decide_eq_true h1]; rfl
    · rw [if_pos (by omega), decide_eq_false h1]; simp [b1]
  · intro rec
    simp (disch := omega) only [n_576, zi_le]
    rw [if_pos (by omega)]
theorem p_column {h : zH} {c n : Nat} {qd : Int32} {A : Nat → Nat → Int} (hn : n ≤ 10) (hc : kC h c qd) (hl : kLy h c n A) (ho : ∀ i, i < n → okA (A i)) {x : Int} (hx : -100 ≤ x ∧ x ≤ 100) :
    M_X1_coveredInColumn h c (zi x) = some (zi (sm 24 fun y => b1 (decide (0 < lay A n x y)))) := by
  unfold M_X1_coveredInColumn
  refine wl2_st (fun k => zi (sm k fun y => b1 (decide (0 < lay A n x y)))) (fun k => zi (k : Int)) 24 n_0 n_0 ?_ ?_ 700 (by omega)
  · intro rec k hk
    have hb := lay_bd A n x k
    simp (disch := omega) only [n_24, zi_le, ck_of hc, Option.bind_some, jn1, p_at hc hl hx _ ho, n_0]
    rw [if_neg (by omega)]
    simp only [n_1, zi_add, Int.natCast_add, Int.natCast_one, sm]
    by_cases h1 : 0 < lay A n x k
    · rw [if_neg (by omega), decide_eq_true h1]; rfl
    · rw [if_pos (by omega), decide_eq_false h1]; simp [b1]
  · intro rec
    simp (disch := omega) only [n_24, zi_le]
    rw [if_pos (by omega)]
theorem p_runs {h : zH} {c n : Nat} {qd : Int32} {A : Nat → Nat → Int} (hn : n ≤ 10) (hc : kC h c qd) (hl : kLy h c n A) (ho : ∀ i, i < n → okA (A i)) {x : Int} (hx : -100 ≤ x ∧ x ≤ 100) :
    M_X1_runsInColumn h c (zi x) = some (zi (sm 24 fun y => b1 (decide (0 < lay A n x y ∧ lay A n x ((y : Int) - 1) = 0)))) := by
  unfold M_X1_runsInColumn
  refine wl2_st (fun k => zi (sm k fun y => b1 (decide (0 < lay A n x y ∧ lay A n x ((y : Int) - 1) = 0)))) (fun k => zi (k : Int)) 24 n_0 n_0 ?_ ?_ 700 (by omega)
  · intro rec k hk
    have hb := lay_bd A n x k
    have hb2 := lay_bd A n x ((k : Int) - 1)
    simp (disch := omega) only [n_24, zi_le, ck_of hc, Option.bind_some, jn1, p_at hc hl hx _ ho, n_0, n_1, zi_sub, zi_eq]
    rw [if_neg (by omega)]
    simp only [zi_add, Int.natCast_add, Int.natCast_one, sm]
    by_cases h1 : 0 < lay A n x k
    · rw [if_neg (by omega)]
      by_cases h2 : lay A n x ((k : Int) - 1) = 0
      · rw [if_pos h2, decide_eq_true ⟨h1, h2⟩]; rfl
      · rw [if_neg h2, decide_eq_false (fun h => h2 h.2)]; simp [b1]
    · rw [if_pos (by omega), decide_eq_false (fun h => h1 h.1)]; simp [b1]
  · intro rec
    simp (disch := omega) only [n_24, zi_le]
    rw [if_pos (by omega)]
/-- the most layers of a column's first cells -/
def mxl (A : Nat → Nat → Int) (n : Nat) (x : Int) : Nat → Int
  | 0 => 0
  | k + 1 => if mxl A n x k < lay A n x k then lay A n x k else mxl A n x k
theorem mxl_bd (A : Nat → Nat → Int) (n : Nat) (x : Int) (k : Nat) : 0 ≤ mxl A n x k ∧ mxl A n x k ≤ n := by
  induction k with
  | zero => simp [mxl]
  | succ k ih =>
    have := lay_bd A n x k
    rw [mxl]; split <;> omega
theorem p_most {h : zH} {c n : Nat} {qd : Int32} {A : Nat → Nat → Int} (hn : n ≤ 10) (hc : kC h c qd) (hl : kLy h c n A) (ho : ∀ i, i < n → okA (A i)) {x : Int} (hx : -100 ≤ x ∧ x ≤ 100) :
    M_X1_mostLayersInColumn h c (zi x) = some (zi (mxl A n x 24)) := by
  unfold M_X1_mostLayersInColumn
  refine wl2_st (fun k => zi (mxl A n x k)) (fun k => zi (k : Int)) 24 n_0 n_0 ?_ ?_ 700 (by omega)
  · intro rec k hk
    have hb := lay_bd A n x k
    have hb2 := mxl_bd A n x k
    simp (disch := omega) only [n_24, zi_le, ck_of hc, Option.bind_some, p_at hc hl hx _ ho, n_1, zi_add, zi_lt, Int.natCast_add, Int.natCast_one, mxl]
    rw [if_neg (by omega)]
    split <;> rfl
  · intro rec
    simp (disch := omega) only [n_24, zi_le]
    rw [if_pos (by omega)]
