/-! what is counted of the layers -/
def lyw (A : Nat → Nat → Int) (w x y : Int) (n : Nat) : Int := sm n fun i => if (i : Int) = w then 0 else b1 (cv (A i) x y)
theorem lyw_bd (A : Nat → Nat → Int) (w x y : Int) (n : Nat) : 0 ≤ lyw A w x y n ∧ lyw A w x y n ≤ n := by
  have := sm_bd (n := n) (f := fun i => if (i : Int) = w then 0 else b1 (cv (A i) x y)) (B := 1) fun i _ => by
    have := b1_bd (cv (A i) x y)
    split <;> omega
  unfold lyw; omega
theorem lyw_none (A : Nat → Nat → Int) (x y : Int) (n : Nat) : lyw A (-1) x y n = lay A n x y := sm_congr fun i _ => if_neg (by omega)
theorem lyw_one {A : Nat → Nat → Int} {a n : Nat} (x y : Int) (ha : a < n) : lay A n x y = lyw A a x y n + b1 (cv (A a) x y) := by
  unfold lay lyw
  have h : (fun i => b1 (cv (A i) x y)) = add1 (fun i => if (i : Int) = (a : Int) then 0 else b1 (cv (A i) x y)) a (b1 (cv (A a) x y)) := by
    funext i
    by_cases hi : i = a
    · subst hi; simp [add1]
    · simp only [add1]
      rw [if_neg hi, if_neg (by omega)]
  rw [h, sm_add1 _ _ ha]
theorem lay_out {A : Nat → Nat → Int} {n : Nat} {x y : Int} (ho : ∀ i, i < n → okA (A i)) (h : ¬(0 ≤ x ∧ x < 24 ∧ 0 ≤ y ∧ y < 24)) : lay A n x y = 0 := by
  rw [lay, sm_congr (g := fun _ => 0), sm_zero]
  intro i hi
  have o := ho i hi
  unfold okA at o
  rw [cv_f (by omega)]
  rfl
theorem sm_cut {a b : Nat} {f : Nat → Int} (h : ∀ k, a ≤ k → f k = 0) (hab : a ≤ b) : sm b f = sm a f := by
  obtain ⟨d, rfl⟩ : ∃ d, b = a + d := ⟨b - a, by omega⟩
  rw [sm_split, sm_congr (g := fun _ => 0) (fun k _ => h (a + k) (by omega)), sm_zero]
  omega
theorem sm_flat (G : Nat → Nat → Int) (m : Nat) : sm (24 * m) (fun p => G (p % 24) (p / 24)) = sm m fun y => sm 24 fun x => G x y := by
  induction m with
  | zero => rfl
  | succ m ih =>
    have h : sm 24 (fun k => G ((24 * m + k) % 24) ((24 * m + k) / 24)) = sm 24 fun x => G x m :=
      sm_congr fun k hk => by rw [show (24 * m + k) % 24 = k from by omega, show (24 * m + k) / 24 = m from by omega]
    rw [Nat.mul_add, Nat.mul_one, sm_split, ih, h]
    rfl
theorem tot_flat (G : Nat → Nat → Int) : sm 576 (fun p => G (p % 24) (p / 24)) = tot G := by
  have h := sm_flat G 24
  rw [tot, sm_swap]
  exact h
theorem p_covered {h : zH} {m n sn : Nat} {th hr ro : Int32} {A : Nat → Nat → Int} {D : Nat → Int32} (km : kM h m th n sn hr ro) (ks : kSh h m n A D) {x w : Int} (hx : -100 ≤ x ∧ x ≤ 100) (hw : -1 ≤ w ∧ w ≤ 100) :
    M_X5_covered h m (zi x) (zi w) = some (mk fun j => decide (0 < lyw A w x j n)) := by
  have hn := ks.1
  unfold M_X5_covered
  refine wl2_st (fun k => mk fun j => decide (0 < lyw A w x j k)) (fun k => zi (k : Int)) n ?_ n_0 ?_ ?_ 700 (by omega)
  · rw [mk_0]
    exact mk_congr fun j _ => rfl
  · intro rec k hk
    simp (disch := omega) only [gI_of km (k := 1) rfl, ob_some, Option.bind_none, jn0_e, jn1_e, jn2_e, jn3_e, jn4_e, jn5_e, zi_lt, zi_le, zi_eq, ck_of km, p_bits km ks hk hx, mk_or]
    rw [if_neg (by omega), n_1, zi_add, Int.natCast_add, Int.natCast_one]
    by_cases h1 : (k : Int) = w
    · rw [if_pos h1, mk_0, mk_or]
      refine congrArg (fun z => rec z _) (mk_congr fun j hj => ?_)
      rw [lyw, lyw, sm, if_pos h1]
      simp
    · rw [if_neg h1]
      refine congrArg (fun z => rec z _) (mk_congr fun j hj => ?_)
      have h2 := lyw_bd A w x j k
      have h3 : lyw A w x j (k + 1) = lyw A w x j k + b1 (cv (A k) x j) := by rw [lyw, lyw, sm, if_neg h1]
      rw [h3]
      cases cv (A k) x j
      · simp [b1]
      · simp only [b1, if_true, Bool.or_true]
        rw [decide_eq_true (by omega)]
  · intro rec
    simp (disch := omega) only [gI_of km (k := 1) rfl, ob_some, Option.bind_none, jn0_e, jn1_e, jn2_e, jn3_e, jn4_e, jn5_e, zi_lt, zi_le, zi_eq]
    rw [if_pos (by omega)]
theorem p_cov {h : zH} {m n sn : Nat} {th hr ro : Int32} {A : Nat → Nat → Int} {D : Nat → Int32} (km : kM h m th n sn hr ro) (ks : kSh h m n A D) {x : Int} (hx : -100 ≤ x ∧ x ≤ 100) :
    M_X5_covered_ h m (zi x) = some (mk fun j => decide (0 < lay A n x j)) := by
  obtain ⟨-, f, -, ho⟩ := id ks
  simp only [M_X5_covered_, p_isIn23 hx, Option.bind_some, b1_0, ck_of km, n_m1, zi_neg]
  by_cases h1 : 0 ≤ x ∧ x ≤ 23
  · rw [if_neg (by omega), show (zi (-1) : Int32) = zi (-1) from rfl, p_covered km ks hx (by omega), Option.bind_some]
    exact congrArg some (mk_congr fun j _ => by rw [lyw_none])
  · rw [if_pos (by omega), mk_0]
    refine congrArg some (mk_congr fun j _ => ?_)
    rw [lay_out (fun i hi => (ho i hi).1) (by omega)]
    rfl
theorem p_lying {h : zH} {m n sn : Nat} {th hr ro : Int32} {A : Nat → Nat → Int} {D : Nat → Int32} (km : kM h m th n sn hr ro) (ks : kSh h m n A D) {x : Int} {y : Nat} (hx : -100 ≤ x ∧ x ≤ 100) (hy : y < 24) :
    M_X5_lying h m (zi x) (zi y) = some (zi (lay A n x y)) := by
  have hn := ks.1
  unfold M_X5_lying
  refine wl2_st (fun k => zi (lay A k x y)) (fun k => zi (k : Int)) n n_0 n_0 ?_ ?_ 700 (by omega)
  · intro rec k hk
    simp (disch := omega) only [gI_of km (k := 1) rfl, ob_some, Option.bind_none, jn0_e, jn1_e, jn2_e, jn3_e, jn4_e, jn5_e, zi_le, ck_of km, p_bits km ks hk hx, mk_bit]
    rw [if_neg (by omega), n_1, zi_add, zi_add, Int.natCast_add, Int.natCast_one]
    rfl
  · intro rec
    simp (disch := omega) only [gI_of km (k := 1) rfl, ob_some, Option.bind_none, jn0_e, jn1_e, jn2_e, jn3_e, jn4_e, jn5_e, zi_le]
    rw [if_pos (by omega)]
theorem p_cells {h : zH} {c n : Nat} {qd : Int32} {A : Nat → Nat → Int} (hn : n ≤ 10) (hc : kC h c qd) (hl : kLy h c n A) {t : Int} (ht : -100 ≤ t ∧ t ≤ 100) :
    M_X1_cellsWithLayers h c (zi t) = some (zi (tot fun x y => b1 (decide (t ≤ lay A n x y)))) := by
  rw [← tot_flat]
  unfold M_X1_cellsWithLayers
  refine wl2_st (fun k => zi (sm k fun p => b1 (decide (t ≤ lay A n (p % 24 : Nat) (p / 24 : Nat))))) (fun k => zi (k : Int)) 576 n_0 n_0 ?_ ?_ 700 (by omega)
  · intro rec k hk
    have hb := lay_bd A n (k % 24 : Nat) (k / 24 : Nat)
    simp (disch := omega) only [n_576, zi_le, gR_of hc (k := 1) rfl, Option.bind_some, jn1, cI_of hl, Int.toNat_natCast, zi_lt]
    rw [if_neg (by omega)]
    simp only [n_1, zi_add, Int.natCast_add, Int.natCast_one, sm]
    by_cases h1 : t ≤ lay A n (k % 24 : Nat) (k / 24 : Nat)
    · rw [if_neg (by omega), decide_eq_true h1]; rfl
    · rw [if_pos (by omega), decide_eq_false h1]; simp [b1]
  · intro rec
    simp (disch := omega) only [n_576, zi_le]
    rw [if_pos (by omega)]
theorem p_column {h : zH} {c n : Nat} {qd : Int32} {A : Nat → Nat → Int} (hn : n ≤ 10) (hc : kC h c qd) (hl : kLy h c n A) (ho : ∀ i, i < n → okA (A i)) {x : Int} (hx : -100 ≤ x ∧ x ≤ 100) :
    M_X1_coveredInColumn h c (zi x) = some (zi (sm 24 fun y => b1 (decide (0 < lay A n x y)))) := by
  unfold M_X1_coveredInColumn
  refine wl2_st (fun k => zi (sm k fun y => b1 (decide (0 < lay A n x y)))) (fun k => zi (k : Int)) 24 n_0 n_0 ?_ ?_ 700 (by omega)
  · intro rec k hk
    have hb := lay_bd A n x k
    simp (disch := omega) only [n_24, zi_le, ck_of hc, Option.bind_some, jn1, p_at hc hl hx _ ho, n_0]
    rw [if_neg (by omega)]
    simp only [n_1, zi_add, Int.natCast_add, Int.natCast_one, sm]
    by_cases h1 : 0 < lay A n x k
    · rw [if_neg (by omega), decide_eq_true h1]; rfl
    · rw [if_pos (by omega), decide_eq_false h1]; simp [b1]
  · intro rec
    simp (disch := omega) only [n_24, zi_le]
    rw [if_pos (by omega)]
theorem p_runs {h : zH} {c n : Nat} {qd : Int32} {A : Nat → Nat → Int} (hn : n ≤ 10) (hc : kC h c qd) (hl : kLy h c n A) (ho : ∀ i, i < n → okA (A i)) {x : Int} (hx : -100 ≤ x ∧ x ≤ 100) :
    M_X1_runsInColumn h c (zi x) = some (zi (sm 24 fun y => b1 (decide (0 < lay A n x y ∧ lay A n x ((y : Int) - 1) = 0)))) := by
  unfold M_X1_runsInColumn
  refine wl2_st (fun k => zi (sm k fun y => b1 (decide (0 < lay A n x y ∧ lay A n x ((y : Int) - 1) = 0)))) (fun k => zi (k : Int)) 24 n_0 n_0 ?_ ?_ 700 (by omega)
  · intro rec k hk
    have hb := lay_bd A n x k
    have hb2 := lay_bd A n x ((k : Int) - 1)
    simp (disch := omega) only [n_24, zi_le, ck_of hc, Option.bind_some, jn1, p_at hc hl hx _ ho, n_0, n_1, zi_sub, zi_eq]
    rw [if_neg (by omega)]
    simp only [zi_add, Int.natCast_add, Int.natCast_one, sm]
    by_cases h1 : 0 < lay A n x k
    · rw [if_neg (by omega)]
      by_cases h2 : lay A n x ((k : Int) - 1) = 0
      · rw [if_pos h2, decide_eq_true ⟨h1, h2⟩]; rfl
      · rw [if_neg h2, decide_eq_false (fun h => h2 h.2)]; simp [b1]
    · rw [if_pos (by omega), decide_eq_false (fun h => h1 h.1)]; simp [b1]
  · intro rec
    simp (disch := omega) only [n_24, zi_le]
    rw [if_pos (by omega)]
/-- the most layers of a column's first cells -/
def mxl (A : Nat → Nat → Int) (n : Nat) (x : Int) : Nat → Int
  | 0 => 0
  | k + 1 => if mxl A n x k < lay A n x k then lay A n x k else mxl A n x k
theorem mxl_bd (A : Nat → Nat → Int) (n : Nat) (x : Int) (k : Nat) : 0 ≤ mxl A n x k ∧ mxl A n x k ≤ n := by
  induction k with
  | zero => simp [mxl]
  | succ k ih =>
    have := lay_bd A n x k
    rw [mxl]; split <;> omega
theorem p_most {h : zH} {c n : Nat} {qd : Int32} {A : Nat → Nat → Int} (hn : n ≤ 10) (hc : kC h c qd) (hl : kLy h c n A) (ho : ∀ i, i < n → okA (A i)) {x : Int} (hx : -100 ≤ x ∧ x ≤ 100) :
    M_X1_mostLayersInColumn h c (zi x) = some (zi (mxl A n x 24)) := by
  unfold M_X1_mostLayersInColumn
  refine wl2_st (fun k => zi (mxl A n x k)) (fun k => zi (k : Int)) 24 n_0 n_0 ?_ ?_ 700 (by omega)
  · intro rec k hk
    have hb := lay_bd A n x k
    have hb2 := mxl_bd A n x k
    simp (disch := omega) only [n_24, zi_le, ck_of hc, Option.bind_some, p_at hc hl hx _ ho, n_1, zi_add, zi_lt, Int.natCast_add, Int.natCast_one, mxl]
    rw [if_neg (by omega)]
    split <;> rfl
  · intro rec
    simp (disch := omega) only [n_24, zi_le]
    rw [if_pos (by omega)]
theorem p_deepest {h : zH} {m n sn : Nat} {th hr ro : Int32} {A : Nat → Nat → Int} {D : Nat → Int32} (km : kM h m th n sn hr ro) (ks : kSh h m n A D) {x : Int} (hx : -100 ≤ x ∧ x ≤ 100) :
    M_X5_deepest h m (zi x) = some (zi (mxl A n x 24)) := by
  have hn := ks.1
  unfold M_X5_deepest
  refine wl2_st (fun k => zi (mxl A n x k)) (fun k => zi (k : Int)) 24 n_0 n_0 ?_ ?_ 700 (by omega)
  · intro rec k hk
    have hb := lay_bd A n x k
    have hb2 := mxl_bd A n x k
    simp (disch := omega) only [n_24, zi_le, ck_of km, Option.bind_some, p_lying km ks hx hk, n_1, zi_add, zi_lt, Int.natCast_add, Int.natCast_one, mxl]
    rw [if_neg (by omega)]
    split <;> rfl
  · intro rec
    simp (disch := omega) only [n_24, zi_le]
    rw [if_pos (by omega)]
