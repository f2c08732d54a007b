/-! THE SIM, pure: what lies where -/
def aw8 (A : Nat → Int) (D : Int32) : Nat → Int32 := fun k => if k = 7 then D else zi (A k)
def kSm (h : zH) (m ra rs rg : Nat) (hr ro : Int32) : Prop := h m = some (zO 6 [.ref ra, .ref rs, .ref rg, .int hr, .int ro])
def kSa (h : zH) (ra n : Nat) (Pa : Nat → Nat) (A : Nat → Nat → Int) (D : Nat → Int32) : Prop := n ≤ 10 ∧ (∃ f, h ra = some (zD n f) ∧ ∀ i, i < n → f i = some (Pa i)) ∧ ∀ i, i < n → h (Pa i) = some (cA 8 (aw8 (A i) (D i))) ∧ okA (A i)
theorem ad_of {h : zH} {a n : Nat} {f : Nat → Option Nat} (e : h a = some (zD n f)) : z_ad h a = some (n, f) := by simp [z_ad, e]
theorem aD_of {h : zH} {a n : Nat} {f : Nat → Option Nat} {i : Int} (e : h a = some (zD n f)) (hn : n ≤ 100000) (h1 : 0 ≤ i) (h2 : i < n) : z_aD h a (zi i) = f i.toNat := by
  unfold z_aD
  rw [ad_of e, ob_some]
  have e1 : (zi i < 0) = (i < 0) := zi_lt (b := 0) (by omega) (by omega) (by omega) (by omega)
  have e2 : (zi i).toNatClampNeg = i.toNat := zi_nn (by omega) (by omega)
  simp only [e1, e2]
  rw [if_neg (by omega)]
theorem alD_of {h : zH} {a n : Nat} {f : Nat → Option Nat} (e : h a = some (zD n f)) : z_al h a = some (zi n) := by simp [z_al, e, zi_ofNat]
section Y
variable {h : zH} {m ra rs rg n : Nat} {hr ro : Int32} {Pa : Nat → Nat} {A : Nat → Nat → Int} {D : Nat → Int32}
theorem y_len (ks : kSa h ra n Pa A D) : z_al h ra = some (zi n) := by
  obtain ⟨f, g1, -⟩ := ks.2.1
  exact alD_of g1
theorem y_aw (ks : kSa h ra n Pa A D) {i : Nat} (hi : i < n) : z_aD h ra (zi i) = some (Pa i) := by
  obtain ⟨f, g1, g2⟩ := ks.2.1
  have := ks.1
  rw [aD_of g1 (by omega) (by omega) (by omega), Int.toNat_natCast, g2 i hi]
theorem y_f (ks : kSa h ra n Pa A D) {i : Nat} (hi : i < n) {k : Nat} (hk : k < 7) : z_aI h (Pa i) (zi k) = some (zi (A i k)) := by
  rw [cI_of (ks.2.2 i hi).1 (by omega) (by omega) (by omega), Int.toNat_natCast, aw8, if_neg (by omega)]
theorem y_f0 (ks : kSa h ra n Pa A D) {i : Nat} (hi : i < n) : z_aI h (Pa i) 0 = some (zi (A i 0)) := y_f ks hi (k := 0) (by omega)
theorem y_f1 (ks : kSa h ra n Pa A D) {i : Nat} (hi : i < n) : z_aI h (Pa i) 1 = some (zi (A i 1)) := y_f ks hi (k := 1) (by omega)
theorem y_f2 (ks : kSa h ra n Pa A D) {i : Nat} (hi : i < n) : z_aI h (Pa i) 2 = some (zi (A i 2)) := y_f ks hi (k := 2) (by omega)
theorem y_f3 (ks : kSa h ra n Pa A D) {i : Nat} (hi : i < n) : z_aI h (Pa i) 3 = some (zi (A i 3)) := y_f ks hi (k := 3) (by omega)
theorem y_f4 (ks : kSa h ra n Pa A D) {i : Nat} (hi : i < n) : z_aI h (Pa i) 4 = some (zi (A i 4)) := y_f ks hi (k := 4) (by omega)
theorem y_f5 (ks : kSa h ra n Pa A D) {i : Nat} (hi : i < n) : z_aI h (Pa i) 5 = some (zi (A i 5)) := y_f ks hi (k := 5) (by omega)
theorem y_f6 (ks : kSa h ra n Pa A D) {i : Nat} (hi : i < n) : z_aI h (Pa i) 6 = some (zi (A i 6)) := y_f ks hi (k := 6) (by omega)
theorem y_f7 (ks : kSa h ra n Pa A D) {i : Nat} (hi : i < n) : z_aI h (Pa i) 7 = some (D i) := by
  have e : z_aI h (Pa i) (zi (7 : Nat)) = some (D i) := by
    rw [cI_of (ks.2.2 i hi).1 (by omega) (by omega) (by omega), Int.toNat_natCast, aw8, if_pos rfl]
  exact e
theorem y_lies (km : kSm h m ra rs rg hr ro) (ks : kSa h ra n Pa A D) {i : Nat} (hi : i < n) {x y : Int} (hx : -100 ≤ x ∧ x ≤ 100) (hy : -100 ≤ y ∧ y ≤ 100) : M_X5_lies h m (zi i) (zi x) (zi y) = some (zi (b1 (cv (A i) x y))) := by
  obtain ⟨o0, o1, o2, o3, o4, o5, o6, o7, o8, o9, o10, o11⟩ := (ks.2.2 i hi).2
  have q1 : (zi (A i 6) = 1) = (A i 6 = 1) := zi_eq (b := 1) (by omega) (by omega) (by omega) (by omega)
  simp (disch := omega) only [M_X5_lies, gR_of km (k := 0) rfl, ob_some, Option.bind_none, jn0_e, jn1_e, jn2_e, jn3_e, jn4_e, jn5_e, y_aw ks hi, y_f6 ks hi, y_f0 ks hi, y_f1 ks hi, y_f2 ks hi, y_f3 ks hi, q1, zi_add, zi_lt, zi_le, zi_eq]
  repeat' split
  all_goals first | (rw [cv_f (by omega)]; rfl) | (rw [cv_t (by omega)]; rfl)
theorem b1_z (b : Bool) : (zi (b1 b) = 0) = (b = false) := by cases b <;> decide
theorem b1_z0 (b : Bool) : (zi (b1 b) = zi 0) = (b = false) := b1_z b
theorem lay_s (A : Nat → Nat → Int) (k : Nat) (x y : Int) : lay A (k + 1) x y = lay A k x y + b1 (cv (A k) x y) := rfl
theorem y_lying (km : kSm h m ra rs rg hr ro) (ks : kSa h ra n Pa A D) {x y : Int} (hx : -100 ≤ x ∧ x ≤ 100) (hy : -100 ≤ y ∧ y ≤ 100) : M_X5_lying h m (zi x) (zi y) = some (zi (lay A n x y)) := by
  have hn := ks.1
  unfold M_X5_lying
  refine wl2_st (fun k => zi (lay A k x y)) (fun k => zi (k : Int)) n n_0 n_0 ?_ ?_ 700 (by omega)
  · intro rec k hk
    simp (disch := omega) only [gR_of km (k := 0) rfl, ob_some, Option.bind_none, jn0_e, jn1_e, jn2_e, jn3_e, jn4_e, jn5_e, y_len ks, zi_le, ck_of km, y_lies km ks hk, b1_z]
    rw [if_neg (by omega)]
    have e1 : zi (k : Int) + 1 = zi ((k + 1 : Nat) : Int) := zi_add _ 1
    simp only [lay_s]
    rw [e1]
    cases hc : cv (A k) x y
    · rw [if_pos rfl]
      exact congrArg (fun z => rec z _) (zi_add _ 0)
    · rw [if_neg (by decide)]
      exact congrArg (fun z => rec z _) (zi_add _ 1)
  · intro rec
    simp (disch := omega) only [gR_of km (k := 0) rfl, ob_some, Option.bind_none, jn0_e, jn1_e, jn2_e, jn3_e, jn4_e, jn5_e, y_len ks, zi_le]
    rw [if_pos (by omega)]
theorem y_isCov (km : kSm h m ra rs rg hr ro) (ks : kSa h ra n Pa A D) {x y : Int} (hx : -100 ≤ x ∧ x ≤ 100) (hy : -100 ≤ y ∧ y ≤ 100) : M_X5_isCovered h m (zi x) (zi y) = some (zi (b1 (pq A n x y))) := by
  have hb := lay_bd A n x y
  have hn := ks.1
  have e1 : (zi x < 0) = (x < 0) := zi_lt (b := 0) (by omega) (by omega) (by omega) (by omega)
  have e2 : (zi y < 0) = (y < 0) := zi_lt (b := 0) (by omega) (by omega) (by omega) (by omega)
  have e3 : (zi (lay A n x y) ≤ 0) = (lay A n x y ≤ 0) := zi_le (b := 0) (by omega) (by omega) (by omega) (by omega)
  have hout := fun g => lay_out (A := A) (n := n) (x := x) (y := y) (fun i hi => (ks.2.2 i hi).2) g
  simp (disch := omega) only [M_X5_isCovered, n_24, ob_some, Option.bind_none, jn0_e, jn1_e, jn2_e, jn3_e, jn4_e, jn5_e, ck_of km, y_lying km ks hx hy, e1, e2, e3, zi_le]
  have f0 : ∀ {p : Prop}, (lay A n x y = 0) → some (0 : Int32) = some (zi (b1 (pq A n x y))) := fun h => by rw [pq, decide_eq_false (by omega)]; rfl
  by_cases g1 : x < 0
  · rw [if_pos g1]; exact f0 (p := True) (hout (by omega))
  · rw [if_neg g1]
    by_cases g2 : y < 0
    · rw [if_pos g2]; exact f0 (p := True) (hout (by omega))
    · rw [if_neg g2]
      by_cases g3 : 24 ≤ x
      · rw [if_pos g3]; exact f0 (p := True) (hout (by omega))
      · rw [if_neg g3]
        by_cases g4 : 24 ≤ y
        · rw [if_pos g4]; exact f0 (p := True) (hout (by omega))
        · rw [if_neg g4]
          by_cases g5 : lay A n x y ≤ 0
          · rw [if_pos g5]; exact f0 (p := True) (by omega)
          · rw [if_neg g5, pq, decide_eq_true (by omega)]; rfl
/-- the highest, from the last one on -/
def shS (A : Nat → Nat → Int) (l x y : Int) (n : Nat) : Nat → Int
  | 0 => -1
  | k + 1 => if cv (A (n - 1 - k)) x y = true ∧ A (n - 1 - k) 4 < l ∧ (shS A l x y n k < 0 ∨ A (shS A l x y n k).toNat 4 ≤ A (n - 1 - k) 4) then ((n - 1 - k : Nat) : Int) else shS A l x y n k
theorem shS_Hi (A : Nat → Nat → Int) (l x y : Int) (n k : Nat) (hk : k ≤ n) : (shS A l x y n k = -1 ∧ ∀ j, n - k ≤ j → j < n → ¬(A j 4 < l ∧ cv (A j) x y = true)) ∨
    ∃ i : Nat, n - k ≤ i ∧ i < n ∧ shS A l x y n k = i ∧ (A i 4 < l ∧ cv (A i) x y = true) ∧ ∀ j, n - k ≤ j → j < n → (A j 4 < l ∧ cv (A j) x y = true) → j ≠ i → hgh A i j := by
  induction k with
  | zero => exact .inl ⟨rfl, fun j h1 h2 => by omega⟩
  | succ k ih =>
    have h1 := ih (by omega)
    rw [shS]
    split
    · rename_i h2
      refine .inr ⟨n - 1 - k, by omega, by omega, rfl, ⟨h2.2.1, h2.1⟩, fun j g1 g2 g3 g4 => ?_⟩
      rcases h1 with ⟨-, h6⟩ | ⟨i, q0, q1, q2, q3, q4⟩
      · exact absurd g3 (h6 j (by omega) g2)
      · have h3 := h2.2.2
        rw [q2, Int.toNat_natCast] at h3
        by_cases hji : j = i
        · subst hji
          unfold hgh
          omega
        · have := q4 j (by omega) g2 g3 hji
          unfold hgh at *
          omega
    · rename_i h2
      rcases h1 with ⟨h5, h6⟩ | ⟨i, q0, q1, q2, q3, q4⟩
      · refine .inl ⟨h5, fun j g1 g2 g3 => ?_⟩
        by_cases hj : j = n - 1 - k
        · subst hj
          exact h2 ⟨g3.2, g3.1, .inl (by omega)⟩
        · exact h6 j (by omega) g2 g3
      · refine .inr ⟨i, by omega, q1, q2, q3, fun j g1 g2 g3 g4 => ?_⟩
        by_cases hj : j = n - 1 - k
        · subst hj
          rw [q2, Int.toNat_natCast] at h2
          have : ¬ A i 4 ≤ A (n - 1 - k) 4 := fun g5 => h2 ⟨g3.2, g3.1, .inr g5⟩
          unfold hgh
          omega
        · exact q4 j (by omega) g2 g3 g4
theorem shS_eq {A : Nat → Nat → Int} {l x y : Int} {n : Nat} (ho : ∀ i, i < n → okA (A i)) : shS A l x y n n = (hbS A l x y n).1 := by
  refine Hi_uniq (A := A) (n := n) (P := fun j => A j 4 < l ∧ cv (A j) x y = true) ?_ (hbS_Hi n ho) (fun j _ => Iff.rfl)
  rcases shS_Hi A l x y n n (Nat.le_refl n) with ⟨h1, h2⟩ | ⟨i, h0, h1, h2, h3, h4⟩
  · exact .inl ⟨h1, fun j hj => h2 j (by omega) hj⟩
  · exact .inr ⟨i, h1, h2, h3, fun j hj g1 g2 => h4 j (by omega) hj g1 g2⟩
theorem shS_bd (A : Nat → Nat → Int) (l x y : Int) (n k : Nat) (hk : k ≤ n) : -1 ≤ shS A l x y n k ∧ shS A l x y n k < n := by
  rcases shS_Hi A l x y n k hk with ⟨h1, -⟩ | ⟨i, h0, h1, h2, -⟩
  · omega
  · omega
theorem y_highest (km : kSm h m ra rs rg hr ro) (ks : kSa h ra n Pa A D) {x y l : Int} (hx : -100 ≤ x ∧ x ≤ 100) (hy : -100 ≤ y ∧ y ≤ 100) (hl : -100 ≤ l ∧ l ≤ 100) : M_X5_highest h m (zi x) (zi y) (zi l) = some (zi (hbS A l x y n).1) := by
  have hn := ks.1
  have ho : ∀ i, i < n → okA (A i) := fun i hi => (ks.2.2 i hi).2
  simp only [M_X5_highest, gR_of km (k := 0) rfl, ob_some, y_len ks]
  refine wl2_st (fun k => zi (shS A l x y n k)) (fun k => zi ((n : Int) - 1 - k)) n n_m1 (by rw [n_1, zi_sub]; congr 1; omega) ?_ ?_ 700 (by omega)
  · intro rec k hk
    have hb := shS_bd A l x y n k (by omega)
    have e0 : ((n : Int) - 1 - k) = ((n - 1 - k : Nat) : Int) := by omega
    rw [e0]
    have hi : n - 1 - k < n := by omega
    have e1 : (zi ((n - 1 - k : Nat) : Int) < 0) = (((n - 1 - k : Nat) : Int) < 0) := zi_lt (b := 0) (by omega) (by omega) (by omega) (by omega)
    have e2 : (zi (shS A l x y n k) < 0) = (shS A l x y n k < 0) := zi_lt (b := 0) (by omega) (by omega) (by omega) (by omega)
    have o := ho _ hi
    unfold okA at o
    have e3 : (zi l ≤ zi (A (n - 1 - k) 4)) = (l ≤ A (n - 1 - k) 4) := zi_le (by omega) (by omega) (by omega) (by omega)
    have e4 : zi ((n - 1 - k : Nat) : Int) + (-1) = zi ((n : Int) - 1 - (k + 1 : Nat)) := by rw [n_m1, zi_add]; congr 1; omega
    simp only [e1, ck_of km, ob_some, y_lies km ks hi hx hy, b1_z, gR_of km (k := 0) rfl, y_aw ks hi, y_f4 ks hi, e3, e2, jn0_e, jn1_e, e4]
    rw [if_neg (by omega), shS]
    cases hc : cv (A (n - 1 - k)) x y
    · rw [if_pos rfl, if_neg (by simp)]
    · rw [if_neg (by decide)]
      by_cases g1 : l ≤ A (n - 1 - k) 4
      · rw [if_pos g1, if_neg (by omega)]
      · rw [if_neg g1]
        by_cases g2 : shS A l x y n k < 0
        · rw [if_pos g2, if_pos ⟨rfl, by omega, .inl g2⟩]
        · rw [if_neg g2]
          obtain ⟨j, hj⟩ : ∃ j : Nat, shS A l x y n k = j := ⟨(shS A l x y n k).toNat, by omega⟩
          have hjn : j < n := by omega
          have oj := ho j hjn
          unfold okA at oj
          have e5 : (zi (A (n - 1 - k) 4) < zi (A j 4)) = (A (n - 1 - k) 4 < A j 4) := zi_lt (by omega) (by omega) (by omega) (by omega)
          rw [hj, Int.toNat_natCast]
          simp only [y_aw ks hjn, ob_some, y_f4 ks hjn, e5]
          by_cases g3 : A (n - 1 - k) 4 < A j 4
          · rw [if_pos g3, if_neg (by omega)]
          · rw [if_neg g3, if_pos ⟨trivial, by omega, .inr (by omega)⟩]
  · intro rec
    have e1 : (zi ((n : Int) - 1 - n) < 0) = (((n : Int) - 1 - n) < 0) := zi_lt (b := 0) (by omega) (by omega) (by omega) (by omega)
    simp only [e1]
    rw [if_pos (by omega), shS_eq ho]
/-- a sum over the square, column by column -/
theorem y_dbl {R : Type} (B : (Int32 → Int32 → Option R) → Int32 → Int32 → Int32 → Option R) (E : Int32 → Option R) (g : Nat → Nat → Int) (hB : ∀ (rec : Int32 → Int32 → Option R) (X : Int) (x y : Nat), x < 24 → y < 24 → B rec (zi X) (zi x) (zi y) = rec (zi (X + g x y)) (zi ((y + 1 : Nat) : Int))) :
    wl2 (fun (rec1 : Int32 → Int32 → Option R) (x1 : Int32) (x2 : Int32) => (if (24 : Int32) ≤ x2 then E x1 else wl2 (fun (rec2 : Int32 → Int32 → Option R) (x3 : Int32) (x4 : Int32) => (if (24 : Int32) ≤ x4 then (rec1 x3 (x2 + (1 : Int32))) else B rec2 x3 x2 x4)) 700 x1 (0 : Int32))) 700 (0 : Int32) (0 : Int32) = E (zi (tot g)) := by
  refine wl2_st (fun x => zi (sm x fun x => sm 24 (g x))) (fun x => zi (x : Int)) 24 n_0 n_0 ?_ ?_ 700 (by omega)
  · intro rec x hx
    simp (disch := omega) only [n_24, zi_le]
    rw [if_neg (by omega)]
    refine wl2_st (fun y => zi ((sm x fun x => sm 24 (g x)) + sm y (g x))) (fun y => zi (y : Int)) 24 (by rw [sm, Int.add_zero]) n_0 ?_ ?_ 700 (by omega)
    · intro rec2 y hy
      simp (disch := omega) only [zi_le]
      rw [if_neg (by omega), hB _ _ x y hx hy, Int.add_assoc]
      rfl
    · intro rec2
      simp (disch := omega) only [zi_le, n_1, zi_add, Int.natCast_add, Int.natCast_one]
      rw [if_pos (by omega)]
      rfl
  · intro rec
    simp (disch := omega) only [n_24, zi_le]
    rw [if_pos (by omega)]
    rfl
theorem y_covered (km : kSm h m ra rs rg hr ro) (ks : kSa h ra n Pa A D) : M_X5_covered h m = some (zi (tot fun x y => b1 (pq A n x y))) := by
  unfold M_X5_covered
  refine y_dbl _ some _ fun rec X x y hx hy => ?_
  simp (disch := omega) only [ck_of km, ob_some, y_isCov km ks, jn2_e, b1_z, n_1, n_0, zi_add, Int.natCast_add, Int.natCast_one]
  cases pq A n x y <;> rfl
theorem y_own (km : kSm h m ra rs rg hr ro) (ks : kSa h ra n Pa A D) {i : Nat} (hi : i < n) : M_X5_own h m (zi i) = some (zi (ownS A n i)) := by
  unfold M_X5_own ownS
  refine y_dbl _ some _ fun rec X x y hx hy => ?_
  have hb := lay_bd A n x y
  have hn := ks.1
  have q1 : (zi (lay A n x y) = zi 1) = (lay A n x y = 1) := zi_eq (by omega) (by omega) (by omega) (by omega)
  simp (disch := omega) only [ck_of km, ob_some, y_lies km ks hi, y_lying km ks, jn1_e, jn2_e, b1_z, n_1, n_0, q1, zi_add, Int.natCast_add, Int.natCast_one]
  cases cv (A i) x y
  · rfl
  · rw [if_neg (by decide), Bool.true_and]
    by_cases g : lay A n x y = 1
    · rw [if_pos g, decide_eq_true g]; rfl
    · rw [if_neg g, decide_eq_false g]; rfl
theorem y_shared (km : kSm h m ra rs rg hr ro) (ks : kSa h ra n Pa A D) {i j : Nat} (hi : i < n) (hj : j < n) : M_X5_shared h m (zi i) (zi j) = some (zi (shrS A i j)) := by
  unfold M_X5_shared shrS
  refine y_dbl _ some _ fun rec X x y hx hy => ?_
  simp (disch := omega) only [ck_of km, ob_some, y_lies km ks hi, y_lies km ks hj, jn1_e, jn2_e, b1_z, n_1, n_0, zi_add, Int.natCast_add, Int.natCast_one]
  cases cv (A i) x y
  · rfl
  · cases cv (A j) x y <;> rfl
theorem y_outline (km : kSm h m ra rs rg hr ro) (ks : kSa h ra n Pa A D) : M_X5_outline h m = some (zi (tot (olS A n))) := by
  unfold M_X5_outline
  refine y_dbl _ some _ fun rec X x y hx hy => ?_
  simp (disch := omega) only [ck_of km, ob_some, y_isCov km ks, n_1, n_0, zi_sub, zi_add, Int.natCast_add, Int.natCast_one, olS]
  generalize pq A n x y = c0
  generalize pq A n ((x : Int) - 1) y = c1
  generalize pq A n ((x : Int) + 1) y = c2
  generalize pq A n x ((y : Int) - 1) = c3
  generalize pq A n x ((y : Int) + 1) = c4
  cases c0
  · simp [jn1_e, b1_z0, b1]
  · cases c1 <;> cases c2 <;> cases c3 <;> cases c4 <;> simp only [jn1_e, jn2_e, jn3_e, b1_z0, if_true, if_false, Bool.false_eq_true, reduceIte, zi_add, reduceCtorEq] <;> simp [b1]
end Y
