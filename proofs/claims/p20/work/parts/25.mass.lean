/-! no drop is lost -/
theorem hbS_of (A : Nat → Nat → Int) (l x y : Int) (k : Nat) : ((hbS A l x y k).1 = -1 ∧ (hbS A l x y k).2 = 0) ∨ ∃ i : Nat, i < k ∧ (hbS A l x y k).1 = i ∧ (hbS A l x y k).2 = A i 4 ∧ A i 4 < l ∧ cv (A i) x y = true := by
  induction k with
  | zero => exact .inl ⟨rfl, rfl⟩
  | succ k ih =>
    rw [hbS]
    split
    · rename_i h
      exact .inr ⟨k, by omega, rfl, rfl, h.1, h.2.2⟩
    · rcases ih with h | ⟨i, h1, h2⟩
      · exact .inl h
      · exact .inr ⟨i, by omega, h2⟩
theorem cv_out {a : Nat → Int} {x y : Int} (h : cv a x y = true) : a 6 = 1 ∧ a 0 ≤ x ∧ x < a 0 + a 2 ∧ a 1 ≤ y ∧ y < a 1 + a 3 := of_decide_eq_true h
def okS (σ : zS) : Prop := (∀ p q, 0 ≤ σ.1 p q) ∧ (∀ i, 0 ≤ σ.2.1 i) ∧ 0 ≤ σ.2.2
def mass (n : Nat) (p : Nat → Bool) (σ : zS) : Int := tot σ.1 + σ.2.2 + sm n (fun i => if p i = true then σ.2.1 i else 0)
theorem mass_congr {n : Nat} {p p' : Nat → Bool} {σ : zS} (h : ∀ i, i < n → p i = p' i) : mass n p σ = mass n p' σ := by
  rw [mass, mass, sm_congr fun i hi => by rw [h i hi]]
theorem fal_ok {A : Nat → Nat → Int} {n : Nat} {l x y d : Int} {σ : zS} (hd : 0 ≤ d) (o : okS σ) : okS (fal A n l x y d σ) := by
  obtain ⟨o1, o2, o3⟩ := o
  unfold fal
  split
  · split
    · refine ⟨fun p q => ?_, o2, o3⟩
      have := o1 p q
      simp only [add2]
      split <;> omega
    · refine ⟨o1, fun i => ?_, o3⟩
      have := o2 i
      simp only [add1]
      split <;> omega
  · exact ⟨o1, o2, by simp only; omega⟩
theorem fal_mass {A : Nat → Nat → Int} {n : Nat} {l x y d : Int} {σ : zS} {p : Nat → Bool} (hp : ∀ i, i < n → A i 6 = 1 → A i 4 < l → p i = true) : mass n p (fal A n l x y d σ) = mass n p σ + d := by
  unfold fal mass
  split
  · rename_i h1
    split
    · simp only
      rw [tot_add2 _ _ (by omega) (by omega)]
      omega
    · rename_i h2
      rcases hbS_of A l x y n with h3 | ⟨i, h3, h4, -, h5, h6⟩
      · omega
      · simp only [h4, Int.toNat_natCast]
        have h7 : (fun j => if p j = true then add1 σ.2.1 i d j else 0) = add1 (fun j => if p j = true then σ.2.1 j else 0) i d := by
          funext j
          by_cases hj : j = i
          · subst hj; simp [add1, hp j h3 (cv_out h6).1 h5]
          · simp [add1, hj]
        rw [h7, sm_add1 _ _ h3]
        omega
  · simp only; omega
theorem sm_share (m : Nat) (q r : Int) (hr : 0 ≤ r) : sm m (fun k => q + b1 (decide ((k : Int) < r))) = m * q + (if (m : Int) ≤ r then (m : Int) else r) := by
  induction m with
  | zero => simp [sm]; omega
  | succ m ih =>
    have h1 : ((m + 1 : Nat) : Int) * q = m * q + q := by rw [Int.natCast_add, Int.add_mul]; simp
    rw [sm, ih, h1]
    by_cases h2 : (m : Int) < r
    · simp only [h2, decide_true, b1, if_true]
      rw [if_pos (by omega), if_pos (by omega)]; omega
    · simp only [h2, decide_false, b1, Bool.false_eq_true, if_false]
      rw [if_neg (by omega : ¬((m + 1 : Nat) : Int) ≤ r)]
      split <;> omega
theorem share_all {K c : Int} (hc : 1 ≤ c) (hK : 0 ≤ K) : sm c.toNat (fun k => K / c + b1 (decide ((k : Int) < K % c))) = K := by
  have h1 : 0 ≤ K % c := Int.emod_nonneg _ (by omega)
  have h2 : K % c < c := Int.emod_lt_of_pos _ (by omega)
  have h3 := Int.mul_ediv_add_emod K c
  rw [sm_share _ _ _ h1, if_neg (by omega), Int.toNat_of_nonneg (by omega)]
  omega
theorem dpS_ok {A : Nat → Nat → Int} {n : Nat} {a : Nat → Int} {K : Int} {σ : zS} (hc : 1 ≤ cel a) (hK : 0 ≤ K) (o : okS σ) (k : Nat) : okS (dpS A n a K k σ) := by
  induction k with
  | zero => exact o
  | succ k ih =>
    have h1 : 0 ≤ K / cel a := Int.ediv_nonneg hK (by omega)
    have h2 := b1_bd (decide ((k : Int) < K % cel a))
    exact fal_ok (by omega) ih
theorem dpS_mass {A : Nat → Nat → Int} {n : Nat} {a : Nat → Int} {K : Int} {σ : zS} {p : Nat → Bool} (hp : ∀ i, i < n → A i 6 = 1 → A i 4 < a 4 → p i = true) (k : Nat) :
    mass n p (dpS A n a K k σ) = mass n p σ + sm k (fun j => K / cel a + b1 (decide ((j : Int) < K % cel a))) := by
  induction k with
  | zero => simp [dpS, sm]
  | succ k ih => rw [dpS, fal_mass hp, ih, sm]; omega
def pnd (A : Nat → Nat → Int) (l : Int) (k i : Nat) : Bool := decide (A i 6 = 1 ∧ (A i 4 < l ∨ A i 4 = l ∧ k ≤ i))
theorem pnd_iff {A : Nat → Nat → Int} {l : Int} {k i : Nat} : pnd A l k i = true ↔ A i 6 = 1 ∧ (A i 4 < l ∨ A i 4 = l ∧ k ≤ i) := decide_eq_true_iff
theorem sm_ge {n k : Nat} {f : Nat → Int} (h : ∀ i, i < n → 0 ≤ f i) (hk : k < n) : f k ≤ sm n f ∧ 0 ≤ sm n f := by
  induction n with
  | zero => omega
  | succ n ih =>
    have h1 : 0 ≤ sm n f := by
      clear ih hk
      induction n with
      | zero => simp [sm]
      | succ n ih2 =>
        have := ih2 fun i hi => h i (by omega)
        have := h n (by omega)
        rw [sm]; omega
    have h2 := h n (by omega)
    rw [sm]
    by_cases hk' : k = n
    · subst hk'; omega
    · have := ih (fun i hi => h i (by omega)) (by omega)
      omega
theorem sm_nn {n : Nat} {f : Nat → Int} (h : ∀ i, i < n → 0 ≤ f i) : 0 ≤ sm n f := by
  cases n with
  | zero => simp [sm]
  | succ n => exact (sm_ge h (Nat.zero_lt_succ n)).2
theorem tot_nn {F : Nat → Nat → Int} (h : ∀ p q, 0 ≤ F p q) : 0 ≤ tot F := sm_nn fun i _ => sm_nn fun j _ => h i j
theorem mass_K {n : Nat} {p : Nat → Bool} {σ : zS} {i : Nat} (o : okS σ) (hi : i < n) (hp : p i = true) : σ.2.1 i ≤ mass n p σ := by
  have h1 := tot_nn o.1
  have h2 := (sm_ge (n := n) (k := i) (f := fun i => if p i = true then σ.2.1 i else 0) (fun j _ => by have := o.2.1 j; split <;> omega) hi).1
  have h3 := o.2.2
  simp only [hp, if_true] at h2
  rw [mass]
  omega
theorem drL_inv {A : Nat → Nat → Int} {n : Nat} {l T : Int} {σ : zS} (ho : ∀ i, i < n → okA (A i)) (o : okS σ) (hm : mass n (pnd A l 0) σ = T) :
    ∀ k, k ≤ n → okS (drL A n l k σ) ∧ mass n (pnd A l k) (drL A n l k σ) = T := by
  intro k
  induction k with
  | zero => exact fun _ => ⟨o, hm⟩
  | succ k ih =>
    intro hk
    obtain ⟨h1, h2⟩ := ih (by omega)
    rw [drL]
    split
    · rename_i h3
      have hc := cel_bd (ho k (by omega))
      have hK := h1.2.1 k
      refine ⟨dpS_ok (by omega) hK h1 _, ?_⟩
      rw [dpS_mass (fun i _ e1 e2 => pnd_iff.mpr ⟨e1, .inl (by omega)⟩), share_all (by omega) hK, ← h2, mass, mass]
      have h4 : (fun i => if pnd A l k i = true then (drL A n l k σ).2.1 i else 0) = add1 (fun i => if pnd A l (k + 1) i = true then (drL A n l k σ).2.1 i else 0) k ((drL A n l k σ).2.1 k) := by
        funext i
        by_cases hi : i = k
        · subst hi
          rw [if_pos (pnd_iff.mpr ⟨h3.1, .inr ⟨h3.2, by omega⟩⟩), add1, if_pos rfl, if_neg]
          · omega
          · rw [pnd_iff]; omega
        · rw [add1, if_neg hi]
          have : pnd A l k i = pnd A l (k + 1) i := by
            rw [Bool.eq_iff_iff, pnd_iff, pnd_iff]; omega
          rw [this]
      rw [h4, sm_add1 _ _ (by omega)]
      omega
    · rename_i h3
      refine ⟨h1, ?_⟩
      rw [← h2]
      refine mass_congr fun i _ => ?_
      rw [Bool.eq_iff_iff, pnd_iff, pnd_iff]
      by_cases hi : i = k
      · subst hi; omega
      · omega
theorem pX_inv {A : Nat → Nat → Int} {n : Nat} {d : Int} {y : Nat} {σ : zS} (ho : ∀ i, i < n → okA (A i)) (hd : 0 ≤ d) (o : okS σ) (k : Nat) : okS (pX A n d y k σ) ∧ mass n (pnd A 9 0) (pX A n d y k σ) = mass n (pnd A 9 0) σ + k * d := by
  induction k with
  | zero => exact ⟨o, by simp [pX]⟩
  | succ k ih =>
    have h1 : ((k + 1 : Nat) : Int) * d = k * d + d := by rw [Int.natCast_add, Int.add_mul]; simp
    refine ⟨fal_ok hd ih.1, ?_⟩
    rw [pX, fal_mass, ih.2, h1]
    · omega
    · intro i hi e1 e2
      have := ho i hi
      unfold okA at this
      exact pnd_iff.mpr ⟨e1, by omega⟩
theorem pY_inv {A : Nat → Nat → Int} {n : Nat} {d : Int} (ho : ∀ i, i < n → okA (A i)) (hd : 0 ≤ d) (k : Nat) : okS (pY A n d k) ∧ mass n (pnd A 9 0) (pY A n d k) = k * (24 * d) := by
  induction k with
  | zero =>
    refine ⟨⟨fun _ _ => by simp [pY], fun _ => by simp [pY], by simp [pY]⟩, ?_⟩
    have h1 : sm n (fun i => if pnd A 9 0 i = true then (0 : Int) else 0) = 0 := by simp only [ite_self, sm_zero]
    simp only [mass, pY, tot, sm_zero, h1]
    simp
  | succ k ih =>
    have h1 : ((k + 1 : Nat) : Int) * (24 * d) = k * (24 * d) + 24 * d := by rw [Int.natCast_add, Int.add_mul]; simp
    have h2 := pX_inv (A := A) (y := k) ho hd ih.1 24
    refine ⟨h2.1, ?_⟩
    rw [pY, h2.2, ih.2, h1]
    simp
theorem pL_inv {A : Nat → Nat → Int} {n : Nat} {d : Int} (ho : ∀ i, i < n → okA (A i)) (hd : 0 ≤ d) (m : Nat) : okS (pL A n d m) ∧ mass n (pnd A (9 - m) 0) (pL A n d m) = 576 * d := by
  induction m with
  | zero =>
    have h1 := pY_inv (A := A) ho hd 24
    refine ⟨h1.1, ?_⟩
    have h2 : ((24 : Nat) : Int) * (24 * d) = 576 * d := by omega
    rw [← h2, ← h1.2]
    rfl
  | succ m ih =>
    have h1 := drL_inv ho ih.1 ih.2 n (Nat.le_refl n)
    refine ⟨h1.1, ?_⟩
    rw [pL, ← h1.2]
    refine mass_congr fun i hi => ?_
    rw [Bool.eq_iff_iff, pnd_iff, pnd_iff]
    omega
theorem pL_K {A : Nat → Nat → Int} {n : Nat} {d : Int} (ho : ∀ i, i < n → okA (A i)) (hd : 0 ≤ d) (hd2 : d ≤ 100) (m j : Nat) (hj : j < n) (h1 : A j 6 = 1) (h2 : A j 4 = 9 - (m : Int)) :
    0 ≤ (drL A n (9 - m) j (pL A n d m)).2.1 j ∧ (drL A n (9 - m) j (pL A n d m)).2.1 j < 2147483648 := by
  have h3 := pL_inv (A := A) ho hd m
  have h4 := drL_inv ho h3.1 h3.2 j (by omega)
  refine ⟨h4.1.2.1 j, ?_⟩
  have h5 := mass_K (i := j) h4.1 hj (pnd_iff.mpr ⟨h1, .inr ⟨h2, Nat.le_refl j⟩⟩)
  rw [h4.2] at h5
  omega
theorem pL_total {A : Nat → Nat → Int} {n : Nat} {d : Int} (ho : ∀ i, i < n → okA (A i)) (hd : 0 ≤ d) : tot (pL A n d 9).1 + (pL A n d 9).2.2 = 576 * d := by
  have h1 := pL_inv (A := A) ho hd 9
  rw [← h1.2, mass, sm_congr (g := fun _ => 0), sm_zero]
  · omega
  · intro i hi
    have := ho i hi
    unfold okA at this
    rw [if_neg]
    rw [pnd_iff]
    omega
