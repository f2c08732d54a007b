/-! the reference's hour is the class's -/
theorem fal_K {A : Nat → Nat → Int} {n i : Nat} {l x y d : Int} {σ : zS} (h : l ≤ A i 4) : (fal A n l x y d σ).2.1 i = σ.2.1 i := by
  unfold fal
  split
  · split
    · rfl
    · rcases hbS_of A l x y n with h3 | ⟨j, h3, h4, -, h5, -⟩
      · omega
      · simp only [h4, Int.toNat_natCast, add1]
        rw [if_neg]
        intro e
        subst e
        omega
  · rfl
theorem dpS_K {A : Nat → Nat → Int} {n i : Nat} {K : Int} {σ : zS} (k : Nat) : (dpS A n (A i) K k σ).2.1 i = σ.2.1 i := by
  induction k with
  | zero => rfl
  | succ k ih => rw [dpS, fal_K (Int.le_refl _), ih]
theorem fal_in {A : Nat → Nat → Int} {n : Nat} {l x y d : Int} {σ : zS} (h : 0 ≤ x ∧ x < 24 ∧ 0 ≤ y ∧ y < 24) : (fal A n l x y d σ).2.2 = σ.2.2 := by
  unfold fal
  rw [if_pos h]
  split <;> rfl
theorem fal_out {A : Nat → Nat → Int} {n : Nat} {l x y d : Int} {σ : zS} (h : ¬(0 ≤ x ∧ x < 24 ∧ 0 ≤ y ∧ y < 24)) : fal A n l x y d σ = (σ.1, σ.2.1, σ.2.2 + d) := by
  unfold fal
  rw [if_neg h]
/-- the row or column beyond its side -/
def byd (a : Nat → Int) : Int := if a 5 = 0 ∨ a 5 = 2 then (if a 5 = 0 then a 0 - 1 else a 0 + a 2) else (if a 5 = 1 then a 1 - 1 else a 1 + a 3)
theorem byd_in {a : Nat → Int} (o : okA a) {k : Nat} (hk : (k : Int) < cel a) : (0 ≤ bX a k ∧ bX a k < 24 ∧ 0 ≤ bY a k ∧ bY a k < 24) ↔ (0 ≤ byd a ∧ byd a ≤ 23) := by
  unfold okA at o; unfold cel at hk; unfold bX bY byd
  by_cases h : a 5 = 0 ∨ a 5 = 2
  · simp only [if_pos h] at hk ⊢
    split <;> omega
  · simp only [if_neg h] at hk ⊢
    split <;> omega
theorem dpS_out {A : Nat → Nat → Int} {n : Nat} {a : Nat → Int} {K : Int} {σ : zS} (o : okA a) (hb : ¬(0 ≤ byd a ∧ byd a ≤ 23)) (k : Nat) (hk : (k : Int) ≤ cel a) :
    dpS A n a K k σ = (σ.1, σ.2.1, σ.2.2 + sm k (fun j => K / cel a + b1 (decide ((j : Int) < K % cel a)))) := by
  induction k with
  | zero => simp [dpS, sm]
  | succ k ih =>
    rw [dpS, fal_out (fun h => hb ((byd_in o (by omega)).mp h)), ih (by omega), sm, Int.add_assoc]
theorem dpS_in {A : Nat → Nat → Int} {n : Nat} {a : Nat → Int} {K : Int} {σ : zS} (o : okA a) (hb : 0 ≤ byd a ∧ byd a ≤ 23) (k : Nat) (hk : (k : Int) ≤ cel a) : (dpS A n a K k σ).2.2 = σ.2.2 := by
  induction k with
  | zero => rfl
  | succ k ih => rw [dpS, fal_in ((byd_in o (by omega)).mpr hb), ih (by omega)]
theorem hM_congr {m : Nat} {σ τ : zS} {h : zH} (e1 : σ.1 = τ.1) (e2 : σ.2.1 = τ.2.1) : hM m σ h = hM m τ h := by unfold hM; rw [e1, e2]
theorem md_loop {A : Nat → Nat → Int} {n i m : Nat} {K : Int} {h : zH} {σ : zS} (hc : 1 ≤ cel (A i) ∧ cel (A i) ≤ 24) (f : (Int32 → zH → Option (Int32 × zH)) → Int32 → zH → Option (Int32 × zH))
    (h1 : ∀ rec (j : Nat) τ, (j : Int) < cel (A i) → τ.2.1 i = σ.2.1 i → f rec (zi j) (hM m τ h) = rec (zi (j + 1)) (hM m (fal A n (A i 4) (bX (A i) j) (bY (A i) j) (K / cel (A i) + b1 (decide ((j : Int) < K % cel (A i)))) τ) h))
    (h2 : ∀ rec τ, f rec (zi (cel (A i)).toNat) (hM m τ h) = some (0, hM m τ h)) :
    wl2 f 700 0 (hM m σ h) = some (0, hM m (dpS A n (A i) K (cel (A i)).toNat σ) h) := by
  refine wl2_st (fun j => zi (j : Int)) (fun j => hM m (dpS A n (A i) K j σ) h) (cel (A i)).toNat n_0 rfl ?_ ?_ 700 (by omega)
  · intro rec j hj
    rw [h1 rec j _ (by omega) (dpS_K j), dpS, Int.natCast_add, Int.natCast_one]
  · intro rec
    exact h2 rec _
theorem md_step {h : zH} {m n sn : Nat} {th hr ro : Int32} {A : Nat → Nat → Int} {D : Nat → Int32} (km : kM h m th n sn hr ro) (ks : kSh h m n A D) {i : Nat} (hi : i < n) {K : Int} (hK : 0 ≤ K ∧ K < 2147483648) (hb : 0 ≤ byd (A i) ∧ byd (A i) ≤ 23)
    (j : Nat) (τ : zS) (X Y : Int32) (hj : (j : Int) < cel (A i)) (q2 : X = zi (bX (A i) j)) (q3 : Y = zi (bY (A i) j)) :
    M_X5_fall (hM m τ h) m X Y (zi (A i 4)) (zi (K / cel (A i)) + (if zi (K % cel (A i)) ≤ zi j then 0 else 1)) = some (hM m (fal A n (A i 4) (bX (A i) j) (bY (A i) j) (K / cel (A i) + b1 (decide ((j : Int) < K % cel (A i)))) τ) h) := by
  obtain ⟨hn, f, -, ho⟩ := id ks
  have o := (ho i hi).1
  have o' := o
  unfold okA at o'
  have hc := cel_bd o
  have hr1 : 0 ≤ K % cel (A i) := Int.emod_nonneg _ (by omega)
  have hr2 : K % cel (A i) < cel (A i) := Int.emod_lt_of_pos _ (by omega)
  rw [q2, q3]
  have hin := (byd_in o hj).mpr hb
  obtain ⟨x, hx⟩ : ∃ x : Nat, bX (A i) j = x := ⟨(bX (A i) j).toNat, by omega⟩
  obtain ⟨y, hy⟩ : ∃ y : Nat, bY (A i) j = y := ⟨(bY (A i) j).toNat, by omega⟩
  have e6 : (if zi (K % cel (A i)) ≤ zi j then (0 : Int32) else 1) = zi (b1 (decide ((j : Int) < K % cel (A i)))) := by
    simp (disch := omega) only [zi_le]
    by_cases h1 : (j : Int) < K % cel (A i)
    · rw [if_neg (by omega), decide_eq_true h1, n_1]; rfl
    · rw [if_pos (by omega), decide_eq_false h1, n_0]; rfl
  rw [e6, zi_add, hx, hy, p_fall km ks (by omega) (by omega) (by omega)]
theorem md_out {A : Nat → Nat → Int} {n i m : Nat} {h : zH} {σ : zS} (o : okA (A i)) (hK : 0 ≤ σ.2.1 i) (hb : ¬(0 ≤ byd (A i) ∧ byd (A i) ≤ 23)) :
    some (zi (σ.2.1 i), hM m σ h) = some (zi ((dpS A n (A i) (σ.2.1 i) (cel (A i)).toNat σ).2.2 - σ.2.2), hM m (dpS A n (A i) (σ.2.1 i) (cel (A i)).toNat σ) h) := by
  have hc := cel_bd o
  rw [dpS_out o hb _ (by omega), share_all (by omega) hK]
  simp only
  rw [show σ.2.2 + σ.2.1 i - σ.2.2 = σ.2.1 i from by omega, hM_congr (σ := (σ.1, σ.2.1, σ.2.2 + σ.2.1 i)) (τ := σ) rfl rfl]
theorem md_in {A : Nat → Nat → Int} {n i m : Nat} {h : zH} {σ : zS} (o : okA (A i)) (hb : 0 ≤ byd (A i) ∧ byd (A i) ≤ 23) :
    some (0, hM m (dpS A n (A i) (σ.2.1 i) (cel (A i)).toNat σ) h) = some (zi ((dpS A n (A i) (σ.2.1 i) (cel (A i)).toNat σ).2.2 - σ.2.2), hM m (dpS A n (A i) (σ.2.1 i) (cel (A i)).toNat σ) h) := by
  have hc := cel_bd o
  rw [dpS_in o hb _ (by omega), Int.sub_self, n_0]
theorem p_isIn23 {x : Int} (hx : -100 ≤ x ∧ x ≤ 100) : M_X5_isIn (zi x) 0 23 = some (zi (b1 (decide (0 ≤ x ∧ x ≤ 23)))) := by
  rw [n_0, n_23]
  exact p_isIn (by omega) (by omega) (by omega)
theorem p_mdrip {h : zH} {m n sn : Nat} {th hr ro : Int32} {A : Nat → Nat → Int} {D : Nat → Int32} {σ : zS} (km : kM h m th n sn hr ro) (ks : kSh h m n A D) {i : Nat} (hi : i < n) (hK : 0 ≤ σ.2.1 i ∧ σ.2.1 i < 2147483648) :
    M_X5_drip (hM m σ h) m (zi i) = some (zi ((dpS A n (A i) (σ.2.1 i) (cel (A i)).toNat σ).2.2 - σ.2.2), hM m (dpS A n (A i) (σ.2.1 i) (cel (A i)).toNat σ) h) := by
  obtain ⟨hn, f, -, ho⟩ := id ks
  have o := (ho i hi).1
  have o' := o
  unfold okA at o'
  have hc := cel_bd o
  have hr3 : σ.2.1 i - σ.2.1 i / cel (A i) * cel (A i) = σ.2.1 i % cel (A i) := by
    have := Int.mul_ediv_add_emod (σ.2.1 i) (cel (A i)); rw [Int.mul_comm] at this; omega
  have km' : ∀ σ, kM (hM m σ h) m th n sn hr ro := fun σ => kM_hM km
  have ks' : ∀ σ, kSh (hM m σ h) m n A D := fun σ => kSh_hM ks
  have e0 := p_of0 (km' σ) (ks' σ) hi
  have e1 := p_of1 (km' σ) (ks' σ) hi
  have e2 := p_of2 (km' σ) (ks' σ) hi
  have e3 := p_of3 (km' σ) (ks' σ) hi
  have e4 : ∀ τ : zS, M_X5_of (hM m τ h) m (zi i) 4 = some (zi (A i 4)) := fun τ => p_of4 (km' τ) (ks' τ) hi
  have e5 := p_of5 (km' σ) (ks' σ) hi
  have hcol : (zi (A i 5) - zi (A i 5) / 2 * 2 = 0) = (A i 5 = 0 ∨ A i 5 = 2) := by
    rw [n_2, n_0, zi_div (by omega) (by omega) (by omega) (by omega), zi_mul, zi_sub, zi_eq (by omega) (by omega) (by omega) (by omega)]
    exact propext ⟨fun h => by omega, fun h => by omega⟩
  have hlow : ((2 : Int32) ≤ zi (A i 5)) = (2 ≤ A i 5) := by
    rw [n_2]
    exact zi_le (by omega) (by omega) (by omega) (by omega)
  have h10 : ((1 : Int32) = 0) = False := eq_false (by decide)
  have hload : ∀ τ : zS, τ.2.1 i = σ.2.1 i → z_aI (hM m τ h) (m + 6) (zi i) = some (zi (σ.2.1 i)) := fun τ hτ => by
    rw [cI_of (hM_6 m τ h) (by omega) (by omega) (by omega), Int.toNat_natCast, hτ]
  have hdiv : zi (σ.2.1 i) / zi (cel (A i)) = zi (σ.2.1 i / cel (A i)) := zi_div (by omega) (by omega) (by omega) (by omega)
  have hmod : zi (σ.2.1 i) - zi (σ.2.1 i / cel (A i)) * zi (cel (A i)) = zi (σ.2.1 i % cel (A i)) := by rw [zi_mul, zi_sub, hr3]
  have hce0 : (zi (cel (A i)) = 0) = False := by rw [n_0, zi_eq (by omega) (by omega) (by omega) (by omega)]; exact eq_false (by omega)
  have hlej : ∀ j : Nat, (j : Int) < cel (A i) → (zi (cel (A i)) ≤ zi j) = False := fun j hj => by rw [zi_le (by omega) (by omega) (by omega) (by omega)]; exact eq_false (by omega)
  have hlec : (zi (cel (A i)) ≤ zi (cel (A i)).toNat) = True := by rw [zi_le (by omega) (by omega) (by omega) (by omega)]; exact eq_true (by omega)
  simp only [M_X5_drip, ck_of (km' _), ob_some, Option.bind_none, jn0_e, jn1_e, jn2_e, jn3_e, jn4_e, jn5_e, e5, hcol, hlow, gR_of (km' _) (k := 10) rfl]
  by_cases hs : A i 5 = 0 ∨ A i 5 = 2
  · have hce : cel (A i) = A i 3 := if_pos hs
    simp only [if_pos hs, h10, if_false, e3, ob_some, ← hce]
    have hbX : ∀ j, bX (A i) j = byd (A i) := fun j => by unfold bX byd; rw [if_pos hs, if_pos hs]
    have hbY : ∀ j : Nat, bY (A i) j = A i 1 + j := fun j => by unfold bY; rw [if_pos hs]
    by_cases hs2 : 2 ≤ A i 5
    · have hbe : byd (A i) = A i 0 + A i 2 := by unfold byd; rw [if_pos hs, if_neg (by omega)]
      simp only [if_pos hs2, e0, e2, ob_some, zi_add, ← hbe]
      simp only [p_isIn23 (x := byd (A i)) (by omega), ob_some, b1_0]
      by_cases hb : 0 ≤ byd (A i) ∧ byd (A i) ≤ 23
      · rw [if_neg (by omega), e1, ob_some]
        refine (md_loop hc _ (fun rec j τ hj hτ => ?_) (fun rec τ => ?_)).trans (md_in o hb)
        · have hstep := md_step km ks hi hK hb j τ (zi (byd (A i))) (zi (A i 1) + zi j) hj (by rw [hbX]) (by rw [hbY, zi_add])
          simp only [hlej j hj, if_false, gR_of (km' τ) (k := 10) rfl, ob_some, hload τ hτ, hce0, hmod, hdiv, ck_of (km' τ), e4 τ]
          by_cases hle : zi (σ.2.1 i % cel (A i)) ≤ zi j
          · simp only [if_pos hle] at hstep ⊢
            rw [hstep, ob_some, n_1, zi_add]
          · simp only [if_neg hle] at hstep ⊢
            rw [hstep, ob_some, n_1, zi_add]
        · simp only [hlec, if_true]
      · rw [if_pos (by omega), hload σ rfl]
        exact md_out o hK.1 hb
    · have hbe : byd (A i) = A i 0 - 1 := by unfold byd; rw [if_pos hs, if_pos (by omega)]
      have hm1 : zi (A i 0) - 1 = zi (byd (A i)) := by rw [n_1, zi_sub, hbe]
      simp only [if_neg hs2, e0, ob_some, hm1]
      simp only [p_isIn23 (x := byd (A i)) (by omega), ob_some, b1_0]
      by_cases hb : 0 ≤ byd (A i) ∧ byd (A i) ≤ 23
      · rw [if_neg (by omega), e1, ob_some]
        refine (md_loop hc _ (fun rec j τ hj hτ => ?_) (fun rec τ => ?_)).trans (md_in o hb)
        · have hstep := md_step km ks hi hK hb j τ (zi (byd (A i))) (zi (A i 1) + zi j) hj (by rw [hbX]) (by rw [hbY, zi_add])
          simp only [hlej j hj, if_false, gR_of (km' τ) (k := 10) rfl, ob_some, hload τ hτ, hce0, hmod, hdiv, ck_of (km' τ), e4 τ]
          by_cases hle : zi (σ.2.1 i % cel (A i)) ≤ zi j
          · simp only [if_pos hle] at hstep ⊢
            rw [hstep, ob_some, n_1, zi_add]
          · simp only [if_neg hle] at hstep ⊢
            rw [hstep, ob_some, n_1, zi_add]
        · simp only [hlec, if_true]
      · rw [if_pos (by omega), hload σ rfl]
        exact md_out o hK.1 hb
  · have hce : cel (A i) = A i 2 := if_neg hs
    simp only [if_neg hs, if_true, e2, ob_some, ← hce]
    have hbX : ∀ j : Nat, bX (A i) j = A i 0 + j := fun j => by unfold bX; rw [if_neg hs]
    have hbY : ∀ j, bY (A i) j = byd (A i) := fun j => by unfold bY byd; rw [if_neg hs, if_neg hs]
    by_cases hs2 : 2 ≤ A i 5
    · have hbe : byd (A i) = A i 1 + A i 3 := by unfold byd; rw [if_neg hs, if_neg (by omega)]
      simp only [if_pos hs2, e1, e3, ob_some, zi_add, ← hbe]
      simp only [p_isIn23 (x := byd (A i)) (by omega), ob_some, b1_0]
      by_cases hb : 0 ≤ byd (A i) ∧ byd (A i) ≤ 23
      · rw [if_neg (by omega), e0, ob_some]
        refine (md_loop hc _ (fun rec j τ hj hτ => ?_) (fun rec τ => ?_)).trans (md_in o hb)
        · have hstep := md_step km ks hi hK hb j τ (zi (A i 0) + zi j) (zi (byd (A i))) hj (by rw [hbX, zi_add]) (by rw [hbY])
          simp only [hlej j hj, if_false, gR_of (km' τ) (k := 10) rfl, ob_some, hload τ hτ, hce0, hmod, hdiv, ck_of (km' τ), e4 τ]
          by_cases hle : zi (σ.2.1 i % cel (A i)) ≤ zi j
          · simp only [if_pos hle] at hstep ⊢
            rw [hstep, ob_some, n_1, zi_add]
          · simp only [if_neg hle] at hstep ⊢
            rw [hstep, ob_some, n_1, zi_add]
        · simp only [hlec, if_true]
      · rw [if_pos (by omega), hload σ rfl]
        exact md_out o hK.1 hb
    · have hbe : byd (A i) = A i 1 - 1 := by unfold byd; rw [if_neg hs, if_pos (by omega)]
      have hm1 : zi (A i 1) - 1 = zi (byd (A i)) := by rw [n_1, zi_sub, hbe]
      simp only [if_neg hs2, e1, ob_some, hm1]
      simp only [p_isIn23 (x := byd (A i)) (by omega), ob_some, b1_0]
      by_cases hb : 0 ≤ byd (A i) ∧ byd (A i) ≤ 23
      · rw [if_neg (by omega), e0, ob_some]
        refine (md_loop hc _ (fun rec j τ hj hτ => ?_) (fun rec τ => ?_)).trans (md_in o hb)
        · have hstep := md_step km ks hi hK hb j τ (zi (A i 0) + zi j) (zi (byd (A i))) hj (by rw [hbX, zi_add]) (by rw [hbY])
          simp only [hlej j hj, if_false, gR_of (km' τ) (k := 10) rfl, ob_some, hload τ hτ, hce0, hmod, hdiv, ck_of (km' τ), e4 τ]
          by_cases hle : zi (σ.2.1 i % cel (A i)) ≤ zi j
          · simp only [if_pos hle] at hstep ⊢
            rw [hstep, ob_some, n_1, zi_add]
          · simp only [if_neg hle] at hstep ⊢
            rw [hstep, ob_some, n_1, zi_add]
        · simp only [hlec, if_true]
      · rw [if_pos (by omega), hload σ rfl]
        exact md_out o hK.1 hb
