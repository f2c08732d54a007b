/-! the class's hour of rain -/
def cel (a : Nat → Int) : Int := if a 5 = 0 ∨ a 5 = 2 then a 3 else a 2
def bX (a : Nat → Int) (k : Nat) : Int := if a 5 = 0 ∨ a 5 = 2 then (if a 5 = 0 then a 0 - 1 else a 0 + a 2) else a 0 + k
def bY (a : Nat → Int) (k : Nat) : Int := if a 5 = 0 ∨ a 5 = 2 then a 1 + k else (if a 5 = 1 then a 1 - 1 else a 1 + a 3)
theorem cel_bd {a : Nat → Int} (o : okA a) : 1 ≤ cel a ∧ cel a ≤ 24 := by
  unfold okA at o; unfold cel; split <;> omega
theorem bXY_bd {a : Nat → Int} (o : okA a) {k : Nat} (hk : (k : Int) < cel a) : -1 ≤ bX a k ∧ bX a k ≤ 24 ∧ -1 ≤ bY a k ∧ bY a k ≤ 24 := by
  unfold okA at o; unfold cel at hk; unfold bX bY
  repeat' split
  all_goals (split at hk <;> omega)
theorem p_along {h : zH} {p : Nat} {a : Nat → Int} {D : Int32} (hp : h p = some (oA a D)) (o : okA a) : M_X0_dripsAlongRows h p = some (if a 5 = 0 ∨ a 5 = 2 then 1 else 0) := by
  unfold okA at o
  simp (disch := omega) only [M_X0_dripsAlongRows, gI_of hp (k := 5) rfl, ob_some, Option.bind_none, jn0_e, jn1_e, jn2_e, jn3_e, jn4_e, jn5_e, n_0, n_2, zi_eq]
  by_cases h1 : a 5 = 0
  · rw [if_pos h1, if_pos (.inl h1)]
  · rw [if_neg h1]
    by_cases h2 : a 5 = 2
    · rw [if_pos h2, if_pos (.inr h2)]
    · rw [if_neg h2, if_neg (by omega)]
theorem p_cel {h : zH} {p : Nat} {a : Nat → Int} {D : Int32} (hp : h p = some (oA a D)) (o : okA a) : M_X0_cellsBeyond h p = some (zi (cel a)) := by
  simp only [M_X0_cellsBeyond, ck_of hp, Option.bind_some, p_along hp o, gI_of hp (k := 2) rfl, gI_of hp (k := 3) rfl]
  unfold cel
  by_cases h1 : a 5 = 0 ∨ a 5 = 2
  · rw [if_pos h1, if_neg (by decide), if_pos h1]
  · rw [if_neg h1, if_pos rfl, if_neg h1]
theorem p_bX {h : zH} {p : Nat} {a : Nat → Int} {D : Int32} (hp : h p = some (oA a D)) (o : okA a) (k : Nat) : M_X0_columnBeyond h p (zi k) = some (zi (bX a k)) := by
  have o' := o
  unfold okA at o'
  simp (disch := omega) only [M_X0_columnBeyond, ck_of hp, Option.bind_some, p_along hp o, gI_of hp (k := 0) rfl, gI_of hp (k := 2) rfl, gI_of hp (k := 5) rfl, zi_add, n_1, zi_sub]
  unfold bX
  by_cases h1 : a 5 = 0 ∨ a 5 = 2
  · have h3 : (zi (a 5) = 0) = (a 5 = 0) := zi_eq (b := 0) (by omega) (by omega) (by omega) (by omega)
    rw [if_pos h1, if_neg (by decide), if_pos h1]
    simp only [h3]
    split <;> rfl
  · rw [if_neg h1, if_pos rfl, if_neg h1]
theorem p_bY {h : zH} {p : Nat} {a : Nat → Int} {D : Int32} (hp : h p = some (oA a D)) (o : okA a) (k : Nat) : M_X0_rowBeyond h p (zi k) = some (zi (bY a k)) := by
  have o' := o
  unfold okA at o'
  simp (disch := omega) only [M_X0_rowBeyond, ck_of hp, Option.bind_some, p_along hp o, gI_of hp (k := 1) rfl, gI_of hp (k := 3) rfl, gI_of hp (k := 5) rfl, zi_add, n_1, zi_sub, zi_eq]
  unfold bY
  by_cases h1 : a 5 = 0 ∨ a 5 = 2
  · rw [if_pos h1, if_neg (by decide), if_pos h1]
  · rw [if_neg h1, if_pos rfl, if_neg h1]
    split <;> rfl
def dpS (A : Nat → Nat → Int) (n : Nat) (a : Nat → Int) (K : Int) : Nat → zS → zS
  | 0, σ => σ
  | k + 1, σ => fal A n (a 4) (bX a k) (bY a k) (K / cel a + b1 (decide ((k : Int) < K % cel a))) (dpS A n a K k σ)
theorem p_drip {h : zH} {s c : Nat} {qd mc : Int32} {ea n : Nat} {P : Nat → Nat} {A : Nat → Nat → Int} {D : Nat → Int32} {σ : zS} (k : kW h c qd mc ea n P A D) (e : sepW s c ea n P) {i : Nat} (hi : i < n) {K : Int} (hK : 0 ≤ K ∧ K < 2147483648) :
    M_X2_drip (hS s c σ h) s (P i) (zi K) = some (hS s c (dpS A n (A i) K (cel (A i)).toNat σ) h) := by
  have hp : ∀ σ, hS s c σ h (P i) = some (oA (A i) (D i)) := fun σ => ((kW_hS (σ := σ) k e).2.2 i hi).1
  have o := (k.2.2 i hi).2
  have o' := o
  unfold okA at o'
  have hc := cel_bd o
  have hq : 0 ≤ K / cel (A i) := Int.ediv_nonneg hK.1 (by omega)
  have hr1 : 0 ≤ K % cel (A i) := Int.emod_nonneg _ (by omega)
  have hr2 : K % cel (A i) < cel (A i) := Int.emod_lt_of_pos _ (by omega)
  have hr3 : K - K / cel (A i) * cel (A i) = K % cel (A i) := by
    have := Int.mul_ediv_add_emod K (cel (A i)); rw [Int.mul_comm] at this; omega
  simp (disch := omega) only [M_X2_drip, ck_of (hp _), Option.bind_some, p_cel (hp _) o, n_0, n_1, zi_le, zi_eq]
  rw [if_pos (by omega), if_neg (by omega), if_neg (by omega)]
  refine wl2_st (fun j => zi (j : Int)) (fun j => hS s c (dpS A n (A i) K j σ) h) (cel (A i)).toNat rfl rfl ?_ ?_ 700 (by omega)
  · intro rec j hj
    have hb := bXY_bd o (k := j) (by omega)
    simp (disch := omega) only [ob_some, Option.bind_none, jn0_e, jn1_e, jn2_e, jn3_e, jn4_e, jn5_e, zi_le, ck_of (hp _), p_bX (hp _) o j, p_bY (hp _) o j, gI_of (hp _) (k := 4) rfl, ck_of (hS_0 s c _ h), zi_div, zi_mul, zi_sub, hr3, zi_add, Int.natCast_add, Int.natCast_one]
    rw [if_neg (by omega)]
    by_cases h1 : (j : Int) < K % cel (A i)
    · rw [if_neg (by omega), p_land k e (by omega) (by omega) (by omega)]
      simp only [Option.bind_some, dpS, h1, decide_true, b1, if_true]
    · rw [if_pos (by omega), p_land k e (by omega) (by omega) (by omega)]
      simp only [Option.bind_some, dpS, h1, decide_false, b1, Int.add_zero, Bool.false_eq_true, if_false]
  · intro rec
    simp (disch := omega) only [zi_le]
    rw [if_pos (by omega)]
def drL (A : Nat → Nat → Int) (n : Nat) (l : Int) : Nat → zS → zS
  | 0, σ => σ
  | k + 1, σ => if A k 6 = 1 ∧ A k 4 = l then dpS A n (A k) ((drL A n l k σ).2.1 k) (cel (A k)).toNat (drL A n l k σ) else drL A n l k σ
theorem p_caught {s c : Nat} {σ : zS} {h : zH} {i : Nat} (hi : i < 10) : M_X2_caughtBy (hS s c σ h) s (zi i) = some (zi (σ.2.1 i)) := by
  simp (disch := omega) only [M_X2_caughtBy, gR_of (hS_0 s c σ h) (k := 2) rfl, ob_some, Option.bind_none, jn0_e, jn1_e, jn2_e, jn3_e, jn4_e, jn5_e, al_of (hS_2 s c σ h), n_0, zi_lt, zi_le]
  rw [if_neg (by omega), if_neg (by omega), cI_of (hS_2 s c σ h) (by omega) (by omega) (by omega)]
  rfl
theorem p_dripLevel {h : zH} {s c : Nat} {qd mc : Int32} {ea n : Nat} {P : Nat → Nat} {A : Nat → Nat → Int} {D : Nat → Int32} {σ : zS} (k : kW h c qd mc ea n P A D) (e : sepW s c ea n P) {l : Int} (hl : -100 ≤ l ∧ l ≤ 100)
    (hK : ∀ j, j < n → A j 6 = 1 → A j 4 = l → 0 ≤ (drL A n l j σ).2.1 j ∧ (drL A n l j σ).2.1 j < 2147483648) :
    M_X2_dripFromLevel (hS s c σ h) s (zi l) = some (hS s c (drL A n l n σ) h) := by
  have hn := k.2.1.2.1
  unfold M_X2_dripFromLevel
  refine wl2_st (fun j => zi (j : Int)) (fun j => hS s c (drL A n l j σ) h) n rfl rfl ?_ ?_ 700 (by omega)
  · intro rec j hj
    have k' := kW_hS (σ := drL A n l j σ) k e
    have o := (k.2.2 j hj).2
    have o' := o
    unfold okA at o'
    simp (disch := omega) only [gR_of (hS_0 s c _ h) (k := 0) rfl, ob_some, Option.bind_none, jn0_e, jn1_e, jn2_e, jn3_e, jn4_e, jn5_e, ck_of k'.1, p_size k'.1 k'.2.1, zi_le, p_numbered k'.1 k'.2.1 (fun i hi => (k'.2.2 i hi).1) (x := j) ⟨by omega, by omega⟩, z_tn]
    rw [if_neg (by omega), if_pos (by omega)]
    simp (disch := omega) only [Option.bind_some, Int.toNat_natCast, gI_of (k'.2.2 j hj).1 (k := 6) rfl, gI_of (k'.2.2 j hj).1 (k := 4) rfl, n_0, n_1, zi_eq, zi_add, ck_of (hS_0 s c _ h), p_caught (h := h) (s := s) (c := c) (i := j) (by omega : j < 10), Int.natCast_add, Int.natCast_one, drL]
    by_cases h1 : A j 6 = 0
    · rw [if_pos h1, if_neg (by omega)]
    · rw [if_neg h1]
      by_cases h2 : A j 4 = l
      · rw [if_pos h2, if_pos ⟨by omega, h2⟩, p_drip k e hj (hK j hj (by omega) h2)]
        rfl
      · rw [if_neg h2, if_neg (by omega)]
  · intro rec
    have k' := kW_hS (σ := drL A n l n σ) k e
    simp (disch := omega) only [gR_of (hS_0 s c _ h) (k := 0) rfl, ob_some, Option.bind_none, jn0_e, jn1_e, jn2_e, jn3_e, jn4_e, jn5_e, ck_of k'.1, p_size k'.1 k'.2.1, zi_le]
    rw [if_pos (by omega)]
def pX (A : Nat → Nat → Int) (n : Nat) (d : Int) (y : Nat) : Nat → zS → zS
  | 0, σ => σ
  | k + 1, σ => fal A n 10 k y d (pX A n d y k σ)
def pY (A : Nat → Nat → Int) (n : Nat) (d : Int) : Nat → zS
  | 0 => (fun _ _ => 0, fun _ => 0, 0)
  | j + 1 => pX A n d j 24 (pY A n d j)
def pL (A : Nat → Nat → Int) (n : Nat) (d : Int) : Nat → zS
  | 0 => pY A n d 24
  | m + 1 => drL A n (9 - m) n (pL A n d m)
theorem p_dry {h : zH} {s c : Nat} {og ro : Int32} {f g : Nat → Int32} (e0 : h s = some (zO 3 [.ref c, .ref (s + 1), .ref (s + 2), .int og, .int ro])) (e1 : h (s + 1) = some (cA 576 f)) (e2 : h (s + 2) = some (cA 10 g)) :
    M_X2_dry h s = some (hS s c (fun _ _ => 0, fun _ => 0, 0) h) := by
  simp only [M_X2_dry, gR_of e0 (k := 1) rfl, Option.bind_some, p_fill e1 (by omega)]
  have e3 : ∀ c', z_up h (s + 1) c' s = some (zO 3 [.ref c, .ref (s + 1), .ref (s + 2), .int og, .int ro]) := fun c' => by rw [up_ne (by omega), e0]
  have e4 : ∀ c', z_up h (s + 1) c' (s + 2) = some (cA 10 g) := fun c' => by rw [up_ne (by omega), e2]
  simp only [gR_of (e3 _) (k := 2) rfl, Option.bind_some, p_fill (e4 _) (by omega)]
  have e5 : ∀ c' c'', z_up (z_up h (s + 1) c') (s + 2) c'' s = some (zO 3 [.ref c, .ref (s + 1), .ref (s + 2), .int og, .int ro]) := fun c' c'' => by rw [up_ne (by omega), up_ne (by omega), e0]
  rw [pV_of (e5 _ _) (k := 3) (by simp), Option.bind_some, pV_of (up_at _ _ _) (k := 4) (by simp), Option.bind_some, up_up]
  simp only [List.set]
  refine congrArg some (hS_mk ?_ ?_ ?_ fun q hq => ?_)
  · rw [up_at, tot, sm_congr (fun i _ => sm_zero 24), sm_zero]
    rfl
  · rw [up_ne (by omega), up_ne (by omega), up_at]; rfl
  · rw [up_ne (by omega), up_at]; rfl
  · rw [up_ne hq.1, up_ne hq.2.2, up_ne hq.2.1]
theorem p_pour {h : zH} {s c : Nat} {qd mc : Int32} {ea n : Nat} {P : Nat → Nat} {A : Nat → Nat → Int} {D : Nat → Int32} {og ro : Int32} {f g : Nat → Int32} (k : kW h c qd mc ea n P A D) (e : sepW s c ea n P)
    (e0 : h s = some (zO 3 [.ref c, .ref (s + 1), .ref (s + 2), .int og, .int ro])) (e1 : h (s + 1) = some (cA 576 f)) (e2 : h (s + 2) = some (cA 10 g)) {d : Int}
    (hK : ∀ m j : Nat, m < 9 → j < n → A j 6 = 1 → A j 4 = 9 - m → 0 ≤ (drL A n (9 - m) j (pL A n d m)).2.1 j ∧ (drL A n (9 - m) j (pL A n d m)).2.1 j < 2147483648) :
    M_X2_pour h s (zi d) = some (hS s c (pL A n d 9) h) := by
  simp only [M_X2_pour, ck_of e0, Option.bind_some, p_dry e0 e1 e2]
  refine wl2_st (fun j => zi (j : Int)) (fun j => hS s c (pY A n d j) h) 24 rfl rfl ?_ ?_ 700 (by omega)
  · intro rec j hj
    simp (disch := omega) only [n_24, zi_le]
    rw [if_neg (by omega)]
    refine wl2_st (fun i => zi (i : Int)) (fun i => hS s c (pX A n d j i (pY A n d j)) h) 24 rfl rfl ?_ ?_ 700 (by omega)
    · intro rec2 i hi
      simp (disch := omega) only [zi_le, ck_of (hS_0 s c _ h), Option.bind_some, n_10, n_1, zi_add]
      rw [if_neg (by omega), p_land k e (by omega) (by omega) (by omega)]
      rfl
    · intro rec2
      simp (disch := omega) only [zi_le, n_1, zi_add]
      rw [if_pos (by omega)]
      rfl
  · intro rec
    simp (disch := omega) only [n_24, zi_le]
    rw [if_pos (by omega)]
    refine wl2_st (fun m => zi (9 - (m : Int))) (fun m => hS s c (pL A n d m) h) 9 rfl rfl ?_ ?_ 700 (by omega)
    · intro rec2 m hm
      simp (disch := omega) only [n_1, zi_neg, zi_lt, ck_of (hS_0 s c _ h), Option.bind_some, zi_add]
      rw [if_neg (by omega), p_dripLevel k e (by omega) (hK m · hm)]
      simp only [Option.bind_some, pL]
      congr 2
      omega
    · intro rec2
      simp (disch := omega) only [n_1, zi_lt]
      rw [if_pos (by omega)]
