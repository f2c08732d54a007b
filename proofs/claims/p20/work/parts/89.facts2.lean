/-! areas, outline, parts, advice -/
section FACU
variable {A : Nat → Nat → Int} {n : Nat}
abbrev cvS (A : Nat → Nat → Int) (n : Nat) : Int := tot fun x y => b1 (decide (1 ≤ lay A n x y))
theorem shr_self {i : Nat} (o : okA (A i)) : shrS A i i = if A i 6 = 1 then A i 2 * A i 3 else 0 := by
  unfold okA at o
  by_cases h : A i 6 = 1
  · rw [if_pos h, shr_box (X := (A i 0).toNat) (Y := (A i 1).toNat) (W := (A i 2).toNat) (V := (A i 3).toNat) (by omega) (by omega) fun x y => ?_]
    · rw [Int.toNat_of_nonneg (by omega), Int.toNat_of_nonneg (by omega)]
    · rw [and_self_iff, cv_iff]
      omega
  · rw [if_neg h, shr_0]
    intro x y w
    exact h (cv_iff.mp w.1).1
theorem shr_sym (i j : Nat) : shrS A i j = shrS A j i := tot_congr fun x y _ _ => by rw [Bool.and_comm]
theorem shr_le (i j : Nat) : shrS A i j ≤ shrS A i i := tot_mono fun x y => b1_le fun h => by rw [Bool.and_eq_true] at *; exact ⟨h.1, h.1⟩
theorem own_le (i : Nat) : ownS A n i ≤ shrS A i i := tot_mono fun x y => b1_le fun h => by rw [Bool.and_eq_true] at *; exact ⟨h.1, h.1⟩
theorem lay_cv {i : Nat} {x y : Int} (hi : i < n) (h : cv (A i) x y = true) : 1 ≤ lay A n x y := by
  have := (sm_ge (n := n) (k := i) (f := fun i => b1 (cv (A i) x y)) (fun j _ => (b1_bd _).1) hi).1
  unfold lay
  rw [show b1 (cv (A i) x y) = 1 from by rw [h]; rfl] at this
  exact this
theorem shr_cov {i : Nat} (hi : i < n) : shrS A i i ≤ cvS A n := tot_mono fun x y => b1_le fun h => by rw [Bool.and_self] at h; exact decide_eq_true (lay_cv hi h)
theorem shr_nn (i j : Nat) : 0 ≤ shrS A i j ∧ shrS A i j ≤ 576 := tot_b1_bd _
theorem own_nn (i : Nat) : 0 ≤ ownS A n i ∧ ownS A n i ≤ 576 := tot_b1_bd _
theorem cvS_nn : 0 ≤ cvS A n ∧ cvS A n ≤ 576 := tot_b1_bd _
theorem own_sum : (sm n fun i => ownS A n i) + (tot fun x y => b1 (decide (2 ≤ lay A n x y))) = cvS A n := by
  unfold ownS
  rw [tot_sm n fun i x y => b1 (cv (A i) x y && decide (lay A n x y = 1)), ← tot_plus]
  refine tot_congr fun x y _ _ => ?_
  by_cases h : lay A n x y = 1
  · rw [decide_eq_true h, b1d_f (by omega), b1d_t (by omega)]
    simp only [Bool.and_true]
    show lay A n x y + 0 = 1
    omega
  · rw [decide_eq_false h]
    simp only [Bool.and_false]
    rw [show (sm n fun _ => b1 false) = 0 from sm_zero n]
    have := lay_bd A n x y
    by_cases g : 2 ≤ lay A n x y
    · rw [b1d_t g, b1d_t (by omega)]; omega
    · rw [b1d_f g, b1d_f (by omega)]; omega
theorem area_sum : cvS A n ≤ sm n fun i => shrS A i i := by
  unfold shrS
  rw [tot_sm n fun i x y => b1 (cv (A i) x y && cv (A i) x y)]
  refine tot_mono fun x y => ?_
  simp only [Bool.and_self]
  show _ ≤ lay A n x y
  have := lay_bd A n x y
  by_cases h : 1 ≤ lay A n x y
  · rw [b1d_t h]; exact h
  · rw [b1d_f h]; omega
def mxa (A : Nat → Nat → Int) : Nat → Int
  | 0 => 0
  | k + 1 => if mxa A k < shrS A k k then shrS A k k else mxa A k
theorem mxa_bd (k : Nat) (hk : k ≤ n) : 0 ≤ mxa A k ∧ mxa A k ≤ cvS A n := by
  induction k with
  | zero => exact ⟨Int.le_refl _, cvS_nn.1⟩
  | succ k ih =>
    have h1 := ih (by omega)
    have h2 := shr_cov (A := A) (n := n) (i := k) (by omega)
    have h3 := shr_nn (A := A) k k
    rw [mxa]; split <;> omega
/-! outline -/
def edg (f : Int → Bool) (d : Int) (k : Nat) : Int := sm k fun y => b1 (f (y : Nat) && !f ((y : Int) + d))
theorem edg_eq {f : Int → Bool} (h0 : f (-1) = false) (k : Nat) : edg f (-1) k = edg f 1 k + b1 (f ((k : Int) - 1) && f (k : Nat)) := by
  induction k with
  | zero =>
    rw [show ((0 : Nat) : Int) - 1 = -1 from rfl, h0]
    rfl
  | succ k ih =>
    have e1 : edg f (-1) (k + 1) = edg f (-1) k + b1 (f (k : Nat) && !f ((k : Int) - 1)) := rfl
    have e2 : edg f 1 (k + 1) = edg f 1 k + b1 (f (k : Nat) && !f ((k : Int) + 1)) := rfl
    rw [e1, e2, ih, show ((k + 1 : Nat) : Int) - 1 = (k : Int) from by omega, show ((k + 1 : Nat) : Int) = (k : Int) + 1 from by omega]
    cases f ((k : Int) - 1) <;> cases f (k : Nat) <;> cases f ((k : Int) + 1) <;> simp [b1] <;> omega
theorem edg_24 {f : Int → Bool} (h0 : f (-1) = false) (h1 : f 24 = false) : edg f (-1) 24 = edg f 1 24 := by
  rw [edg_eq h0, show f ((24 : Nat) : Int) = false from h1, Bool.and_false]
  show _ + 0 = _
  omega
theorem edg_nn (f : Int → Bool) (d : Int) (k : Nat) : 0 ≤ edg f d k := sm_nn fun i _ => (b1_bd _).1
theorem edg_any {f : Int → Bool} (h0 : f (-1) = false) (k : Nat) : ∀ y : Nat, y < k → b1 (f y) ≤ edg f (-1) k := by
  induction k with
  | zero => intro y hy; omega
  | succ k ih =>
    intro y hy
    have e1 : edg f (-1) (k + 1) = edg f (-1) k + b1 (f (k : Nat) && !f ((k : Int) - 1)) := rfl
    have b := (b1_bd (f (k : Nat) && !f ((k : Int) - 1))).1
    rw [e1]
    by_cases h : y = k
    · subst h
      have nn := edg_nn f (-1) y
      cases hf : f ((y : Int) - 1) with
      | false => rw [Bool.not_false, Bool.and_true]; omega
      | true =>
        cases y with
        | zero => rw [show ((0 : Nat) : Int) - 1 = -1 from rfl, h0] at hf; cases hf
        | succ y =>
          rw [show ((y + 1 : Nat) : Int) - 1 = (y : Int) from by omega] at hf
          have := ih y (by omega)
          rw [hf] at this
          rw [Bool.not_true, Bool.and_false]
          have := (b1_bd (f ((y + 1 : Nat) : Int))).2
          have e2 : b1 true = 1 := rfl
          have e3 : b1 false = 0 := rfl
          omega
    · have := ih y (by omega)
      omega
/-- some cell of the line -/
def anyL (f : Int → Bool) : Int := b1 (decide (0 < sm 24 fun y => b1 (f (y : Nat))))
theorem anyL_le {f : Int → Bool} (h0 : f (-1) = false) : anyL f ≤ edg f (-1) 24 := by
  have nn := edg_nn f (-1) 24
  unfold anyL
  by_cases h : 0 < sm 24 fun y => b1 (f (y : Nat))
  · rw [b1d_t h]
    rcases Int.lt_or_le 0 (edg f (-1) 24) with g | g
    · omega
    · have : (sm 24 fun y => b1 (f (y : Nat))) = sm 24 fun _ => 0 := sm_congr fun y hy => by
        have h1 := edg_any h0 24 y hy
        have h2 := (b1_bd (f (y : Nat))).1
        omega
      rw [this, sm_zero] at h
      omega
  · rw [b1d_f h]; exact nn
theorem anyL_t {f : Int → Bool} {y : Nat} (hy : y < 24) (h : f y = true) : anyL f = 1 := by
  refine b1d_t ?_
  have := (sm_ge (n := 24) (k := y) (f := fun y => b1 (f (y : Nat))) (fun j _ => (b1_bd _).1) hy).1
  rw [show b1 (f (y : Nat)) = 1 from by rw [h]; rfl] at this
  omega
theorem anyL_nn (f : Int → Bool) : 0 ≤ anyL f := (b1_bd _).1
theorem sq_ge {a b : Int} (ha : 0 ≤ a) (hb : 0 ≤ b) : 4 * (a * b) ≤ (a + b) * (a + b) := by
  have h : 0 ≤ (a - b) * (a - b) := by
    rcases Int.le_total a b with g | g
    · have := Int.mul_nonneg (show 0 ≤ b - a by omega) (show 0 ≤ b - a by omega)
      rw [← Int.neg_mul_neg, Int.neg_sub]
      exact this
    · exact Int.mul_nonneg (by omega) (by omega)
  rw [Int.sub_mul, Int.mul_sub, Int.mul_sub] at h
  rw [Int.add_mul, Int.mul_add, Int.mul_add]
  have := Int.mul_comm a b
  omega
theorem outl_facts (ho : ∀ i, i < n → okA (A i)) : ∃ e : Int, tot (olS A n) = 2 * e ∧ 0 ≤ e ∧ 2 * e ≤ 4 * cvS A n ∧ 16 * cvS A n ≤ (2 * e) * (2 * e) ∧ 2 * e ≤ 2304 := by
  have z0 : ∀ x y : Int, ¬(0 ≤ x ∧ x < 24 ∧ 0 ≤ y ∧ y < 24) → pq A n x y = false := fun x y h => pq_out ho h
  -- the four sides
  have eV : (sm 24 fun x => edg (fun y => pq A n (x : Nat) y) (-1) 24) = sm 24 fun x => edg (fun y => pq A n (x : Nat) y) 1 24 := sm_congr fun x _ => edg_24 (z0 _ _ (by omega)) (z0 _ _ (by omega))
  have eH : (sm 24 fun y => edg (fun x => pq A n x (y : Nat)) (-1) 24) = sm 24 fun y => edg (fun x => pq A n x (y : Nat)) 1 24 := sm_congr fun x _ => edg_24 (z0 _ _ (by omega)) (z0 _ _ (by omega))
  have e1 : tot (olS A n) = ((sm 24 fun y => edg (fun x => pq A n x (y : Nat)) (-1) 24) + (sm 24 fun x => edg (fun y => pq A n (x : Nat) y) (-1) 24)) + ((sm 24 fun y => edg (fun x => pq A n x (y : Nat)) 1 24) + (sm 24 fun x => edg (fun y => pq A n (x : Nat) y) 1 24)) := by
    have s1 : (sm 24 fun y => edg (fun x => pq A n x (y : Nat)) (-1) 24) = tot fun x y => b1 (pq A n x y && !pq A n ((x : Int) - 1) y) := sm_swap 24 24 fun y x => b1 (pq A n (x : Nat) (y : Nat) && !pq A n ((x : Int) + -1) (y : Nat))
    have s2 : (sm 24 fun y => edg (fun x => pq A n x (y : Nat)) 1 24) = tot fun x y => b1 (pq A n x y && !pq A n ((x : Int) + 1) y) := sm_swap 24 24 fun y x => b1 (pq A n (x : Nat) (y : Nat) && !pq A n ((x : Int) + 1) (y : Nat))
    rw [s1, s2]
    show _ = ((tot fun x y => b1 (pq A n x y && !pq A n ((x : Int) - 1) y)) + (tot fun x y => b1 (pq A n x y && !pq A n x ((y : Int) - 1)))) + ((tot fun x y => b1 (pq A n x y && !pq A n ((x : Int) + 1) y)) + (tot fun x y => b1 (pq A n x y && !pq A n x ((y : Int) + 1))))
    rw [← tot_plus, ← tot_plus, ← tot_plus]
    exact tot_congr fun x y _ _ => by unfold olS; omega
  have nV : 0 ≤ sm 24 fun x => edg (fun y => pq A n (x : Nat) y) (-1) 24 := sm_nn fun i _ => edg_nn ..
  have nH : 0 ≤ sm 24 fun y => edg (fun x => pq A n x (y : Nat)) (-1) 24 := sm_nn fun i _ => edg_nn ..
  have c1 : (sm 24 fun x => anyL fun y => pq A n (x : Nat) y) ≤ sm 24 fun x => edg (fun y => pq A n (x : Nat) y) (-1) 24 := sm_mono fun x _ => anyL_le (z0 _ _ (by omega))
  have c2 : (sm 24 fun y => anyL fun x => pq A n x (y : Nat)) ≤ sm 24 fun y => edg (fun x => pq A n x (y : Nat)) (-1) 24 := sm_mono fun x _ => anyL_le (z0 _ _ (by omega))
  have c3 : cvS A n ≤ (sm 24 fun x => anyL fun y => pq A n (x : Nat) y) * (sm 24 fun y => anyL fun x => pq A n x (y : Nat)) := by
    rw [← sm_mulr]
    simp only [← sm_mull]
    refine sm_mono fun x hx => sm_mono fun y hy => ?_
    show b1 (decide (1 ≤ lay A n x y)) ≤ (anyL fun y => pq A n (x : Nat) y) * (anyL fun x => pq A n x (y : Nat))
    by_cases h : 1 ≤ lay A n x y
    · have q : pq A n x y = true := decide_eq_true (by omega)
      rw [anyL_t (f := fun y => pq A n (x : Nat) y) hy q, anyL_t (f := fun x => pq A n x (y : Nat)) hx q, b1d_t h]
      exact Int.le_refl _
    · rw [b1d_f h]
      exact Int.mul_nonneg (anyL_nn _) (anyL_nn _)
  have d1 : 0 ≤ sm 24 fun x => anyL fun y => pq A n (x : Nat) y := sm_nn fun i _ => anyL_nn _
  have d2 : 0 ≤ sm 24 fun y => anyL fun x => pq A n x (y : Nat) := sm_nn fun i _ => anyL_nn _
  have le4 : tot (olS A n) ≤ 4 * cvS A n := by
    have := tot_mono (F := olS A n) (F' := fun x y => b1 (decide (1 ≤ lay A n x y)) + b1 (decide (1 ≤ lay A n x y)) + (b1 (decide (1 ≤ lay A n x y)) + b1 (decide (1 ≤ lay A n x y)))) fun x y => ?_
    · rw [tot_plus, tot_plus] at this
      have ec : cvS A n = tot fun x y => b1 (decide (1 ≤ lay A n x y)) := rfl
      omega
    · dsimp only [olS]
      have e : b1 (decide (1 ≤ lay A n x y)) = b1 (pq A n x y) := rfl
      rw [e]
      have k : ∀ q : Bool, b1 (pq A n x y && !q) ≤ b1 (pq A n x y) := fun q => b1_le fun h => (Bool.and_eq_true_iff.mp h).1
      have k1 := k (pq A n ((x : Int) - 1) y)
      have k2 := k (pq A n x ((y : Int) - 1))
      have k3 := k (pq A n ((x : Int) + 1) y)
      have k4 := k (pq A n x ((y : Int) + 1))
      omega
  have cb := cvS_nn (A := A) (n := n)
  rw [← eV, ← eH] at e1
  generalize (sm 24 fun x => edg (fun y => pq A n (x : Nat) y) (-1) 24) = V at *
  generalize (sm 24 fun y => edg (fun x => pq A n x (y : Nat)) (-1) 24) = H at *
  generalize (sm 24 fun x => anyL fun y => pq A n (x : Nat) y) = a at *
  generalize (sm 24 fun y => anyL fun x => pq A n x (y : Nat)) = b at *
  refine ⟨H + V, by omega, by omega, by omega, ?_, by omega⟩
  have q1 := sq_ge d1 d2
  have q2 : (a + b) * (a + b) ≤ (H + V) * (H + V) := Int.mul_le_mul (by omega) (by omega) (by omega) (by omega)
  have q3 : 2 * (H + V) * (2 * (H + V)) = 4 * ((H + V) * (H + V)) := by
    generalize H + V = s
    rw [Int.mul_assoc, Int.mul_left_comm s 2 s]
    omega
  rw [q3]
  omega
/-! parts -/
theorem tot_pos {f : Nat → Nat → Bool} {a b : Nat} (ha : a < 24) (hb : b < 24) (h : f a b = true) : 1 ≤ tot fun x y => b1 (f x y) := by
  have := tot_ge (F := fun x y => b1 (f x y)) (fun x y => (b1_bd _).1) ha hb
  rw [show b1 (f a b) = 1 from by rw [h]; rfl] at this
  exact this
theorem part_facts (ho : ∀ i, i < n → okA (A i)) : 0 ≤ pcnt (pV A n) (pV A n) ∧ pcnt (pV A n) (pV A n) ≤ cvS A n ∧ (pcnt (pV A n) (pV A n) = 0 ↔ cvS A n = 0) := by
  have h0 := (tot_b1_bd fun x y => pV A n x y && ir (pV A n) x y).1
  have h1 : pcnt (pV A n) (pV A n) ≤ cvS A n := tot_mono fun x y => b1_le fun h => (Bool.and_eq_true_iff.mp h).1
  refine ⟨h0, h1, fun e => ?_, fun e => ?_⟩
  · refine tot_zero fun x y hx hy => Bool.eq_false_iff.mpr fun h => ?_
    obtain ⟨u, v, h2, h3⟩ := (one_ir (V := pV A n)).2.1 x y h
    have h4 := pV_in ho u v (Bool.and_eq_true_iff.mp h3).1
    have h5 := tot_pos (f := fun x y => pV A n x y && ir (pV A n) x y) h4.1 h4.2 h3
    have h6 : (tot fun x y => b1 (pV A n x y && ir (pV A n) x y)) = 0 := e
    omega
  · have h6 : 0 ≤ pcnt (pV A n) (pV A n) := h0
    omega
/-! advice -/
theorem adS_all (k : Nat) : ((adS A n k).1 = -1 ∧ (adS A n k).2 = 577 ∧ ∀ i, i < k → A i 6 ≠ 1) ∨ ∃ i : Nat, i < k ∧ (adS A n k).1 = i ∧ (adS A n k).2 = ownS A n i ∧ A i 6 = 1 ∧ ∀ j, j < k → A j 6 = 1 → ownS A n i ≤ ownS A n j := by
  induction k with
  | zero => exact .inl ⟨rfl, rfl, fun i hi => by omega⟩
  | succ k ih =>
    have b := own_nn (A := A) (n := n) k
    rw [adS]
    by_cases h : A k 6 = 1 ∧ ownS A n k < (adS A n k).2
    · rw [if_pos h]
      refine .inr ⟨k, by omega, rfl, rfl, h.1, fun j hj h6 => ?_⟩
      rcases Nat.lt_or_ge j k with g | g
      · rcases ih with ⟨-, e, w⟩ | ⟨i, h1, h2, h3, h4, h5⟩
        · exact absurd h6 (w j g)
        · have := h5 j g h6
          omega
      · have : j = k := by omega
        rw [this]; exact Int.le_refl _
    · rw [if_neg h]
      rcases ih with ⟨e1, e2, w⟩ | ⟨i, h1, h2, h3, h4, h5⟩
      · refine .inl ⟨e1, e2, fun i hi h6 => ?_⟩
        rcases Nat.lt_or_ge i k with g | g
        · exact w i g h6
        · have : i = k := by omega
          subst this
          exact h ⟨h6, by omega⟩
      · refine .inr ⟨i, by omega, h2, h3, h4, fun j hj h6 => ?_⟩
        rcases Nat.lt_or_ge j k with g | g
        · exact h5 j g h6
        · have : j = k := by omega
          subst this
          rcases Int.lt_or_le (ownS A n j) (ownS A n i) with q | q
          · exact absurd ⟨h6, by omega⟩ h
          · exact q
theorem adS_out (ho : ∀ i, i < n → okA (A i)) : (0 ≤ (adS A n n).1 ↔ outS A n ≠ 0) ∧ 0 ≤ outS A n ∧ outS A n ≤ n := by
  have nn : 0 ≤ outS A n := sm_nn fun i hi => by have := ho i hi; unfold okA at this; omega
  have bd : outS A n ≤ n * 1 := (sm_bd (n := n) (f := fun i => A i 6) (B := 1) fun i hi => by have := ho i hi; unfold okA at this; omega).2
  refine ⟨⟨fun h e => ?_, fun h => ?_⟩, nn, by omega⟩
  · rcases adS_all (A := A) (n := n) n with ⟨e1, -⟩ | ⟨i, h1, -, -, h4, -⟩
    · omega
    · have := (sm_ge (n := n) (k := i) (f := fun i => A i 6) (fun i hi => by have := ho i hi; unfold okA at this; omega) h1).1
      unfold outS at e
      omega
  · rcases adS_all (A := A) (n := n) n with ⟨e1, -, w⟩ | ⟨i, h1, h2, -⟩
    · refine absurd ?_ h
      unfold outS
      rw [sm_congr (g := fun _ => 0) fun i hi => by have := ho i hi; have := w i hi; unfold okA at *; omega, sm_zero]
    · omega
/-- rolled in, the cells that it alone covered are bare -/
theorem roll_cov {i : Nat} (hi : i < n) (h6 : A i 6 = 1) : cvS (upA A i (rolA (A i))) n = cvS A n - ownS A n i := by
  unfold cvS ownS
  rw [← tot_sub]
  refine tot_congr fun x y _ _ => ?_
  have e1 := lyw_one (A := A) (n := n) (x : Int) (y : Int) hi
  have e2 := lyw_one (A := upA A i (rolA (A i))) (n := n) (x : Int) (y : Int) hi
  have e3 : lyw (upA A i (rolA (A i))) i x y n = lyw A i x y n := sm_congr fun j hj => by
    by_cases g : j = i
    · rw [if_pos (by omega), if_pos (by omega)]
    · rw [if_neg (by omega), if_neg (by omega)]
      unfold upA
      rw [if_neg g]
  have e4 : cv (upA A i (rolA (A i)) i) x y = false := cv_f fun w => by
    rw [upA_i] at w
    have : rolA (A i) 6 = 1 - A i 6 := rfl
    omega
  have b := lyw_bd A i x y n
  rw [e3, e4] at e2
  have e5 : b1 false = 0 := rfl
  have e6 : b1 true = 1 := rfl
  cases hc : cv (A i) x y with
  | false =>
    rw [hc] at e1
    rw [Bool.false_and, show lay (upA A i (rolA (A i))) n x y = lay A n x y from by omega]
    omega
  | true =>
    rw [hc] at e1
    rw [Bool.true_and]
    by_cases g : lay A n x y = 1
    · rw [b1d_t g, b1d_f (by omega), b1d_t (by omega)]; rfl
    · rw [b1d_f g, b1d_t (by omega), b1d_t (by omega)]; rfl
theorem rol_rol (i : Nat) : upA (upA A i (rolA (A i))) i (rolA (upA A i (rolA (A i)) i)) = A := by
  rw [upA_i]
  funext j k
  unfold upA
  by_cases g : j = i
  · rw [if_pos g, g]
    unfold rolA
    by_cases q : k = 6
    · rw [if_pos q, if_pos rfl, q]; omega
    · rw [if_neg q, if_neg q]
  · rw [if_neg g, if_neg g]
/-! the highest of a cell -/
theorem high_facts (ho : ∀ i, i < n → okA (A i)) (x y : Int) : ((hbS A 10 x y n).1 < 0 ↔ lay A n x y = 0) ∧ -1 ≤ (hbS A 10 x y n).1 ∧ (hbS A 10 x y n).1 < n ∧ ∀ j : Nat, j < n → cv (A j) x y = true → 0 ≤ (hbS A 10 x y n).1 ∧ A j 4 ≤ A (hbS A 10 x y n).1.toNat 4 ∧ (A j 4 = A (hbS A 10 x y n).1.toNat 4 → (hbS A 10 x y n).1 ≤ j) := by
  have b := hbS_bd (A := A) (l := 10) (x := x) (y := y) n ho
  have H := hbS_Hi (A := A) (l := 10) (x := x) (y := y) n ho
  generalize (hbS A 10 x y n).1 = r at *
  rcases H with ⟨e, w⟩ | ⟨i, h1, h2, ⟨h3, h4⟩, h5⟩
  · have z : ∀ j, j < n → cv (A j) x y = false := fun j hj => Bool.eq_false_iff.mpr fun q => w j hj ⟨by have := ho j hj; unfold okA at this; omega, q⟩
    refine ⟨⟨fun _ => ?_, fun _ => by omega⟩, by omega, by omega, fun j hj q => ?_⟩
    · unfold lay
      rw [sm_congr (g := fun _ => 0) fun j hj => by rw [z j hj]; rfl, sm_zero]
    · rw [z j hj] at q; cases q
  · have l1 := lay_cv h1 h4
    refine ⟨⟨fun _ => by omega, fun _ => by omega⟩, by omega, by omega, fun j hj q => ?_⟩
    rw [h2, Int.toNat_natCast]
    refine ⟨by omega, ?_⟩
    by_cases g : j = i
    · rw [g]; omega
    · have := h5 j hj ⟨by have := ho j hj; unfold okA at this; omega, q⟩ g
      omega
theorem lay_outS (ho : ∀ i, i < n → okA (A i)) (x y : Int) : lay A n x y ≤ outS A n := by
  refine sm_mono fun i hi => ?_
  have o := ho i hi
  unfold okA at o
  cases h : cv (A i) x y with
  | false => show 0 ≤ _; omega
  | true => show 1 ≤ _; have := (cv_iff.mp h).1; omega
end FACU
