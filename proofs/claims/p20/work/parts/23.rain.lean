/-! the class's rain -/
abbrev zS : Type := (Nat → Nat → Int) × (Nat → Int) × Int
def add2 (F : Nat → Nat → Int) (a b : Nat) (d : Int) : Nat → Nat → Int := fun p q => if p = a ∧ q = b then F p q + d else F p q
def add1 (K : Nat → Int) (a : Nat) (d : Int) : Nat → Int := fun p => if p = a then K p + d else K p
def tot (F : Nat → Nat → Int) : Int := sm 24 fun p => sm 24 fun q => F p q
theorem sm_add1 {n k : Nat} (f : Nat → Int) (d : Int) (h : k < n) : sm n (add1 f k d) = sm n f + d := by
  induction n with
  | zero => omega
  | succ n ih =>
    rw [sm, sm]
    by_cases h1 : k = n
    · subst h1
      have h2 : sm k (add1 f k d) = sm k f := sm_congr fun i hi => if_neg (by omega)
      rw [h2, add1, if_pos rfl]
      omega
    · rw [ih (by omega), add1, if_neg (by omega)]
      omega
theorem sm_add1' {n k : Nat} (f : Nat → Int) (d : Int) (h : n ≤ k) : sm n (add1 f k d) = sm n f := sm_congr fun i hi => if_neg (by omega)
theorem tot_add2 {a b : Nat} (F : Nat → Nat → Int) (d : Int) (ha : a < 24) (hb : b < 24) : tot (add2 F a b d) = tot F + d := by
  have h1 : (fun p => sm 24 fun q => add2 F a b d p q) = add1 (fun p => sm 24 fun q => F p q) a d := by
    funext p
    by_cases hp : p = a
    · subst hp
      have h2 : (fun q => add2 F p b d p q) = add1 (F p) b d := by
        funext q
        by_cases hq : q = b <;> simp [add2, add1, hq]
      rw [h2, sm_add1 _ _ hb, add1, if_pos rfl]
    · rw [add1, if_neg hp]
      exact sm_congr fun q _ => by simp [add2, hp]
  rw [tot, h1, sm_add1 _ _ ha, tot]
def fal (A : Nat → Nat → Int) (n : Nat) (l x y d : Int) (σ : zS) : zS :=
  if 0 ≤ x ∧ x < 24 ∧ 0 ≤ y ∧ y < 24 then
    (if (hbS A l x y n).1 < 0 then (add2 σ.1 x.toNat y.toNat d, σ.2.1, σ.2.2) else (σ.1, add1 σ.2.1 (hbS A l x y n).1.toNat d, σ.2.2))
  else (σ.1, σ.2.1, σ.2.2 + d)
def kW (h : zH) (c : Nat) (qd mc : Int32) (ea n : Nat) (P : Nat → Nat) (A : Nat → Nat → Int) (D : Nat → Int32) : Prop := kC h c qd ∧ kL h (c + 1) mc ea n P ∧ kA h n P A D
def inW (c ea n : Nat) (P : Nat → Nat) (q : Nat) : Prop := q = c ∨ q = c + 1 ∨ q = ea ∨ ∃ i, i < n ∧ q = P i
theorem kW_eq {h h' : zH} {c : Nat} {qd mc : Int32} {ea n : Nat} {P : Nat → Nat} {A : Nat → Nat → Int} {D : Nat → Int32} (e : ∀ q, inW c ea n P q → h' q = h q) (k : kW h c qd mc ea n P A D) : kW h' c qd mc ea n P A D := by
  obtain ⟨k1, ⟨k2, k3, k4⟩, k5⟩ := k
  refine ⟨(e _ (.inl rfl)).trans k1, ⟨(e _ (.inr (.inl rfl))).trans k2, k3, fun hn => ?_⟩, fun i hi => ⟨(e _ (.inr (.inr (.inr ⟨i, hi, rfl⟩)))).trans (k5 i hi).1, (k5 i hi).2⟩⟩
  obtain ⟨f, h1, h2⟩ := k4 hn
  exact ⟨f, (e _ (.inr (.inr (.inl rfl)))).trans h1, h2⟩
def hS (s c : Nat) (σ : zS) (h : zH) : zH :=
  z_up (z_up (z_up h s (zO 3 [.ref c, .ref (s + 1), .ref (s + 2), .int (zi (tot σ.1)), .int (zi σ.2.2)])) (s + 1) (cA 576 fun p => zi (σ.1 (p % 24) (p / 24)))) (s + 2) (cA 10 fun p => zi (σ.2.1 p))
theorem hS_0 (s c : Nat) (σ : zS) (h : zH) : hS s c σ h s = some (zO 3 [.ref c, .ref (s + 1), .ref (s + 2), .int (zi (tot σ.1)), .int (zi σ.2.2)]) := by
  rw [hS, up_ne (by omega), up_ne (by omega), up_at]
theorem hS_1 (s c : Nat) (σ : zS) (h : zH) : hS s c σ h (s + 1) = some (cA 576 fun p => zi (σ.1 (p % 24) (p / 24))) := by
  rw [hS, up_ne (by omega), up_at]
theorem hS_2 (s c : Nat) (σ : zS) (h : zH) : hS s c σ h (s + 2) = some (cA 10 fun p => zi (σ.2.1 p)) := by
  rw [hS, up_at]
theorem hS_ne {s c q : Nat} {σ : zS} {h : zH} (e : q ≠ s ∧ q ≠ s + 1 ∧ q ≠ s + 2) : hS s c σ h q = h q := by
  rw [hS, up_ne e.2.2, up_ne e.2.1, up_ne e.1]
/-- a heap is that of a state, when it agrees with it at the shower's cells and with h elsewhere -/
theorem hS_mk {s c : Nat} {σ : zS} {h h' : zH} (e0 : h' s = some (zO 3 [.ref c, .ref (s + 1), .ref (s + 2), .int (zi (tot σ.1)), .int (zi σ.2.2)])) (e1 : h' (s + 1) = some (cA 576 fun p => zi (σ.1 (p % 24) (p / 24)))) (e2 : h' (s + 2) = some (cA 10 fun p => zi (σ.2.1 p)))
    (e3 : ∀ q, q ≠ s ∧ q ≠ s + 1 ∧ q ≠ s + 2 → h' q = h q) : h' = hS s c σ h := by
  funext q
  by_cases h0 : q = s
  · subst h0; rw [e0, hS_0]
  by_cases h1 : q = s + 1
  · subst h1; rw [e1, hS_1]
  by_cases h2 : q = s + 2
  · subst h2; rw [e2, hS_2]
  · rw [e3 q ⟨h0, h1, h2⟩, hS_ne ⟨h0, h1, h2⟩]
def sepW (s c ea n : Nat) (P : Nat → Nat) : Prop := ∀ q, inW c ea n P q → q ≠ s ∧ q ≠ s + 1 ∧ q ≠ s + 2
theorem kW_hS {h : zH} {s c : Nat} {qd mc : Int32} {ea n : Nat} {P : Nat → Nat} {A : Nat → Nat → Int} {D : Nat → Int32} {σ : zS} (k : kW h c qd mc ea n P A D) (e : sepW s c ea n P) : kW (hS s c σ h) c qd mc ea n P A D :=
  kW_eq (fun q hq => hS_ne (e q hq)) k
theorem p_land {h : zH} {s c : Nat} {qd mc : Int32} {ea n : Nat} {P : Nat → Nat} {A : Nat → Nat → Int} {D : Nat → Int32} {σ : zS} (k : kW h c qd mc ea n P A D) (e : sepW s c ea n P) {l x y d : Int} (hl : -100 ≤ l ∧ l ≤ 100) (hx : -100 ≤ x ∧ x ≤ 100) (hy : -100 ≤ y ∧ y ≤ 100) :
    M_X2_land (hS s c σ h) s (zi d) (zi x) (zi y) (zi l) = some (hS s c (fal A n l x y d σ) h) := by
  have k' := kW_hS (σ := σ) k e
  have hn := k.2.1.2.1
  have hb := hbS_bd (A := A) (l := l) (x := x) (y := y) n fun i hi => (k.2.2 i hi).2
  have e0 := hS_0 s c σ h
  have e1 := hS_1 s c σ h
  have e2 := hS_2 s c σ h
  simp only [M_X2_land, p_isCell (x := x) (y := y) (by omega) (by omega), ob_some, Option.bind_none, jn0_e, jn1_e, jn2_e, jn3_e, jn4_e, jn5_e]
  unfold fal
  by_cases h1 : 0 ≤ x ∧ x < 24 ∧ 0 ≤ y ∧ y < 24
  · rw [if_pos h1, if_neg (by decide), if_pos h1]
    simp only [gR_of e0 (k := 0) rfl, Option.bind_some, ck_of k'.1, p_highest k'.1 k'.2.1 k'.2.2 hl hx hy]
    by_cases h2 : (hbS A l x y n).1 < 0
    · rw [if_pos (by rw [n_0, zi_lt (by omega) (by omega) (by omega) (by omega)]; exact h2), if_pos h2]
      simp only [gR_of e0 (k := 1) rfl, ob_some, Option.bind_none, jn0_e, jn1_e, jn2_e, jn3_e, jn4_e, jn5_e, n_0, n_1, n_2, n_3, n_4, n_5, n_6, n_7, n_8, n_9, n_10, n_20, n_23, n_24, n_576, n_577, n_m1, zi_neg, zi_add, zi_sub, zi_mul]
      rw [cI_of e1 (by omega) (by omega) (by omega), Option.bind_some, csI_of e1 (by omega) (by omega) (by omega), Option.bind_some]
      have e4 : ∀ c', z_up (hS s c σ h) (s + 1) c' s = some (zO 3 [.ref c, .ref (s + 1), .ref (s + 2), .int (zi (tot σ.1)), .int (zi σ.2.2)]) := fun c' => by rw [up_ne (by omega), e0]
      simp only [gI_of (e4 _) (k := 3) rfl, Option.bind_some, pV_of (e4 _) (k := 3) (by simp), zi_add]
      refine congrArg some (hS_mk ?_ ?_ ?_ fun q hq => ?_)
      · rw [up_at, tot_add2 _ _ (by omega) (by omega)]
        rfl
      · rw [up_ne (by omega), up_at]
        refine congrArg some (cA_congr fun p hp => ?_)
        have hq : (p = (y * 24 + x).toNat) ↔ (p % 24 = x.toNat ∧ p / 24 = y.toNat) := by omega
        by_cases h3 : p = (y * 24 + x).toNat
        · rw [if_pos h3, ← h3]
          simp only [add2, if_pos (hq.mp h3)]
        · rw [if_neg h3]
          simp only [add2, if_neg (fun h4 => h3 (hq.mpr h4))]
      · rw [up_ne (by omega), up_ne (by omega), e2]
      · rw [up_ne hq.1, up_ne hq.2.1, hS_ne hq]
    · rw [if_neg (by rw [n_0, zi_lt (by omega) (by omega) (by omega) (by omega)]; exact h2), if_neg h2]
      simp only [gR_of e0 (k := 2) rfl, ob_some, Option.bind_none, jn0_e, jn1_e, jn2_e, jn3_e, jn4_e, jn5_e, al_of e2]
      rw [if_neg (by rw [zi_le (by omega) (by omega) (by omega) (by omega)]; omega), cI_of e2 (by omega) (by omega) (by omega), Option.bind_some, csI_of e2 (by omega) (by omega) (by omega), Option.bind_some]
      refine congrArg some (hS_mk ?_ ?_ ?_ fun q hq => ?_)
      · rw [up_ne (by omega), e0]
      · rw [up_ne (by omega), e1]
      · rw [up_at]
        refine congrArg some (cA_congr fun p hp => ?_)
        by_cases h3 : p = (hbS A l x y n).1.toNat
        · simp only [add1, ← h3, zi_add, if_true]
        · rw [if_neg h3]
          simp only [add1, if_neg h3]
      · rw [up_ne hq.2.2, hS_ne hq]
  · rw [if_neg h1, if_pos rfl, if_neg h1]
    simp only [gI_of e0 (k := 4) rfl, Option.bind_some, pV_of e0 (k := 4) (by simp), zi_add]
    refine congrArg some (hS_mk ?_ ?_ ?_ fun q hq => ?_)
    · rw [up_at]; rfl
    · rw [up_ne (by omega), e1]
    · rw [up_ne (by omega), e2]
    · rw [up_ne hq.1, hS_ne hq]
