/-! parts: what hangs together within a set of cells -/
def adj (a b c d : Nat) : Prop := (a = c ∧ (b + 1 = d ∨ d + 1 = b)) ∨ (b = d ∧ (a + 1 = c ∨ c + 1 = a))
theorem adj_sym {a b c d : Nat} (h : adj a b c d) : adj c d a b := by unfold adj at *; omega
def cn (V : Nat → Nat → Bool) (x y u v : Nat) : Prop := ∀ S : Nat → Nat → Prop, S x y → (∀ a b c d, S a b → V c d = true → adj a b c d → S c d) → S u v
theorem cn_rf (V : Nat → Nat → Bool) (x y : Nat) : cn V x y x y := fun _ h _ => h
theorem cn_st {V : Nat → Nat → Bool} {x y a b c d : Nat} (h : cn V x y a b) (h2 : V c d = true) (h3 : adj a b c d) : cn V x y c d := fun S k1 k2 => k2 _ _ _ _ (h S k1 k2) h2 h3
theorem cn_in {V : Nat → Nat → Bool} {x y u v : Nat} (h : cn V x y u v) (hv : V x y = true) : V u v = true := h (fun a b => V a b = true) hv (fun _ _ _ _ _ h2 _ => h2)
theorem cn_tr {V : Nat → Nat → Bool} {x y a b u v : Nat} (h : cn V x y a b) (h2 : cn V a b u v) : cn V x y u v := fun S k1 k2 => h2 S (h S k1 k2) k2
theorem cn_sy {V : Nat → Nat → Bool} {x y u v : Nat} (hv : V x y = true) (h : cn V x y u v) : cn V u v x y := by
  have h1 : V u v = true ∧ cn V u v x y := h (fun a b => V a b = true ∧ cn V a b x y) ⟨hv, cn_rf V x y⟩ (fun a b c d g1 g3 g4 => ⟨g3, cn_tr (cn_st (cn_rf V c d) g1.1 (adj_sym g4)) g1.2⟩)
  exact h1.2
noncomputable def rp (V : Nat → Nat → Bool) (x y : Nat) : Nat × Nat := Classical.epsilon fun q : Nat × Nat => cn V x y q.1 q.2
theorem rp_cn (V : Nat → Nat → Bool) (x y : Nat) : cn V x y (rp V x y).1 (rp V x y).2 := Classical.epsilon_spec (p := fun q : Nat × Nat => cn V x y q.1 q.2) ⟨(x, y), cn_rf V x y⟩
theorem rp_eq {V : Nat → Nat → Bool} {x y u v : Nat} (hv : V x y = true) (h : cn V x y u v) : rp V u v = rp V x y := by
  have e : (fun q : Nat × Nat => cn V u v q.1 q.2) = fun q : Nat × Nat => cn V x y q.1 q.2 := by
    funext q
    exact propext ⟨fun k => cn_tr h k, fun k => cn_tr (cn_sy hv h) k⟩
  unfold rp
  rw [e]
noncomputable def ir (V : Nat → Nat → Bool) (x y : Nat) : Bool := decide (rp V x y = (x, y))
/-- how many parts a set of whole parts has -/
noncomputable def pcnt (V T : Nat → Nat → Bool) : Int := tot fun x y => b1 (T x y && ir V x y)
def inQ (V : Nat → Nat → Bool) : Prop := ∀ x y, V x y = true → x < 24 ∧ y < 24
def clo (V T : Nat → Nat → Bool) : Prop := (∀ x y, T x y = true → V x y = true) ∧ ∀ x y u v, T x y = true → cn V x y u v → T u v = true
theorem clo_of {V T : Nat → Nat → Bool} (h1 : ∀ x y, T x y = true → V x y = true) (h2 : ∀ a b c d, T a b = true → V c d = true → adj a b c d → T c d = true) : clo V T :=
  ⟨h1, fun _ _ _ _ k1 k2 => k2 (fun a b => T a b = true) k1 h2⟩
theorem tot_congr {F F' : Nat → Nat → Int} (h : ∀ x y, x < 24 → y < 24 → F x y = F' x y) : tot F = tot F' := sm_congr fun x hx => sm_congr fun y hy => h x y hx hy
theorem pcnt_add {V T T' : Nat → Nat → Bool} {a b : Nat} (hV : inQ V) (hc : clo V T) (ha : V a b = true) (hT : T a b = false) (h' : ∀ x y, T' x y = true ↔ T x y = true ∨ cn V a b x y) : pcnt V T' = pcnt V T + 1 := by
  have hr : V (rp V a b).1 (rp V a b).2 = true := cn_in (rp_cn V a b) ha
  have hr2 := hV _ _ hr
  have key : (fun x y => b1 (T' x y && ir V x y)) = add2 (fun x y => b1 (T x y && ir V x y)) (rp V a b).1 (rp V a b).2 1 := by
    funext x y
    simp only [add2]
    by_cases h1 : cn V a b x y
    · have e1 : T' x y = true := (h' x y).2 (.inr h1)
      have e2 : T x y = false := by
        refine Bool.eq_false_iff.mpr fun h => ?_
        have := hc.2 _ _ _ _ h (cn_sy ha h1)
        rw [hT] at this; cases this
      have e3 : rp V x y = rp V a b := rp_eq ha h1
      by_cases h2 : x = (rp V a b).1 ∧ y = (rp V a b).2
      · have e4 : ir V x y = true := decide_eq_true (by rw [e3]; exact Prod.ext h2.1.symm h2.2.symm)
        rw [if_pos h2, e1, e2, e4]; rfl
      · have e4 : ir V x y = false := decide_eq_false (by
          rw [e3]; intro h
          exact h2 ⟨by rw [h], by rw [h]⟩)
        rw [if_neg h2, e1, e2, e4]; rfl
    · have e1 : T' x y = T x y := by
        rw [Bool.eq_iff_iff, h' x y]
        exact ⟨fun h => h.resolve_right h1, .inl⟩
      rw [if_neg, e1]
      rintro ⟨rfl, rfl⟩
      exact h1 (rp_cn V a b)
  unfold pcnt
  rw [key, tot_add2 _ _ hr2.1 hr2.2]
def up2 (T : Nat → Nat → Bool) (a b : Nat) : Nat → Nat → Bool := fun x y => T x y || decide (x = a ∧ y = b)
def nmb (T : Nat → Nat → Bool) : Int := tot fun x y => b1 (T x y)
theorem nmb_bd (T : Nat → Nat → Bool) : 0 ≤ nmb T ∧ nmb T ≤ 576 := tot_b1_bd T
theorem nmb_up {T : Nat → Nat → Bool} {a b : Nat} (ha : a < 24) (hb : b < 24) (hT : T a b = false) : nmb (up2 T a b) = nmb T + 1 := by
  have key : (fun x y => b1 (up2 T a b x y)) = add2 (fun x y => b1 (T x y)) a b 1 := by
    funext x y
    simp only [add2, up2]
    by_cases h : x = a ∧ y = b
    · obtain ⟨rfl, rfl⟩ := h
      rw [if_pos ⟨rfl, rfl⟩, hT]; simp [b1]
    · rw [if_neg h, decide_eq_false h, Bool.or_false]
  unfold nmb
  rw [key, tot_add2 _ _ ha hb]
theorem sm_mono {n : Nat} {f g : Nat → Int} (h : ∀ k, k < n → f k ≤ g k) : sm n f ≤ sm n g := by
  induction n with
  | zero => exact Int.le_refl _
  | succ n ih =>
    have h1 := ih fun k hk => h k (by omega)
    have h2 := h n (by omega)
    rw [sm, sm]; omega
theorem nmb_mono {T T' : Nat → Nat → Bool} (h : ∀ x y, T x y = true → T' x y = true) : nmb T ≤ nmb T' := by
  refine sm_mono fun x _ => sm_mono fun y _ => ?_
  show b1 (T x y) ≤ b1 (T' x y)
  cases e : T x y with
  | false => exact (b1_bd (T' x y)).1
  | true => rw [h x y e]; exact Int.le_refl _
theorem nmb_lt {T T' : Nat → Nat → Bool} {a b : Nat} (h : ∀ x y, T x y = true → T' x y = true) (ha : a < 24) (hb : b < 24) (h1 : T a b = false) (h2 : T' a b = true) : nmb T + 1 ≤ nmb T' := by
  rw [← nmb_up ha hb h1]
  refine nmb_mono fun x y hxy => ?_
  unfold up2 at hxy
  rw [Bool.or_eq_true, decide_eq_true_iff] at hxy
  rcases hxy with h3 | ⟨rfl, rfl⟩
  · exact h x y h3
  · exact h2
/-! loops with an invariant -/
theorem wl1_go {A R : Type} {f : (A → Option R) → A → Option R} {Post : Option R → Prop} (P : Nat → A → Prop)
    (hs : ∀ rec d a, P d a → Post (f rec a) ∨ ∃ d' a', d' < d ∧ P d' a' ∧ f rec a = rec a') : ∀ (d fuel : Nat) (a : A), P d a → d < fuel → Post (wl1 f fuel a) := by
  intro d
  induction d using Nat.strongRecOn with
  | ind d ih =>
    intro fuel a h0 hf
    obtain ⟨g, rfl⟩ : ∃ g, fuel = g + 1 := ⟨fuel - 1, by omega⟩
    rcases hs (wl1 f g) d a h0 with h1 | ⟨d', a', h1, h2, h3⟩
    · exact h1
    · have h4 : wl1 f (g + 1) a = wl1 f g a' := h3
      rw [h4]
      exact ih d' h1 g a' h2 (by omega)
theorem wl2_go {A B R : Type} {f : (A → B → Option R) → A → B → Option R} {Post : Option R → Prop} (P : Nat → A → B → Prop)
    (hs : ∀ rec d a b, P d a b → Post (f rec a b) ∨ ∃ d' a' b', d' < d ∧ P d' a' b' ∧ f rec a b = rec a' b') : ∀ (d fuel : Nat) (a : A) (b : B), P d a b → d < fuel → Post (wl2 f fuel a b) := by
  intro d
  induction d using Nat.strongRecOn with
  | ind d ih =>
    intro fuel a b h0 hf
    obtain ⟨g, rfl⟩ : ∃ g, fuel = g + 1 := ⟨fuel - 1, by omega⟩
    rcases hs (wl2 f g) d a b h0 with h1 | ⟨d', a', b', h1, h2, h3⟩
    · exact h1
    · have h4 : wl2 f (g + 1) a b = wl2 f g a' b' := h3
      rw [h4]
      exact ih d' h1 g a' b' h2 (by omega)
theorem wl3_go {A B C R : Type} {f : (A → B → C → Option R) → A → B → C → Option R} {Post : Option R → Prop} (P : Nat → A → B → C → Prop)
    (hs : ∀ rec d a b c, P d a b c → Post (f rec a b c) ∨ ∃ d' a' b' c', d' < d ∧ P d' a' b' c' ∧ f rec a b c = rec a' b' c') : ∀ (d fuel : Nat) (a : A) (b : B) (c : C), P d a b c → d < fuel → Post (wl3 f fuel a b c) := by
  intro d
  induction d using Nat.strongRecOn with
  | ind d ih =>
    intro fuel a b c h0 hf
    obtain ⟨g, rfl⟩ : ∃ g, fuel = g + 1 := ⟨fuel - 1, by omega⟩
    rcases hs (wl3 f g) d a b c h0 with h1 | ⟨d', a', b', c', h1, h2, h3⟩
    · exact h1
    · have h4 : wl3 f (g + 1) a b c = wl3 f g a' b' c' := h3
      rw [h4]
      exact ih d' h1 g a' b' c' h2 (by omega)
