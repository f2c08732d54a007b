/-! parts, counted by any choice of one cell to a part -/
noncomputable def cnb (V : Nat → Nat → Bool) (a b c d : Nat) : Bool := @decide (cn V a b c d) (Classical.propDecidable _)
theorem cnb_iff {V : Nat → Nat → Bool} {a b c d : Nat} : cnb V a b c d = true ↔ cn V a b c d := by
  unfold cnb
  exact @decide_eq_true_iff _ (Classical.propDecidable _)
def one (V p : Nat → Nat → Bool) : Prop := (∀ x y, p x y = true → V x y = true) ∧ (∀ x y, V x y = true → ∃ u v, cn V x y u v ∧ p u v = true) ∧ ∀ x y u v, p x y = true → p u v = true → cn V x y u v → x = u ∧ y = v
theorem tot_one {f : Nat → Nat → Bool} {a b : Nat} (ha : a < 24) (hb : b < 24) (h : ∀ x y, x < 24 → y < 24 → (f x y = true ↔ x = a ∧ y = b)) : tot (fun x y => b1 (f x y)) = 1 := by
  rw [tot_congr (F' := add2 (fun _ _ => 0) a b 1) fun x y hx hy => ?_]
  · rw [tot_add2 _ _ ha hb]
    show sm 24 (fun _ => sm 24 fun _ => 0) + 1 = 1
    simp only [sm_zero]
    rfl
  · unfold add2
    by_cases g : x = a ∧ y = b
    · rw [if_pos g, (h x y hx hy).mpr g]; rfl
    · rw [if_neg g, Bool.eq_false_iff.mpr (fun e => g ((h x y hx hy).mp e))]; rfl
theorem tot_zero {f : Nat → Nat → Bool} (h : ∀ x y, x < 24 → y < 24 → f x y = false) : tot (fun x y => b1 (f x y)) = 0 := by
  rw [tot_congr (F' := fun _ _ => 0) fun x y hx hy => by rw [h x y hx hy]; rfl]
  show sm 24 (fun _ => sm 24 fun _ => 0) = 0
  simp only [sm_zero]
theorem tot_tot (f : Nat → Nat → Nat → Nat → Int) : (tot fun a b => tot fun c d => f a b c d) = tot fun c d => tot fun a b => f a b c d := by
  unfold tot
  have e1 : (sm 24 fun a => sm 24 fun b => sm 24 fun c => sm 24 fun d => f a b c d) = sm 24 fun a => sm 24 fun c => sm 24 fun b => sm 24 fun d => f a b c d := sm_congr fun a _ => sm_swap 24 24 fun b c => sm 24 fun d => f a b c d
  have e2 : (sm 24 fun a => sm 24 fun c => sm 24 fun b => sm 24 fun d => f a b c d) = sm 24 fun c => sm 24 fun a => sm 24 fun b => sm 24 fun d => f a b c d := sm_swap 24 24 fun a c => sm 24 fun b => sm 24 fun d => f a b c d
  have e3 : (sm 24 fun c => sm 24 fun a => sm 24 fun b => sm 24 fun d => f a b c d) = sm 24 fun c => sm 24 fun a => sm 24 fun d => sm 24 fun b => f a b c d := sm_congr fun c _ => sm_congr fun a _ => sm_swap 24 24 fun b d => f a b c d
  have e4 : (sm 24 fun c => sm 24 fun a => sm 24 fun d => sm 24 fun b => f a b c d) = sm 24 fun c => sm 24 fun d => sm 24 fun a => sm 24 fun b => f a b c d := sm_congr fun c _ => sm_swap 24 24 fun a d => sm 24 fun b => f a b c d
  rw [e1, e2, e3, e4]
theorem one_half {V p q : Nat → Nat → Bool} (hV : inQ V) (hp : one V p) (hq : one V q) : (tot fun a b => b1 (p a b)) = tot fun a b => tot fun c d => b1 (p a b && (q c d && cnb V a b c d)) := by
  refine tot_congr fun a b ha hb => ?_
  cases hpa : p a b
  · exact (tot_zero fun _ _ _ _ => rfl).symm
  · obtain ⟨c, d, h1, h2⟩ := hq.2.1 a b (hp.1 a b hpa)
    have h3 := hV c d (hq.1 c d h2)
    refine (tot_one h3.1 h3.2 fun x y hx hy => ?_).symm
    rw [Bool.true_and, Bool.and_eq_true, cnb_iff]
    constructor
    · rintro ⟨g1, g2⟩
      have := hq.2.2 x y c d g1 h2 (cn_tr (cn_sy (hp.1 a b hpa) g2) h1)
      exact this
    · rintro ⟨rfl, rfl⟩
      exact ⟨h2, h1⟩
theorem one_eq {V p q : Nat → Nat → Bool} (hV : inQ V) (hp : one V p) (hq : one V q) : (tot fun a b => b1 (p a b)) = tot fun a b => b1 (q a b) := by
  rw [one_half hV hp hq, tot_tot, one_half hV hq hp]
  refine tot_congr fun c d hc hd => tot_congr fun a b ha hb => ?_
  congr 1
  cases hpa : p a b
  · simp
  · cases hqc : q c d
    · simp
    · simp only [Bool.true_and]
      refine Bool.eq_iff_iff.mpr ?_
      rw [cnb_iff, cnb_iff]
      exact ⟨cn_sy (hp.1 a b hpa), cn_sy (hq.1 c d hqc)⟩
theorem one_ir {V : Nat → Nat → Bool} : one V fun x y => V x y && ir V x y := by
  refine ⟨fun x y h => (Bool.and_eq_true _ _ ▸ h).1, fun x y h => ?_, fun x y u v h1 h2 h3 => ?_⟩
  · have h1 := rp_cn V x y
    refine ⟨(rp V x y).1, (rp V x y).2, h1, ?_⟩
    rw [Bool.and_eq_true]
    refine ⟨cn_in h1 h, ?_⟩
    unfold ir
    exact decide_eq_true (rp_eq h h1)
  · rw [Bool.and_eq_true] at h1 h2
    have e1 : rp V x y = (x, y) := of_decide_eq_true h1.2
    have e2 : rp V u v = (u, v) := of_decide_eq_true h2.2
    have e3 := rp_eq h1.1 h3
    rw [e1, e2] at e3
    exact ⟨(congrArg Prod.fst e3).symm, (congrArg Prod.snd e3).symm⟩
theorem pcnt_one {V p : Nat → Nat → Bool} (hV : inQ V) (hp : one V p) : (tot fun a b => b1 (p a b)) = pcnt V V := one_eq hV hp one_ir
