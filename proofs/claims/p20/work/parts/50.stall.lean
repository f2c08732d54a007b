/-! is a stall there -/
def hsS (S : Nat → Nat → Int) (x y : Int) : Nat → Bool
  | 0 => false
  | k + 1 => hsS S x y k || decide (S k 0 = x ∧ S k 1 = y)
theorem hsS_mono {S : Nat → Nat → Int} {x y : Int} {i n : Nat} (hi : i < n) (h : S i 0 = x ∧ S i 1 = y) : hsS S x y n = true := by
  induction n with
  | zero => omega
  | succ n ih =>
    rw [hsS]
    by_cases hin : i = n
    · subst hin; rw [decide_eq_true h, Bool.or_true]
    · rw [ih (by omega), Bool.true_or]
theorem p_hasStall {h : zH} {x c s sl g : Nat} {hr gd go mc : Int32} {ea sn : Nat} {Q : Nat → Nat} {S : Nat → Nat → Int} {B : Nat → Int32} (kx : kX h x c s sl g hr gd go) (kt : kSt h sl mc ea sn Q S B) (os : okS2 S sn) {a b : Int} (hi : 0 ≤ a ∧ a < 24 ∧ 0 ≤ b ∧ b < 24) :
    M_X4_hasStallAt h x (zi a) (zi b) = some (zi (b1 (hsS S a b sn))) := by
  have hs := kt.1.2.1
  have key : ∀ (f : (Int32 → Option Int32) → Int32 → Option Int32) (_ : ∀ rec (j : Nat), j < sn → f rec (zi j) = if S j 0 = a ∧ S j 1 = b then some 1 else rec (zi (j + 1 : Nat))) (_ : ∀ rec, f rec (zi sn) = some 0)
      (d j fuel : Nat), j + d = sn → d < fuel → hsS S a b j = false → wl1 f fuel (zi j) = some (zi (b1 (hsS S a b sn))) := by
    intro f f1 f0 d
    induction d with
    | zero =>
      intro j fuel h1 h2 h3
      obtain ⟨g, rfl⟩ : ∃ g, fuel = g + 1 := ⟨fuel - 1, by omega⟩
      have : j = sn := by omega
      subst this
      rw [wl1, f0, h3]
      rfl
    | succ d ih =>
      intro j fuel h1 h2 h3
      obtain ⟨g, rfl⟩ : ∃ g, fuel = g + 1 := ⟨fuel - 1, by omega⟩
      rw [wl1, f1 _ j (by omega)]
      by_cases h4 : S j 0 = a ∧ S j 1 = b
      · rw [if_pos h4, hsS_mono (by omega : j < sn) h4]
        rfl
      · rw [if_neg h4]
        refine ih (j + 1) g (by omega) (by omega) ?_
        rw [hsS, h3, decide_eq_false h4]
        rfl
  unfold M_X4_hasStallAt
  refine key _ (fun rec j hj => ?_) (fun rec => ?_) sn 0 700 (by omega) (by omega) rfl
  · have hp := kt.2 j hj
    have o := os j hj
    simp (disch := omega) only [gR_of kx (k := 2) rfl, ob_some, ck_of kt.1.1, p_lsize kt.1, zi_le, p_get kt.1 hj, ck_of hp, gI_of hp (k := 0) rfl, gI_of hp (k := 1) rfl, jn0_e, zi_eq]
    rw [if_neg (by omega), n_1, zi_add, Int.natCast_add, Int.natCast_one]
    by_cases h1 : S j 0 = a
    · rw [if_pos h1]
      by_cases h2 : S j 1 = b
      · rw [if_pos h2, if_pos ⟨h1, h2⟩]
      · rw [if_neg h2, if_neg (fun h => h2 h.2)]
    · rw [if_neg h1, if_neg (fun h => h1 h.1)]
  · simp (disch := omega) only [gR_of kx (k := 2) rfl, ob_some, ck_of kt.1.1, p_lsize kt.1, zi_le]
    rw [if_pos (by omega)]
