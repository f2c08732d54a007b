/-! roll, by the reference -/
theorem p_X5roll {h : zH} {m n sn : Nat} {th hr ro : Int32} {A : Nat → Nat → Int} {D : Nat → Int32} (km : kM h m th n sn hr ro) (ks : kSh h m n A D) {a : Int} (ha : -2147483648 ≤ a ∧ a < 2147483648) :
    (0 ≤ a ∧ a < n → ∃ h', M_X5_roll h m (zi a) = some (zi (1 - A a.toNat 6), h') ∧ kM h' m 0 n sn hr ro ∧ kSh h' m n (upA A a.toNat (rolA (A a.toNat))) D ∧ ∀ q, q ≠ m → q ≠ m + 1 → h' q = h q) ∧
    (¬(0 ≤ a ∧ a < n) → M_X5_roll h m (zi a) = some (0, hT h m 1 n sn hr ro)) := by
  have hn := ks.1
  have k0 := kM_hT h m 0 n sn hr ro
  have k1 := kM_hT h m 1 n sn hr ro
  have k2 := kSh_hT (n := n) (sn := sn) (t := 0) (hr := hr) (ro := ro) ks
  have e10 : ((1 : Int32) = 0) = False := eq_false (by decide)
  have e00 : ((0 : Int32) = 0) = True := eq_true rfl
  simp only [M_X5_roll, ck_of km, ob_some, p_isAwning km hn ha, b1_0, jn2_e, p_setTh km, gI_of k0 (k := 0) rfl, gI_of k1 (k := 0) rfl, e10, e00, if_true, if_false]
  constructor
  · intro h1
    obtain ⟨i, rfl⟩ : ∃ i : Nat, a = i := ⟨a.toNat, by omega⟩
    have hi : i < n := by omega
    obtain ⟨-, f, g1, g2⟩ := id k2
    have o := (g2 i hi).1
    have o' := o
    unfold okA at o'
    have e6 : (8 : Int32) * zi i + 6 = zi ((8 * i + 6 : Nat) : Int) := by
      rw [n_8, n_6, zi_mul, zi_add]; rfl
    have hw : z_sI (hT h m 0 n sn hr ro) (m + 1) (zi ((8 * i + 6 : Nat) : Int)) (zi (1 - A i 6)) = some (z_up (hT h m 0 n sn hr ro) (m + 1) (cA 80 fun p => if p = 8 * i + 6 then zi (1 - A i 6) else f p)) := by
      rw [csI_of g1 (by omega) (by omega) (by omega), Int.toNat_natCast]
    have hs : zi 1 - zi (A i 6) = zi (1 - A i 6) := zi_sub ..
    have k4 : kM (z_up (hT h m 0 n sn hr ro) (m + 1) (cA 80 fun p => if p = 8 * i + 6 then zi (1 - A i 6) else f p)) m 0 n sn hr ro := (up_ne (by omega)).trans k0
    have k5 : kSh (z_up (hT h m 0 n sn hr ro) (m + 1) (cA 80 fun p => if p = 8 * i + 6 then zi (1 - A i 6) else f p)) m n (upA A i (rolA (A i))) D := by
      refine ⟨hn, _, up_at .., fun j hj => ?_⟩
      obtain ⟨r1, r2, r3⟩ := g2 j hj
      by_cases hji : j = i
      · subst hji
        rw [upA_i]
        refine ⟨rolA_ok o, fun k hk => ?_, ?_⟩
        · by_cases h6 : k = 6
          · subst h6
            rw [if_pos rfl]; rfl
          · rw [if_neg (by omega), r2 k hk, rolA, if_neg h6]
        · rw [if_neg (by omega), r3]
      · unfold upA
        rw [if_neg hji]
        refine ⟨r1, fun k hk => ?_, ?_⟩
        · rw [if_neg (by omega), r2 k hk]
        · rw [if_neg (by omega), r3]
    refine ⟨_, ?_, k4, k5, fun q q0 q1 => (up_ne q1).trans (hT_ne q0)⟩
    have hout := p_isOut k4 k5 hi
    rw [upA_i] at hout
    have hv : zi (b1 (decide (rolA (A i) 6 = 1))) = zi (1 - A i 6) := by
      have h8 : A i 6 = 0 ∨ A i 6 = 1 := by omega
      rcases h8 with h8 | h8 <;> simp [rolA, h8, b1]
    rw [hv] at hout
    have v2 : zi (1 - A i 6) = 0 ∨ zi (1 - A i 6) = 1 := by
      have h8 : A i 6 = 0 ∨ A i 6 = 1 := by omega
      rcases h8 with h8 | h8
      · rw [h8]; exact .inr rfl
      · rw [h8]; exact .inl rfl
    rw [if_neg (by omega), gR_of k0 (k := 2) rfl, ob_some, ck_of k0, ob_some, p_of6 k0 k2 hi, ob_some, e6, n_1, hs, hw, ob_some, ck_of k4, ob_some, hout, ob_some, ← n_1, if_pos v2, Int.toNat_natCast]
  · intro h1
    rw [if_pos h1]
