/-! move, by the reference -/
theorem p_fits {x y w v : Int} (hx : -2147483648 ≤ x ∧ x < 2147483648) (hy : -2147483648 ≤ y ∧ y < 2147483648) (hw : 1 ≤ w ∧ w ≤ 24) (hv : 1 ≤ v ∧ v ≤ 24) :
    M_X5_fits (zi x) (zi y) (zi w) (zi v) = some (zi (b1 (decide (0 ≤ x ∧ x ≤ 24 - w ∧ 0 ≤ y ∧ y ≤ 24 - v)))) := by
  have i1 : M_X5_isIn (zi x) 0 (24 - zi w) = some (zi (b1 (decide (0 ≤ x ∧ x ≤ 24 - w)))) := by
    rw [n_0, n_24, zi_sub]; exact p_isIn hx (by omega) (by omega)
  have i2 : M_X5_isIn (zi y) 0 (24 - zi v) = some (zi (b1 (decide (0 ≤ y ∧ y ≤ 24 - v)))) := by
    rw [n_0, n_24, zi_sub]; exact p_isIn hy (by omega) (by omega)
  simp only [M_X5_fits, i1, i2, Option.bind_some, jn0, b1_0]
  by_cases h1 : 0 ≤ x ∧ x ≤ 24 - w
  · rw [if_neg (fun h => h h1)]
    by_cases h2 : 0 ≤ y ∧ y ≤ 24 - v
    · rw [if_neg (fun h => h h2), decide_eq_true ⟨h1.1, h1.2, h2⟩]; rfl
    · rw [if_pos h2, decide_eq_false (fun h => h2 h.2.2)]; rfl
  · rw [if_pos h1, decide_eq_false (fun h => h1 ⟨h.1, h.2.1⟩)]; rfl
theorem p_X5move {h : zH} {m n sn nx : Nat} {th hr ro : Int32} {A : Nat → Nat → Int} {D : Nat → Int32} {G : Nat → Nat → Int32} (km : kM h m th n sn hr ro) (ks : kSh h m n A D) (kg : kGm h m G)
    {a X Y : Int} (ha : -2147483648 ≤ a ∧ a < 2147483648) (hX : -2147483648 ≤ X ∧ X < 2147483648) (hY : -2147483648 ≤ Y ∧ Y < 2147483648) :
    ((0 ≤ a ∧ a < n) ∧ 0 ≤ X ∧ X ≤ 24 - A a.toNat 2 ∧ 0 ≤ Y ∧ Y ≤ 24 - A a.toNat 3 → ∃ h', M_X5_move h nx m (zi a) (zi X) (zi Y) = some (zi (tot fun p q => b1 (decide (1 ≤ lay (upA A a.toNat (movA (A a.toNat) X Y)) n p q))), h', nx) ∧
      kM h' m 0 n sn hr ro ∧ kSh h' m n (upA A a.toNat (movA (A a.toNat) X Y)) D ∧ ∀ q, q ≠ m → q ≠ m + 1 → h' q = h q) ∧
    (¬((0 ≤ a ∧ a < n) ∧ 0 ≤ X ∧ X ≤ 24 - A a.toNat 2 ∧ 0 ≤ Y ∧ Y ≤ 24 - A a.toNat 3) → M_X5_move h nx m (zi a) (zi X) (zi Y) = some (0, hT h m 1 n sn hr ro, nx)) := by
  have hn := ks.1
  have k0 := kM_hT h m 0 n sn hr ro
  have k2 := kSh_hT (n := n) (sn := sn) (t := 0) (hr := hr) (ro := ro) ks
  simp only [M_X5_move, p_setTh km, ob_some, ck_of k0, p_isAwning k0 hn ha, b1_0, jn0_e, p_no k0, hT_hT]
  by_cases h1 : 0 ≤ a ∧ a < n
  · obtain ⟨i, rfl⟩ : ∃ i : Nat, a = i := ⟨a.toNat, by omega⟩
    have hi : i < n := by omega
    obtain ⟨-, f, g1, g2⟩ := id k2
    have o := (g2 i hi).1
    have o' := o
    unfold okA at o'
    simp only [Int.toNat_natCast, p_of2 k0 k2 hi, p_of3 k0 k2 hi, ob_some, p_fits hX hY (w := A i 2) (v := A i 3) (by omega) (by omega), b1_0, gR_of k0 (k := 2) rfl]
    rw [if_neg (by omega)]
    constructor
    · intro h2
      have e0 : (8 : Int32) * zi i + 0 = zi ((8 * i : Nat) : Int) := by
        rw [n_8, n_0, zi_mul, zi_add, Int.add_zero]; rfl
      have e1 : (8 : Int32) * zi i + 1 = zi ((8 * i + 1 : Nat) : Int) := by
        rw [n_8, n_1, zi_mul, zi_add]; rfl
      have w0 : z_sI (hT h m 0 n sn hr ro) (m + 1) (zi ((8 * i : Nat) : Int)) (zi X) = some (z_up (hT h m 0 n sn hr ro) (m + 1) (cA 80 fun p => if p = 8 * i then zi X else f p)) := by
        rw [csI_of g1 (by omega) (by omega) (by omega), Int.toNat_natCast]
      have w1 : z_sI (z_up (hT h m 0 n sn hr ro) (m + 1) (cA 80 fun p => if p = 8 * i then zi X else f p)) (m + 1) (zi ((8 * i + 1 : Nat) : Int)) (zi Y) = some (z_up (hT h m 0 n sn hr ro) (m + 1) (cA 80 fun p => if p = 8 * i + 1 then zi Y else if p = 8 * i then zi X else f p)) := by
        rw [csI_of (up_at _ _ _) (by omega) (by omega) (by omega), Int.toNat_natCast, up_up]
      have k3 : ∀ c, kM (z_up (hT h m 0 n sn hr ro) (m + 1) c) m 0 n sn hr ro := fun c => (up_ne (by omega)).trans k0
      have k5 : kSh (z_up (hT h m 0 n sn hr ro) (m + 1) (cA 80 fun p => if p = 8 * i + 1 then zi Y else if p = 8 * i then zi X else f p)) m n (upA A i (movA (A i) X Y)) D := by
        refine ⟨hn, _, up_at .., fun j hj => ?_⟩
        obtain ⟨r1, r2, r3⟩ := g2 j hj
        by_cases hji : j = i
        · subst hji
          rw [upA_i]
          refine ⟨movA_ok o h2.2, fun k hk => ?_, ?_⟩
          · by_cases q0 : k = 0
            · subst q0
              rw [if_neg (by omega), if_pos (by omega)]; rfl
            · by_cases q1 : k = 1
              · subst q1
                rw [if_pos rfl]; rfl
              · rw [if_neg (by omega), if_neg (by omega), r2 k hk, movA, if_neg q0, if_neg q1]
          · rw [if_neg (by omega), if_neg (by omega), r3]
        · unfold upA
          rw [if_neg hji]
          refine ⟨r1, fun k hk => ?_, ?_⟩
          · rw [if_neg (by omega), if_neg (by omega), r2 k hk]
          · rw [if_neg (by omega), if_neg (by omega), r3]
      have kg' : kGm (z_up (hT h m 0 n sn hr ro) (m + 1) (cA 80 fun p => if p = 8 * i + 1 then zi Y else if p = 8 * i then zi X else f p)) m G := (up_ne (by omega)).trans (kGm_hT kg)
      have hc : M_X5_counted (z_up (hT h m 0 n sn hr ro) (m + 1) (cA 80 fun p => if p = 8 * i + 1 then zi Y else if p = 8 * i then zi X else f p)) nx m 3 = some (zi (tot fun p q => b1 (decide (1 ≤ lay (upA A i (movA (A i) X Y)) n p q))), z_up (hT h m 0 n sn hr ro) (m + 1) (cA 80 fun p => if p = 8 * i + 1 then zi Y else if p = 8 * i then zi X else f p), nx) := by
        have hs := p_sumOf (k3 _) k5 kg' (w := 3) (by omega)
        rw [← n_3] at hs
        simp only [M_X5_counted, jn0_e, ck_of (k3 _), ob_some, hs]
        rw [if_neg (by decide), if_neg (by decide), if_neg (by decide), if_neg (by decide), if_neg (by decide), if_neg (by decide), if_neg (by decide), if_neg (by decide)]
        rfl
      refine ⟨_, ?_, k3 _, k5, fun q q0 q1 => (up_ne q1).trans (hT_ne q0)⟩
      rw [if_neg (fun h => h h2.2), e0, w0, ob_some, gR_of (k3 _) (k := 2) rfl, ob_some, e1, w1, ob_some, ck_of (k3 _), ob_some, hc, ob_some]
    · intro h2
      rw [if_pos (fun h => h2 ⟨h1, h⟩)]
  · refine ⟨fun h => absurd h.1 h1, fun _ => ?_⟩
    rw [if_pos h1]
