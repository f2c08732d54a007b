/-! an hour of rain, by the reference -/
theorem p_X5rain {h : zH} {m n sn : Nat} {th hr ro : Int32} {A : Nat → Nat → Int} {D : Nat → Int32} {G : Nat → Nat → Int32} {f g : Nat → Int32} (km : kM h m th n sn hr ro) (ks : kSh h m n A D) (kg : kGm h m G) (e5 : h (m + 5) = some (cA 576 f)) (e6 : h (m + 6) = some (cA 10 g))
    {d : Int} (hd : 1 ≤ d ∧ d ≤ 20) :
    ∃ h' f' g', M_X5_rain h m (zi d) = some (zi (576 * d - (pL A n d 9).2.2), h') ∧ kM h' m 0 n sn (hr + 1) (ro + zi (pL A n d 9).2.2) ∧ kSh h' m n A (fun i => D i + zi ((pL A n d 9).2.1 i)) ∧ kGm h' m (fun x y => G x y + zi ((pL A n d 9).1 x y)) ∧
      h' (m + 5) = some (cA 576 f') ∧ h' (m + 6) = some (cA 10 g') ∧ ∀ q, q ≠ m → q ≠ m + 1 → q ≠ m + 4 → q ≠ m + 5 → q ≠ m + 6 → h' q = h q := by
  have hn := ks.1
  have k1 := kM_hT h m 0 n sn hr ro
  have k2 := kSh_hT (n := n) (sn := sn) (t := 0) (hr := hr) (ro := ro) ks
  have i20 : M_X5_isIn (zi d) 1 20 = some (zi (b1 (decide (1 ≤ d ∧ d ≤ 20)))) := by
    rw [n_1, n_20]; exact p_isIn (by omega) (by omega) (by omega)
  generalize hσ : pL A n d 9 = σ
  have hpour : M_X5_pour (hT h m 0 n sn hr ro) m (zi d) = some (zi σ.2.2, hM m σ (hT h m 0 n sn hr ro)) := by
    rw [← hσ]; exact p_mpour k1 k2 ((hT_ne (by omega)).trans e5) ((hT_ne (by omega)).trans e6) (by omega)
  have kH : kM (hM m σ (hT h m 0 n sn hr ro)) m 0 n sn hr ro := kM_hM k1
  obtain ⟨-, fs, q1, q2⟩ := kSh_hM (σ := σ) k2
  have q4 : hM m σ (hT h m 0 n sn hr ro) (m + 4) = some (cA 576 fun p => G (p / 24) (p % 24)) := (hM_ne (by omega)).trans ((hT_ne (by omega)).trans kg)
  have q5 := hM_5 m σ (hT h m 0 n sn hr ro)
  have q6 := hM_6 m σ (hT h m 0 n sn hr ro)
  have hfr : ∀ q, q ≠ m → q ≠ m + 5 → q ≠ m + 6 → hM m σ (hT h m 0 n sn hr ro) q = h q := fun q g1 g2 g3 => (hM_ne ⟨g2, g3⟩).trans (hT_ne g1)
  generalize hM m σ (hT h m 0 n sn hr ro) = H at *
  have kH4 : ∀ c, kM (z_up H (m + 4) c) m 0 n sn hr ro := fun c => (up_ne (by omega)).trans kH
  have kH1 : ∀ c c', kM (z_up (z_up H (m + 4) c) (m + 1) c') m 0 n sn hr ro := fun c c' => (up_ne (by omega)).trans (kH4 c)
  have main : M_X5_rain h m (zi d) = some (zi (576 * d - σ.2.2), hT (z_up (z_up H (m + 4) (cA 576 fun p => G (p / 24) (p % 24) + zi (σ.1 (p / 24) (p % 24)))) (m + 1) (cA 80 fun p => if p % 8 = 7 ∧ p / 8 < n then fs p + zi (σ.2.1 (p / 8)) else fs p)) m 0 n sn (hr + 1) (ro + zi σ.2.2)) := by
    simp only [M_X5_rain, p_setTh km, ob_some, i20, b1_0, ck_of k1, hpour]
    rw [if_neg (by omega)]
    refine wl2_st (fun j => zi (j : Int)) (fun j => z_up H (m + 4) (cA 576 fun p => if p < j then G (p / 24) (p % 24) + zi (σ.1 (p / 24) (p % 24)) else G (p / 24) (p % 24))) 576 n_0 ?_ ?_ ?_ 700 (by omega)
    · simp only [Nat.not_lt_zero, if_false]
      exact (up_same q4).symm
    · intro rec j hj
      simp (disch := omega) only [n_576, zi_le, gR_of (kH4 _) (k := 6) rfl, gR_of (kH4 _) (k := 9) rfl, ob_some, cI_of (up_at H (m + 4) _), cI_of ((up_ne (by omega : m + 5 ≠ m + 4)).trans q5), csI_of (up_at H (m + 4) _), up_up]
      rw [if_neg (by omega), n_1, zi_add, Int.natCast_add, Int.natCast_one]
      refine congrArg (rec _) (up_congr fun p hp => ?_)
      rw [Int.toNat_natCast]
      by_cases g1 : p = j
      · rw [if_pos g1, if_neg (Nat.lt_irrefl j), if_pos (by omega : p < j + 1), ← g1]
      · rw [if_neg g1]
        by_cases g2 : p < j
        · rw [if_pos g2, if_pos (by omega)]
        · rw [if_neg g2, if_neg (by omega)]
    · intro rec
      simp (disch := omega) only [n_576, zi_le]
      rw [if_pos (by omega), up_congr (g := fun p => G (p / 24) (p % 24) + zi (σ.1 (p / 24) (p % 24))) fun p hp => if_pos hp]
      refine wl2_st (fun j => zi (j : Int)) (fun j => z_up (z_up H (m + 4) (cA 576 fun p => G (p / 24) (p % 24) + zi (σ.1 (p / 24) (p % 24)))) (m + 1) (cA 80 fun p => if p % 8 = 7 ∧ p / 8 < j then fs p + zi (σ.2.1 (p / 8)) else fs p)) n n_0 ?_ ?_ ?_ 700 (by omega)
      · simp only [Nat.not_lt_zero, and_false, if_false]
        exact (up_same ((up_ne (by omega)).trans q1)).symm
      · intro rec2 j hj
        have s6 : ∀ c c', z_up (z_up H (m + 4) c) (m + 1) c' (m + 6) = some (cA 10 fun p => zi (σ.2.1 p)) := fun c c' => (up_ne (by omega)).trans ((up_ne (by omega)).trans q6)
        simp only [n_7, n_8, zi_mul, zi_add]
        simp (disch := omega) only [gI_of (kH1 _ _) (k := 1) rfl, gR_of (kH1 _ _) (k := 2) rfl, gR_of (kH1 _ _) (k := 10) rfl, ob_some, zi_le, cI_of (up_at _ (m + 1) _), cI_of (s6 _ _), csI_of (up_at _ (m + 1) _), up_up]
        rw [if_neg (by omega), n_1, zi_add, Int.natCast_add, Int.natCast_one]
        refine congrArg (rec2 _) (up_congr fun p hp => ?_)
        rw [show (8 * (j : Int) + 7).toNat = 8 * j + 7 from by omega, Int.toNat_natCast]
        by_cases g1 : p = 8 * j + 7
        · rw [if_pos g1, if_neg (c := (8 * j + 7) % 8 = 7 ∧ (8 * j + 7) / 8 < j) (by omega), if_pos (c := p % 8 = 7 ∧ p / 8 < j + 1) (by omega), g1, show (8 * j + 7) / 8 = j from by omega]
        · rw [if_neg g1]
          by_cases g2 : p % 8 = 7 ∧ p / 8 < j
          · rw [if_pos g2, if_pos (by omega)]
          · rw [if_neg g2, if_neg (by omega)]
      · intro rec2
        simp (disch := omega) only [gI_of (kH1 _ _) (k := 1) rfl, ob_some, zi_le]
        rw [if_pos (by omega), gI_of (kH1 _ _) (k := 8) rfl, ob_some, pV_of (kH1 _ _) (k := 8) (by simp), ob_some, gI_of (up_at _ _ _) (k := 7) rfl, ob_some, pV_of (up_at _ _ _) (k := 7) (by simp), ob_some, up_up, zi_mul, zi_sub]
        rfl
  refine ⟨_, _, _, main, kM_hT .., ?_, ?_, (hT_ne (by omega)).trans ((up_ne (by omega)).trans ((up_ne (by omega)).trans q5)), (hT_ne (by omega)).trans ((up_ne (by omega)).trans ((up_ne (by omega)).trans q6)), fun q g0 g1 g4 g5 g6 => (hT_ne g0).trans ((up_ne g1).trans ((up_ne g4).trans (hfr q g0 g5 g6)))⟩
  · refine ⟨hn, _, (hT_ne (by omega)).trans (up_at ..), fun i hi => ?_⟩
    obtain ⟨g1, g2, g3⟩ := q2 i hi
    refine ⟨g1, fun k hk => ?_, ?_⟩
    · rw [if_neg (by omega), g2 k hk]
    · rw [if_pos (by omega), g3, show (8 * i + 7) / 8 = i from by omega]
  · exact (hT_ne (by omega)).trans ((up_ne (by omega)).trans (up_at ..))
