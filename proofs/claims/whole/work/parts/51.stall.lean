/-! stall, by the reference -/
def adS2 (S : Nat → Nat → Int) (sn : Nat) (a b : Int) : Nat → Nat → Int := fun i k => if i = sn then (if k = 0 then a else b) else S i k
def adB (B : Nat → Int32) (sn : Nat) (v : Int32) : Nat → Int32 := fun i => if i = sn then v else B i
theorem and_1 (p : Bool) : zi (b1 p) &&& 1 = zi (b1 p) := by cases p <;> decide
theorem and_0 (p : Bool) : zi (b1 p) &&& 0 = zi 0 := by cases p <;> decide
theorem p_X5stall {h : zH} {m n sn : Nat} {th hr ro : Int32} {G : Nat → Nat → Int32} {S : Nat → Nat → Int} {B : Nat → Int32} (km : kM h m th n sn hr ro) (kg : kGm h m G) (ka : kAt h m sn S B) (os : okS2 S sn)
    {a b : Int} (ha : -2147483648 ≤ a ∧ a < 2147483648) (hb : -2147483648 ≤ b ∧ b < 2147483648) :
    (¬(0 ≤ a ∧ a < 24 ∧ 0 ≤ b ∧ b < 24) → M_X5_stall h m (zi a) (zi b) = some (0, hT h m 1 n sn hr ro)) ∧
    (0 ≤ a ∧ a < 24 ∧ 0 ≤ b ∧ b < 24 → (¬(sn < 8 ∧ hsS S a b sn = false) → M_X5_stall h m (zi a) (zi b) = some (0, hT h m 2 n sn hr ro)) ∧
      (sn < 8 ∧ hsS S a b sn = false → ∃ h', M_X5_stall h m (zi a) (zi b) = some (zi sn, h') ∧ kM h' m 0 n (sn + 1) hr ro ∧ kAt h' m (sn + 1) (adS2 S sn a b) (adB B sn (G a.toNat b.toNat)) ∧ ∀ q, q ≠ m → q ≠ m + 2 → q ≠ m + 3 → h' q = h q)) := by
  have k0 := kM_hT h m 0 n sn hr ro
  obtain ⟨hs, ⟨f, f1, f2⟩, g, g1, g2⟩ := ka
  have f1' : hT h m 0 n sn hr ro (m + 2) = some (cA 8 f) := (hT_ne (by omega)).trans f1
  have g1' : hT h m 0 n sn hr ro (m + 3) = some (cA 8 g) := (hT_ne (by omega)).trans g1
  have kg' : hT h m 0 n sn hr ro (m + 4) = some (cA 576 fun p => G (p / 24) (p % 24)) := kGm_hT kg
  have e1 : (24 : Int32) * zi a + zi b = zi (24 * a + b) := by rw [n_24, zi_mul, zi_add]
  have e8 : ((8 : Int32) ≤ zi sn) = (8 ≤ (sn : Int)) := zi_le (a := 8) (by omega) (by omega) (by omega) (by omega)
  have hcell := p_X5isCell ha hb
  simp only [M_X5_stall, p_setTh km, ob_some, hcell, b1_0, ck_of k0, p_no k0, hT_hT, gI_of k0 (k := 3) rfl, jn1_e, e8, e1]
  refine ⟨fun h1 => by rw [if_pos h1], fun h1 => ?_⟩
  rw [if_neg (fun h => h h1)]
  have loop : ∀ (F : (Int32 → Int32 → Option (Int32 × zH)) → Int32 → Int32 → Option (Int32 × zH)) (r : Option (Int32 × zH)) (s0 : Int32), s0 = zi (b1 (decide (sn < 8))) →
      (∀ rec (p : Bool) (j : Nat), j < sn → F rec (zi (b1 p)) (zi j) = rec (zi (b1 p) &&& (if zi (24 * S j 0 + S j 1) = zi (24 * a + b) then 0 else 1)) (zi (j + 1 : Nat))) →
      (∀ rec, F rec (zi (b1 (decide (sn < 8) && !hsS S a b sn))) (zi sn) = r) → wl2 F 700 s0 0 = r := by
    intro F r s0 q0 q1 q2
    refine wl2_st (fun j => zi (b1 (decide (sn < 8) && !hsS S a b j))) (fun j => zi (j : Int)) sn ?_ n_0 ?_ q2 700 (by omega)
    · rw [q0, hsS, Bool.not_false, Bool.and_true]
    · intro rec j hj
      have o := os j hj
      rw [q1 _ _ j hj]
      simp (disch := omega) only [zi_eq]
      by_cases h2 : S j 0 = a ∧ S j 1 = b
      · rw [if_pos (by omega), and_0, hsS, decide_eq_true h2, Bool.or_true, Bool.not_true, Bool.and_false]; rfl
      · rw [if_neg (by omega), and_1, hsS, decide_eq_false h2, Bool.or_false]
  have body : ∀ (F : (Int32 → Int32 → Option (Int32 × zH)) → Int32 → Int32 → Option (Int32 × zH)) (r : Option (Int32 × zH)), (∀ rec (p : Bool) (j : Nat), j < sn → F rec (zi (b1 p)) (zi j) = rec (zi (b1 p) &&& (if zi (24 * S j 0 + S j 1) = zi (24 * a + b) then 0 else 1)) (zi (j + 1 : Nat))) →
      (∀ rec, F rec (zi (b1 (decide (sn < 8) && !hsS S a b sn))) (zi sn) = r) → (if 8 ≤ (sn : Int) then wl2 F 700 0 0 else wl2 F 700 1 0) = r := by
    intro F r q1 q2
    by_cases h2 : 8 ≤ (sn : Int)
    · rw [if_pos h2]
      exact loop F r 0 (by rw [decide_eq_false (by omega)]; rfl) q1 q2
    · rw [if_neg h2]
      exact loop F r 1 (by rw [decide_eq_true (by omega)]; rfl) q1 q2
  have hread : ∀ j, j < sn → z_aI (hT h m 0 n sn hr ro) (m + 2) (zi j) = some (zi (24 * S j 0 + S j 1)) := fun j hj => by
    rw [cI_of f1' (by omega) (by omega) (by omega), Int.toNat_natCast, f2 j hj]
  have hle : ∀ j : Nat, j < sn → (zi (sn : Int) ≤ zi j) = False := fun j hj => by
    rw [zi_le (by omega) (by omega) (by omega) (by omega)]; exact eq_false (by omega)
  have hle2 : (zi (sn : Int) ≤ zi sn) = True := by
    rw [zi_le (by omega) (by omega) (by omega) (by omega)]; exact eq_true (by omega)
  refine ⟨fun h2 => body _ _ (fun rec p j hj => ?_) (fun rec => ?_), fun h2 => ?_⟩
  · simp only [hle j hj, if_false, gR_of k0 (k := 4) rfl, ob_some, hread j hj, jn2_e, n_1, zi_add, Int.natCast_add, Int.natCast_one]
    split <;> rfl
  · have h3 : (decide (sn < 8) && !hsS S a b sn) = false := by
      rw [Bool.and_eq_false_iff, decide_eq_false_iff_not, Bool.not_eq_false']
      by_cases h4 : sn < 8
      · right
        cases h5 : hsS S a b sn
        · exact absurd ⟨h4, h5⟩ h2
        · rfl
      · exact .inl h4
    rw [h3]
    simp only [hle2, if_true]
    rw [if_pos (by rfl : zi (b1 false) = 0)]
  · have h3 : (decide (sn < 8) && !hsS S a b sn) = true := by rw [decide_eq_true h2.1, h2.2]; rfl
    have hsn := h2.1
    have w2 : z_sI (hT h m 0 n sn hr ro) (m + 2) (zi sn) (zi (24 * a + b)) = some (z_up (hT h m 0 n sn hr ro) (m + 2) (cA 8 fun p => if p = sn then zi (24 * a + b) else f p)) := by
      rw [csI_of f1' (by omega) (by omega) (by omega), Int.toNat_natCast]
    have r4 : ∀ c, z_aI (z_up (hT h m 0 n sn hr ro) (m + 2) c) (m + 4) (zi (24 * a + b)) = some (G a.toNat b.toNat) := fun c => by
      rw [cI_of ((up_ne (by omega)).trans kg') (by omega) (by omega) (by omega), show (24 * a + b).toNat / 24 = a.toNat from by omega, show (24 * a + b).toNat % 24 = b.toNat from by omega]
    have w3 : ∀ c v, z_sI (z_up (hT h m 0 n sn hr ro) (m + 2) c) (m + 3) (zi sn) v = some (z_up (z_up (hT h m 0 n sn hr ro) (m + 2) c) (m + 3) (cA 8 fun p => if p = sn then v else g p)) := fun c v => by
      rw [csI_of ((up_ne (by omega)).trans g1') (by omega) (by omega) (by omega), Int.toNat_natCast]
    have k9 : ∀ c, kM (z_up (hT h m 0 n sn hr ro) (m + 2) c) m 0 n sn hr ro := fun c => (up_ne (by omega)).trans k0
    have k14 : ∀ c c', kM (z_up (z_up (hT h m 0 n sn hr ro) (m + 2) c) (m + 3) c') m 0 n sn hr ro := fun c c' => (up_ne (by omega)).trans (k9 c)
    have hp : ∀ c c', z_pV (z_up (z_up (hT h m 0 n sn hr ro) (m + 2) c) (m + 3) c') m 6 3 (.int (zi ((sn : Int) + 1))) = some (hT (z_up (z_up (hT h m 0 n sn hr ro) (m + 2) c) (m + 3) c') m 0 n (sn + 1) hr ro) := fun c c' => by
      rw [pV_of (k14 c c') (k := 3) (by simp)]
      rfl
    refine ⟨_, body _ _ (fun rec p j hj => ?_) (fun rec => ?_), kM_hT (z_up (z_up (hT h m 0 n sn hr ro) (m + 2) (cA 8 fun p => if p = sn then zi (24 * a + b) else f p)) (m + 3) (cA 8 fun p => if p = sn then G a.toNat b.toNat else g p)) m 0 n (sn + 1) hr ro, ⟨by omega, ⟨_, (hT_ne (by omega)).trans ((up_ne (by omega)).trans (up_at ..)), fun i hi => ?_⟩, _, (hT_ne (by omega)).trans (up_at ..), fun i hi => ?_⟩, fun q g0 g2 g3 => (hT_ne g0).trans ((up_ne g3).trans ((up_ne g2).trans (hT_ne g0)))⟩
    · simp only [hle j hj, if_false, gR_of k0 (k := 4) rfl, ob_some, hread j hj, jn2_e, n_1, zi_add, Int.natCast_add, Int.natCast_one]
      split <;> rfl
    · rw [h3]
      simp only [hle2, if_true]
      have e17 : zi ((sn + 1 : Nat) : Int) - 1 = zi sn := by rw [n_1, zi_sub]; congr 1; omega
      rw [if_neg (by decide : ¬ zi (b1 true) = 0), gR_of k0 (k := 4) rfl, ob_some, w2, ob_some, gR_of (k9 _) (k := 5) rfl, ob_some, gI_of (k9 _) (k := 3) rfl, ob_some, gR_of (k9 _) (k := 6) rfl, ob_some, r4, ob_some, w3, ob_some, gI_of (k14 _ _) (k := 3) rfl, ob_some, n_1, zi_add, hp, ob_some, gI_of (kM_hT ..) (k := 3) rfl, ob_some, ← n_1, e17]
    · unfold adS2
      by_cases q : i = sn
      · rw [if_pos q, if_pos q, if_pos q]; rfl
      · rw [if_neg q, if_neg q, if_neg q, f2 i (by omega)]
    · unfold adB
      by_cases q : i = sn
      · rw [if_pos q, if_pos q]
      · rw [if_neg q, if_neg q, g2 i (by omega)]
