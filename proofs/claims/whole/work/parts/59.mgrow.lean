/-! stall, hang, take: the reference -/
section MGROW
variable {lo : Nat} {h : zH} {nx n : Nat} {A : Nat → Nat → Int} {D : Nat → Int32} {sn : Nat} {S : Nat → Nat → Int} {B : Nat → Int32} {G : Nat → Nat → Int32} {hr ro th : Int32}
theorem m_stall (J : IM lo h th n A D sn S B G hr ro) {a b : Int} (ha : -2147483648 ≤ a ∧ a < 2147483648) (hb : -2147483648 ≤ b ∧ b < 2147483648) :
    (¬(0 ≤ a ∧ a < 24 ∧ 0 ≤ b ∧ b < 24) → ∃ h', M_X5_stall h (lo + 11) (zi a) (zi b) = some (0, h') ∧ IM lo h' 1 n A D sn S B G hr ro ∧ frM lo nx h h') ∧
    (0 ≤ a ∧ a < 24 ∧ 0 ≤ b ∧ b < 24 → (¬(sn < 8 ∧ hsS S a b sn = false) → ∃ h', M_X5_stall h (lo + 11) (zi a) (zi b) = some (0, h') ∧ IM lo h' 2 n A D sn S B G hr ro ∧ frM lo nx h h') ∧
      (sn < 8 ∧ hsS S a b sn = false → ∃ h', M_X5_stall h (lo + 11) (zi a) (zi b) = some (zi sn, h') ∧ IM lo h' 0 n A D (sn + 1) (adS2 S sn a b) (adB B sn (G a.toNat b.toNat)) G hr ro ∧ frM lo nx h h')) := by
  obtain ⟨j1, j2, j3, j4, j5, ⟨f5, j6⟩, f6, j7⟩ := id J
  obtain ⟨k1, k2⟩ := p_X5stall j1 j3 j4 j5 ha hb
  refine ⟨fun g => ⟨_, k1 g, J.hT 1, frM_hT⟩, fun g => ⟨fun g2 => ⟨_, (k2 g).1 g2, J.hT 2, frM_hT⟩, fun g2 => ?_⟩⟩
  obtain ⟨h', g3, g4, g5, e⟩ := (k2 g).2 g2
  refine ⟨h', g3, ⟨g4, kSh_eq j2 (e _ (by omega) (by omega) (by omega)), (e _ (by omega) (by omega) (by omega)).trans j3, g5, fun i hi => ?_, ⟨f5, (e _ (by omega) (by omega) (by omega)).trans j6⟩, f6, (e _ (by omega) (by omega) (by omega)).trans j7⟩, fun q _ q2 => e q (by omega) (by omega) (by omega)⟩
  unfold adS2
  by_cases hin : i = sn
  · rw [if_pos hin, if_pos hin, if_pos rfl, if_neg (by omega)]; omega
  · rw [if_neg hin, if_neg hin]; exact j5 i (by omega)
theorem hanA_k (x y w v l s : Int) : hanA x y w v l s 0 = x ∧ hanA x y w v l s 1 = y ∧ hanA x y w v l s 2 = w ∧ hanA x y w v l s 3 = v ∧ hanA x y w v l s 4 = l ∧ hanA x y w v l s 5 = s ∧ hanA x y w v l s 6 = 1 := ⟨rfl, rfl, rfl, rfl, rfl, rfl, rfl⟩
theorem m_hang (hnx : lo + 18 ≤ nx) (J : IM lo h th n A D sn S B G hr ro) {x y w v l s : Int} (hx : -2147483648 ≤ x ∧ x < 2147483648) (hy : -2147483648 ≤ y ∧ y < 2147483648) (hw : -2147483648 ≤ w ∧ w < 2147483648) (hv : -2147483648 ≤ v ∧ v < 2147483648) (hl : -2147483648 ≤ l ∧ l < 2147483648) (hs : -2147483648 ≤ s ∧ s < 2147483648) :
    (¬okH w v l s → ∃ h', M_X5_hang h nx (lo + 11) (zi x) (zi y) (zi w) (zi v) (zi l) (zi s) = some (0, h', nx) ∧ IM lo h' 1 n A D sn S B G hr ro ∧ frM lo nx h h') ∧
    (okH w v l s → (¬(0 ≤ x ∧ x ≤ 24 - w ∧ 0 ≤ y ∧ y ≤ 24 - v) → ∃ h', M_X5_hang h nx (lo + 11) (zi x) (zi y) (zi w) (zi v) (zi l) (zi s) = some (0, h', nx) ∧ IM lo h' 2 n A D sn S B G hr ro ∧ frM lo nx h h') ∧
      (0 ≤ x ∧ x ≤ 24 - w ∧ 0 ≤ y ∧ y ≤ 24 - v → (n = 10 → ∃ h', M_X5_hang h nx (lo + 11) (zi x) (zi y) (zi w) (zi v) (zi l) (zi s) = some (0, h', nx) ∧ IM lo h' 3 n A D sn S B G hr ro ∧ frM lo nx h h') ∧
        (n < 10 → ∃ h' nx', M_X5_hang h nx (lo + 11) (zi x) (zi y) (zi w) (zi v) (zi l) (zi s) = some (zi n, h', nx') ∧ nx ≤ nx' ∧ IM lo h' 0 (n + 1) (upA A n (hanA x y w v l s)) (upD D n 0) sn S B G hr ro ∧ frM lo nx h h'))) := by
  have J0 := J.hT 0
  obtain ⟨j1, j2, j3, j4, j5, ⟨f5, j6⟩, f6, j7⟩ := id J0
  have hn := j2.1
  have km := J.1
  have iw : M_X5_isIn (zi w) 1 24 = some (zi (b1 (decide (1 ≤ w ∧ w ≤ 24)))) := by
    rw [n_1, n_24]; exact p_isIn (by omega) (by omega) (by omega)
  have iv : M_X5_isIn (zi v) 1 24 = some (zi (b1 (decide (1 ≤ v ∧ v ≤ 24)))) := by
    rw [n_1, n_24]; exact p_isIn (by omega) (by omega) (by omega)
  have il : M_X5_isIn (zi l) 1 9 = some (zi (b1 (decide (1 ≤ l ∧ l ≤ 9)))) := by
    rw [n_1, n_9]; exact p_isIn (by omega) (by omega) (by omega)
  have is : M_X5_isIn (zi s) 0 3 = some (zi (b1 (decide (0 ≤ s ∧ s ≤ 3)))) := by
    rw [n_0, n_3]; exact p_isIn (by omega) (by omega) (by omega)
  have e10 : (zi n = (10 : Int32)) = ((n : Int) = 10) := zi_eq (b := 10) (by omega) (by omega) (by omega) (by omega)
  simp only [M_X5_hang, p_setTh km, ob_some, iw, iv, il, is, jn0_e, b1_0, ck_of j1, p_no j1, hT_hT]
  refine ⟨fun g => ?_, fun g => ?_⟩
  · refine ⟨_, ?_, J.hT 1, frM_hT⟩
    by_cases g1 : 1 ≤ w ∧ w ≤ 24
    · rw [if_neg (fun q => q g1)]
      by_cases g2 : 1 ≤ v ∧ v ≤ 24
      · rw [if_neg (fun q => q g2)]
        by_cases g3 : 1 ≤ l ∧ l ≤ 9
        · rw [if_neg (fun q => q g3), if_pos (fun g4 => g ⟨⟨g1.1, g1.2, g2⟩, g3, g4⟩)]
        · rw [if_pos g3]
      · rw [if_pos g2]
    · rw [if_pos g1]
  · obtain ⟨g1, g2, g3⟩ := g
    rw [if_neg (by omega), if_neg (by omega), if_neg (by omega), if_neg (by omega), p_fits hx hy (by omega) (by omega), ob_some]
    simp only [b1_0]
    refine ⟨fun g => ⟨_, by rw [if_pos g], J.hT 2, frM_hT⟩, fun g => ?_⟩
    rw [if_neg (fun q => q g)]
    simp only [gI_of j1 (k := 1) rfl, ob_some, e10]
    refine ⟨fun g4 => ⟨_, by rw [if_pos (by omega)], J.hT 3, frM_hT⟩, fun g4 => ?_⟩
    rw [if_neg (by omega), ar_0 8]
    generalize hH : hT h (lo + 11) 0 n sn hr ro = H at j1 j2 j3 j4 j6 j7
    have hHq : ∀ q, q ≠ lo + 11 → H q = h q := fun q hq => by rw [← hH]; exact hT_ne hq
    obtain ⟨-, f, q1, q2⟩ := id j2
    have s0 : ∀ F v, z_sI (z_up H nx (cA 8 F)) nx 0 v = some (z_up H nx (cA 8 fun p => if p = 0 then v else F p)) := fun F v => by
      rw [n_0, csI_of (up_at _ _ _) (by omega) (by omega) (by omega), up_up]; rfl
    have s1 : ∀ F v, z_sI (z_up H nx (cA 8 F)) nx 1 v = some (z_up H nx (cA 8 fun p => if p = 1 then v else F p)) := fun F v => by
      rw [n_1, csI_of (up_at _ _ _) (by omega) (by omega) (by omega), up_up]; rfl
    have s2 : ∀ F v, z_sI (z_up H nx (cA 8 F)) nx 2 v = some (z_up H nx (cA 8 fun p => if p = 2 then v else F p)) := fun F v => by
      rw [n_2, csI_of (up_at _ _ _) (by omega) (by omega) (by omega), up_up]; rfl
    have s3 : ∀ F v, z_sI (z_up H nx (cA 8 F)) nx 3 v = some (z_up H nx (cA 8 fun p => if p = 3 then v else F p)) := fun F v => by
      rw [n_3, csI_of (up_at _ _ _) (by omega) (by omega) (by omega), up_up]; rfl
    have s4 : ∀ F v, z_sI (z_up H nx (cA 8 F)) nx 4 v = some (z_up H nx (cA 8 fun p => if p = 4 then v else F p)) := fun F v => by
      rw [n_4, csI_of (up_at _ _ _) (by omega) (by omega) (by omega), up_up]; rfl
    have s5 : ∀ F v, z_sI (z_up H nx (cA 8 F)) nx 5 v = some (z_up H nx (cA 8 fun p => if p = 5 then v else F p)) := fun F v => by
      rw [n_5, csI_of (up_at _ _ _) (by omega) (by omega) (by omega), up_up]; rfl
    have s6 : ∀ F v, z_sI (z_up H nx (cA 8 F)) nx 6 v = some (z_up H nx (cA 8 fun p => if p = 6 then v else F p)) := fun F v => by
      rw [n_6, csI_of (up_at _ _ _) (by omega) (by omega) (by omega), up_up]; rfl
    have s7 : ∀ F v, z_sI (z_up H nx (cA 8 F)) nx 7 v = some (z_up H nx (cA 8 fun p => if p = 7 then v else F p)) := fun F v => by
      rw [n_7, csI_of (up_at _ _ _) (by omega) (by omega) (by omega), up_up]; rfl
    rw [s0, ob_some, s1, ob_some, s2, ob_some, s3, ob_some, s4, ob_some, s5, ob_some, s6, ob_some, s7, ob_some]
    generalize hF : (fun p => if p = 7 then (0 : Int32) else (fun p => if p = 6 then (1 : Int32) else (fun p => if p = 5 then zi s else (fun p => if p = 4 then zi l else (fun p => if p = 3 then zi v else (fun p => if p = 2 then zi w else (fun p => if p = 1 then zi y else (fun p => if p = 0 then zi x else (fun _ : Nat => (0 : Int32)) p) p) p) p) p) p) p) p) = F
    have F7 : F 7 = 0 := by rw [← hF]; rfl
    have Fk : ∀ k, k < 7 → F k = zi (hanA x y w v l s k) := fun k hk => by
      have hc : k = 0 ∨ k = 1 ∨ k = 2 ∨ k = 3 ∨ k = 4 ∨ k = 5 ∨ k = 6 := by omega
      rw [← hF]
      rcases hc with rfl | rfl | rfl | rfl | rfl | rfl | rfl <;> rfl
    have kn : kM (z_up H nx (cA 8 F)) (lo + 11) 0 n sn hr ro := (up_ne (by omega)).trans j1
    have qn : z_up H nx (cA 8 F) (lo + 11 + 1) = some (cA 80 f) := (up_ne (by omega)).trans q1
    have hcp : z_cpI (z_up H nx (cA 8 F)) nx 0 (lo + 11 + 1) (8 * zi n) 8 = some (z_up (z_up H nx (cA 8 F)) (lo + 11 + 1) (cA 80 fun k => if 8 * n ≤ k ∧ k < 8 * n + 8 then F (k - 8 * n) else f k)) := by
      have t1 : (0 : Int32).toNatClampNeg = 0 := rfl
      have t2 : (8 * zi (n : Int) : Int32).toNatClampNeg = 8 * n := by rw [n_8, zi_mul, zi_nn (by omega) (by omega)]; omega
      have t3 : (8 : Int32).toNatClampNeg = 8 := rfl
      simp only [z_cpI, ai_of (up_at H nx (cA 8 F)), ai_of qn, Option.bind_some, t1, t2, t3]
      rw [if_pos]
      · refine congrArg (fun z => some (z_up (z_up H nx (cA 8 F)) (lo + 11 + 1) (zI 80 z))) ?_
        funext k
        simp only [va_cpy, ar]
        by_cases g5 : 8 * n ≤ k ∧ k < 8 * n + 8
        · rw [if_pos g5, if_pos (by omega), if_pos (by omega), if_pos g5, Nat.zero_add]
        · rw [if_neg g5]
          by_cases g6 : k < 80
          · rw [if_pos g6, if_pos g6, if_neg g5]
          · rw [if_neg g6, if_neg g6]
      · refine ⟨by decide, ?_, by decide, by omega, by omega⟩
        rw [n_8, n_0, zi_mul, zi_lt (by omega) (by omega) (by omega) (by omega)]
        omega
    have k21 : kM (z_up (z_up H nx (cA 8 F)) (lo + 11 + 1) (cA 80 fun k => if 8 * n ≤ k ∧ k < 8 * n + 8 then F (k - 8 * n) else f k)) (lo + 11) 0 n sn hr ro := (up_ne (by omega)).trans kn
    rw [gR_of kn (k := 2) rfl, ob_some, gI_of kn (k := 1) rfl, ob_some, hcp, ob_some, gI_of k21 (k := 1) rfl, ob_some]
    generalize hH2 : z_up (z_up H nx (cA 8 F)) (lo + 11 + 1) (cA 80 fun k => if 8 * n ≤ k ∧ k < 8 * n + 8 then F (k - 8 * n) else f k) = H2 at k21
    have hH2s : H2 (lo + 11 + 1) = some (cA 80 fun k => if 8 * n ≤ k ∧ k < 8 * n + 8 then F (k - 8 * n) else f k) := by rw [← hH2, up_at]
    have hH2q : ∀ q, q ≠ lo + 11 → q ≠ lo + 11 + 1 → q ≠ nx → H2 q = h q := fun q g1 g2 g3 => by rw [← hH2, up_ne g2, up_ne g3, hHq q g1]
    have hput : z_pV H2 (lo + 11) 6 1 (.int (zi n + 1)) = some (hT H2 (lo + 11) 0 (n + 1) sn hr ro) := by
      rw [pV_of k21 (k := 1) (by simp), n_1, zi_add]
      rfl
    have e17 : zi ((n + 1 : Nat) : Int) - 1 = zi n := by rw [n_1, zi_sub]; congr 1; omega
    rw [hput, ob_some, gI_of (kM_hT ..) (k := 1) rfl, ob_some, e17]
    have e : ∀ q, q ≠ lo + 11 → q ≠ lo + 11 + 1 → q ≠ nx → hT H2 (lo + 11) 0 (n + 1) sn hr ro q = h q := fun q g1 g2 g3 => (hT_ne g1).trans (hH2q q g1 g2 g3)
    obtain ⟨-, -, j3', j4', -, ⟨f5', j6'⟩, f6', j7'⟩ := id J
    refine ⟨_, nx + 1, rfl, by omega, ⟨kM_hT .., ⟨by omega, _, (hT_ne (by omega)).trans hH2s, fun i hi => ?_⟩, (e _ (by omega) (by omega) (by omega)).trans j3', kAt_eq j4' (e _ (by omega) (by omega) (by omega)) (e _ (by omega) (by omega) (by omega)), j5, ⟨f5', (e _ (by omega) (by omega) (by omega)).trans j6'⟩, f6', (e _ (by omega) (by omega) (by omega)).trans j7'⟩, fun q g5 g6 => e q (by omega) (by omega) (by omega)⟩
    unfold upA upD
    by_cases hin : i = n
    · rw [if_pos hin, if_pos hin]
      refine ⟨?_, fun k hk => ?_, ?_⟩
      · show 0 ≤ x ∧ 0 ≤ y ∧ 1 ≤ w ∧ 1 ≤ v ∧ x + w ≤ 24 ∧ y + v ≤ 24 ∧ 1 ≤ l ∧ l ≤ 9 ∧ 0 ≤ s ∧ s ≤ 3 ∧ (0 : Int) ≤ 1 ∧ (1 : Int) ≤ 1
        omega
      · rw [if_pos (by omega), show 8 * i + k - 8 * n = k from by omega, Fk k hk]
      · rw [if_pos (by omega), show 8 * i + 7 - 8 * n = 7 from by omega, F7]
    · obtain ⟨o1, o2, o3⟩ := q2 i (by omega)
      rw [if_neg hin, if_neg hin]
      exact ⟨o1, fun k hk => by rw [if_neg (by omega)]; exact o2 k hk, by rw [if_neg (by omega)]; exact o3⟩
theorem m_take (J : IM lo h th n A D sn S B G hr ro) {a : Int} (ha : -2147483648 ≤ a ∧ a < 2147483648) :
    (0 ≤ a ∧ a < n → ∃ h', M_X5_take h (lo + 11) (zi a) = some (zi ((n - 1 : Nat) : Int), h') ∧ IM lo h' 0 (n - 1) (dl A a.toNat) (dl D a.toNat) sn S B G hr ro ∧ frM lo nx h h') ∧
    (¬(0 ≤ a ∧ a < n) → ∃ h', M_X5_take h (lo + 11) (zi a) = some (0, h') ∧ IM lo h' 1 n A D sn S B G hr ro ∧ frM lo nx h h') := by
  have J0 := J.hT 0
  obtain ⟨j1, j2, j3, j4, j5, ⟨f5, j6⟩, f6, j7⟩ := id J0
  have hn := j2.1
  have km := J.1
  simp only [M_X5_take, p_setTh km, ob_some, ck_of j1, p_isAwning j1 hn ha, b1_0, p_no j1, hT_hT]
  refine ⟨fun g => ?_, fun g => ⟨_, by rw [if_pos g], J.hT 1, frM_hT⟩⟩
  rw [if_neg (fun q => q g), gI_of j1 (k := 1) rfl, ob_some]
  obtain ⟨i, rfl⟩ : ∃ i : Nat, a = i := ⟨a.toNat, by omega⟩
  obtain ⟨n1, rfl⟩ : ∃ n1, n = n1 + 1 := ⟨n - 1, by omega⟩
  rw [Int.toNat_natCast, Nat.add_sub_cancel]
  have e17 : zi ((n1 + 1 : Nat) : Int) - 1 = zi n1 := by rw [n_1, zi_sub]; congr 1; omega
  have hput : z_pV (hT h (lo + 11) 0 (n1 + 1) sn hr ro) (lo + 11) 6 1 (.int (zi n1)) = some (hT h (lo + 11) 0 n1 sn hr ro) := by
    rw [pV_of j1 (k := 1) (by simp)]
    exact congrArg some (up_up ..)
  rw [e17, hput, ob_some]
  obtain ⟨j1', j2', j3', j4', -, ⟨f5', j6'⟩, f6', j7'⟩ := id J
  obtain ⟨-, f, q1, q2⟩ := id j2'
  have q1' : hT h (lo + 11) 0 n1 sn hr ro (lo + 11 + 1) = some (cA 80 f) := (hT_ne (by omega)).trans q1
  have kk : ∀ c, kM (z_up (hT h (lo + 11) 0 n1 sn hr ro) (lo + 11 + 1) c) (lo + 11) 0 n1 sn hr ro := fun c => (up_ne (by omega)).trans (kM_hT ..)
  have main : ∀ r : Option (Int32 × zH), r = some (zi n1, z_up (hT h (lo + 11) 0 n1 sn hr ro) (lo + 11 + 1) (cA 80 fun p => if 8 * i ≤ p ∧ p < 8 * i + (8 * n1 - 8 * i) then f (p + 8) else f p)) →
      ∃ h', r = some (zi n1, h') ∧ IM lo h' 0 n1 (dl A i) (dl D i) sn S B G hr ro ∧ frM lo nx h h' := by
    intro r hrr
    have e : ∀ q, q ≠ lo + 11 → q ≠ lo + 11 + 1 → z_up (hT h (lo + 11) 0 n1 sn hr ro) (lo + 11 + 1) (cA 80 fun p => if 8 * i ≤ p ∧ p < 8 * i + (8 * n1 - 8 * i) then f (p + 8) else f p) q = h q := fun q g1 g2 => (up_ne g2).trans (hT_ne g1)
    refine ⟨_, hrr, ⟨kk _, ⟨by omega, _, up_at .., fun j hj => ?_⟩, (e _ (by omega) (by omega)).trans j3', kAt_eq j4' (e _ (by omega) (by omega)) (e _ (by omega) (by omega)), j5, ⟨f5', (e _ (by omega) (by omega)).trans j6'⟩, f6', (e _ (by omega) (by omega)).trans j7'⟩, fun q _ g6 => e q (by omega) (by omega)⟩
    unfold dl
    by_cases hji : j < i
    · obtain ⟨o1, o2, o3⟩ := q2 j (by omega)
      rw [if_pos hji, if_pos hji]
      exact ⟨o1, fun k hk => by rw [if_neg (by omega)]; exact o2 k hk, by rw [if_neg (by omega)]; exact o3⟩
    · obtain ⟨o1, o2, o3⟩ := q2 (j + 1) (by omega)
      rw [if_neg hji, if_neg hji]
      exact ⟨o1, fun k hk => by rw [if_pos (by omega), show 8 * j + k + 8 = 8 * (j + 1) + k from by omega]; exact o2 k hk, by rw [if_pos (by omega), show 8 * j + 7 + 8 = 8 * (j + 1) + 7 from by omega]; exact o3⟩
  refine main _ ?_
  refine wl2_st (fun j => zi ((8 * i + j : Nat) : Int)) (fun j => z_up (hT h (lo + 11) 0 n1 sn hr ro) (lo + 11 + 1) (cA 80 fun p => if 8 * i ≤ p ∧ p < 8 * i + j then f (p + 8) else f p)) (8 * n1 - 8 * i) ?_ ?_ ?_ ?_ 700 (by omega)
  · rw [n_8, zi_mul]; congr 1
  · rw [up_congr (g := f) (fun p hp => if_neg (by omega)), up_same q1']
  · intro rec j hj
    have e8 : (8 : Int32) * zi n1 = zi (8 * (n1 : Int)) := by rw [n_8, zi_mul]
    have e9 : zi ((8 * i + j : Nat) : Int) + 8 = zi ((8 * i + j : Nat) + 8 : Int) := by rw [n_8, zi_add]
    simp (disch := omega) only [gI_of (kk _) (k := 1) rfl, gR_of (kk _) (k := 2) rfl, ob_some, e8, e9, zi_le]
    rw [if_neg (by omega), cI_of (up_at _ _ _) (by omega) (by omega) (by omega), ob_some, csI_of (up_at _ _ _) (by omega) (by omega) (by omega), ob_some, up_up, n_1, zi_add]
    refine congrArg (fun z => rec (zi z) _) ?_ |>.trans (congrArg (rec _) (up_congr fun p hp => ?_))
    · omega
    · rw [show (((8 * i + j : Nat) : Int) + 8).toNat = 8 * i + j + 8 from by omega, Int.toNat_natCast]
      by_cases g1 : p = 8 * i + j
      · rw [if_pos g1, if_neg (by omega), if_pos (by omega), g1]
      · rw [if_neg g1]
        by_cases g2 : 8 * i ≤ p ∧ p < 8 * i + j
        · rw [if_pos g2, if_pos (by omega)]
        · rw [if_neg g2, if_neg (by omega)]
  · intro rec
    have e8 : (8 : Int32) * zi n1 = zi (8 * (n1 : Int)) := by rw [n_8, zi_mul]
    simp (disch := omega) only [gI_of (kk _) (k := 1) rfl, ob_some, e8, zi_le]
    rw [if_pos (by omega)]
end MGROW
