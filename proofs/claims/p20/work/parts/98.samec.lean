/-! isSame, its contract -/
theorem dcmp_same {x : UInt64} (h : nN x) : Op.cmpValue (FP.dcmp x x) .l = 0 := by
  have h1 : FP.dcmp x x = some .eq := FP.Core.dcmp_self fun e => by
    have h2 := (FP.Core.dIsNaN_iff x).mpr e
    rw [show FP.Core.dIsNaN x = false from h] at h2
    cases h2
  rw [h1]
  rfl
theorem nN_0 : nN FP.dconst0 := Bool.eq_false_iff.mpr fun w => absurd ((FP.Core.isNaN_bits _).mp w) (by decide)
set_option maxHeartbeats 4000000 in
theorem c_same (l : Launch) (hl : l.stackTraces = false) (Γ : zG) {N0 T t0 lo : Nat} {h : zH} {nx : Nat} (L : LI N0 T t0 lo h nx) (hT : T ≤ 1000) : ∃ h1 n1, z_Met l yX5_isSame cX5_isSame 11 (some .boolean) 8 137 Γ lo t0 [.ref (lo + 11), .ref lo] h nx (.inr (some (.int 1), h1, n1)) 28 713 := by
  obtain ⟨hf, nf, Z1, n, A, D, sn, S, B, G, hr, ro, rs, T0, If, g1, a1, hs8, hM, hk⟩ := p_same L hT
  refine ⟨hf, nf, z_of [(0, .ref (lo + 11)), (1, .ref lo)] (by decide) (Nat.le_of_ble_eq_true rfl) rfl (fun p e s m below meth c C hin => w_same hl h nx (lo + 11) lo T0 () C ?_ hM)⟩
  intro h1 n1 b0 b1 y3 hT0
  obtain ⟨rfl, rfl, rfl, rfl, rfl⟩ := hk _ _ _ _ _ hT0
  refine z_aload_n (k := 1) (pc := 629) C dX5_isSame_629 rfl ?_
  refine z_goN (kc := 28) (ks := 713) ([.double (meanS G S B sn)]) (z_callV (pc := 630) (As := []) (rest := []) (n := 0) (ci := 5) C (c_X4_mean l hl Γ If) If.x5 rfl q_550 q_551 q_552 q_2 q_553 ⟨rfl, by decide +kernel, by decide +kernel, by decide +kernel⟩ ⟨Nat.le_of_ble_eq_true rfl, Nat.le_of_ble_eq_true rfl⟩ rfl (Nat.le_of_ble_eq_true rfl) dX5_isSame_630 ⟨(Nat.le_of_ble_eq_true rfl), (Nat.le_of_ble_eq_true rfl)⟩) rfl (Nat.le_of_ble_eq_true rfl) (Nat.le_of_ble_eq_true rfl) ?_
  refine z_aload_n (k := 0) (pc := 633) C dX5_isSame_633 rfl ?_
  refine z_getR (pc := 634) (k := 1) C g1 rfl inlX5 (by decide) q_77 (fun _ h9 => h9) dX5_isSame_634 ?_
  refine z_alen (pc := 637) C a1 dX5_isSame_637 ?_
  have e0 : (zi sn = 0) = ((sn : Int) = 0) := zi_eq (b := 0) (by omega) (by omega) (by omega) (by omega)
  have fin : ∀ x : UInt64, x = meanS G S B sn → nN x → z_R p l e (z_rm 8 137 28 713) s m [Value.ref (b1 + 11), .ref b1].toArray below meth c Γ b1 11 28 713 (vx_MQ below (z_qn Γ b1 (.inr (some (.int 1), h1, n1))) (z_qx Γ b1 (.inr (some (.int 1), h1, n1))) [Value.ref (b1 + 11), .ref b1].toArray s 28 713 (fun z : Nat => b1 ≤ z)) 654 [(0, .ref (b1 + 11)), (1, .ref b1), (3, .int (sgS G S B sn))] [.double x, .double (meanS G S B sn)] h1 n1 := by
    intro x ex hx
    subst ex
    refine z_dcmp (pc := 654) C dX5_isSame_654 ?_
    rw [dcmp_same hx]
    refine z_if_ne_f (pc := 655) (tgt := 662) C dX5_isSame_655 (by decide) rfl ?_
    refine z_iconst (v := (1 : Int32)) (pc := 658) C dX5_isSame_658 (by decide) ?_
    refine z_goto (pc := 659) (tgt := 663) C dX5_isSame_659 (by decide) ?_
    exact z_zret (pc := 663) C (Or.inr rfl) rfl (Nat.le_refl _) (Nat.le_refl _) dX5_isSame_663
  by_cases z : sn = 0
  · refine z_if_ne_f (pc := 638) (tgt := 645) C dX5_isSame_638 (by decide) (by rw [e0]; omega) ?_
    refine z_dconst0 (pc := 641) C dX5_isSame_641 ?_
    refine z_goto (pc := 642) (tgt := 654) C dX5_isSame_642 (by decide) ?_
    exact fin _ (by rw [meanS, if_pos z]) nN_0
  · refine z_if_ne_t (pc := 638) (tgt := 645) C dX5_isSame_638 (by decide) (by rw [e0]; omega) ?_
    refine z_iload_n (k := 2) (pc := 645) C dX5_isSame_645 rfl ?_
    refine z_i2d (pc := 646) C dX5_isSame_646 ?_
    refine z_aload_n (k := 0) (pc := 647) C dX5_isSame_647 rfl ?_
    refine z_getR (pc := 648) (k := 1) C g1 rfl inlX5 (by decide) q_77 (fun _ h9 => h9) dX5_isSame_648 ?_
    refine z_alen (pc := 651) C a1 dX5_isSame_651 ?_
    refine z_i2d (pc := 652) C dX5_isSame_652 ?_
    have nn := mean_num (sgS G S B sn) (y := zi sn) (by rw [e0]; omega)
    refine z_ddiv (pc := 653) C nn dX5_isSame_653 ?_
    exact fin _ (by rw [meanS, if_neg z]) nn
