/-! act, its contract -/
set_option maxHeartbeats 4000000 in
theorem c_act (l : Launch) (hl : l.stackTraces = false) (G : zG) {N0 T lo t0 : Nat} {h : zH} {nx : Nat} (L : LI N0 T t0 lo h nx) (x : Int32) : z_RM l yL_act cL_act 12 .boolean [(608, 636, 637, 57)] 10 212 G lo t0 [.ref lo, .ref (lo + 11), .int x] h nx (fun v h1 n1 => v = 1 ∧ LI N0 (T + 1) t0 lo h1 n1) 27 641 := by
  obtain ⟨T0, o, hM, ho, hk⟩ := p_act L x
  refine zr_of _ rfl (by decide +kernel) (Nat.le_of_ble_eq_true rfl) rfl ?_
  intro p e s m below meth c C htab
  refine w_act hl h nx lo (lo + 11) x T0 o C ho ?_ hM
  intro h1 n1 b0 b1 y5 y6 y7 hT
  obtain ⟨e0, e1, hck, o1, hh⟩ := hk h1 n1 b0 b1 y5 y6 y7 hT
  subst e1
  obtain rfl := e0.symm
  refine z_aload_n (k := 0) (pc := 608) C dL_act_608 rfl ?_
  refine z_iload (k := 2) (pc := 609) C dL_act_609 rfl ?_
  refine z_iload (k := 3) (pc := 611) C dL_act_611 rfl ?_
  rcases hh with ⟨h2, n2, k, rs, hk8, c1, y7e, g1, a1, oe⟩ | ⟨c1, y7e, oe⟩
  · subst y7e
    subst oe
    refine z_goN (kc := 4) (ks := 59) ([.int (zi (k : Int))]) (z_callV (pc := 613) (As := [.int y5, .int y6]) (rest := []) (n := 2) (ci := 5) C (c_X4_stall l hl G lo t0 h1 n1 lo y5 y6 (.inr (zi (k : Int), h2, n2)) c1) hck rfl q_288 q_289 q_290 q_2 q_291 ⟨rfl, by decide +kernel, by decide +kernel, by decide +kernel⟩ ⟨Nat.le_of_ble_eq_true rfl, Nat.le_of_ble_eq_true rfl⟩ rfl (Nat.le_of_ble_eq_true rfl) dL_act_613 ⟨(Nat.le_of_ble_eq_true rfl), (Nat.le_of_ble_eq_true rfl)⟩) rfl (Nat.le_of_ble_eq_true rfl) (Nat.le_of_ble_eq_true rfl) ?_
    refine z_aload_n (k := 1) (pc := 616) C dL_act_616 rfl ?_
    refine z_getR (pc := 617) (k := 1) C g1 rfl inlX5 (by decide) q_89 (fun _ h9 => h9) dL_act_617 ?_
    refine z_alen (pc := 620) C a1 dL_act_620 ?_
    refine z_iconst (v := (1 : Int32)) (pc := 621) C dL_act_621 (by decide) ?_
    refine z_isub (pc := 622) C dL_act_622 ?_
    have e9 : zi (k : Int) = zi ((k + 1 : Nat) : Int) - 1 := (congrArg zi (by omega)).trans (zi_sub ((k + 1 : Nat) : Int) 1).symm
    refine z_icmp_ne_f (pc := 623) (tgt := 635) C dL_act_623 (by decide) e9 ?_
    refine z_iload (k := 4) (pc := 626) C dL_act_626 rfl ?_
    refine z_if_eq_f (pc := 628) (tgt := 635) C dL_act_628 (by decide) (by decide) ?_
    refine z_iconst (v := (1 : Int32)) (pc := 631) C dL_act_631 (by decide) ?_
    refine z_goto (pc := 632) (tgt := 636) C dL_act_632 (by decide) ?_
    exact z_rzret (pc := 636) C (Or.inr rfl) ho (Nat.le_of_ble_eq_true rfl) (Nat.le_of_ble_eq_true rfl) dL_act_636
  · subst y7e
    subst oe
    refine z_catch (E := sIS) (name := "java/lang/IllegalStateException") (cells := 2) (slots := 46) (mc := 2) (ms := 13) (h1 := h1) C htab ⟨608, 636, 637, 57⟩ [] rfl (by decide) (by decide) q_87 (by decide) (z_callV (pc := 613) (As := [.int y5, .int y6]) (rest := []) (n := 2) (ci := 5) C (c_X4_stall l hl G lo t0 h1 n1 lo y5 y6 (.inl sIS) c1) hck rfl q_288 q_289 q_290 q_2 q_291 ⟨rfl, by decide +kernel, by decide +kernel, by decide +kernel⟩ ⟨Nat.le_of_ble_eq_true rfl, Nat.le_of_ble_eq_true rfl⟩ rfl (Nat.le_of_ble_eq_true rfl) dL_act_613 ⟨(Nat.le_of_ble_eq_true rfl), (Nat.le_of_ble_eq_true rfl)⟩) fun q n9 hn9 => ?_
    show z_R p l e (z_rm 10 212 27 641) s m _ below meth c G lo 12 4 59 _ 637 _ _ h1 n9
    refine z_astore (pc := 637) C dL_act_637 (by decide) rfl ?_
    refine z_iload (k := 5) (pc := 639) C dL_act_639 rfl ?_
    refine z_if_ne_f (pc := 641) (tgt := 648) C dL_act_641 (by decide) rfl ?_
    refine z_iconst (v := (1 : Int32)) (pc := 644) C dL_act_644 (by decide) ?_
    refine z_goto (pc := 645) (tgt := 649) C dL_act_645 (by decide) ?_
    exact z_rzret (pc := 649) C (Or.inr rfl) ⟨rfl, ho.2.nxU hn9⟩ (Nat.le_of_ble_eq_true rfl) (Nat.le_of_ble_eq_true rfl) dL_act_649
