/-! by program out of the bytecode (wip/whole/gen.py): the mirrors, then the walks -/
noncomputable def M_X0_init (h : zH) (a0 : Nat) (x1 : Int32) (x2 : Int32) (x3 : Int32) (x4 : Int32) (x5 : Int32) (x6 : Int32) : Option (zH) := (z_pV h a0 1 0 (.int x1)).bind fun h_1 => (z_pV h_1 a0 1 1 (.int x2)).bind fun h_2 => (z_pV h_2 a0 1 2 (.int x3)).bind fun h_3 => (z_pV h_3 a0 1 3 (.int x4)).bind fun h_4 => (z_pV h_4 a0 1 4 (.int x5)).bind fun h_5 => (z_pV h_5 a0 1 5 (.int x6)).bind fun h_6 => (z_pV h_6 a0 1 6 (.int (1 : Int32))).bind fun h_7 => (z_pV h_7 a0 1 7 (.int (0 : Int32))).bind fun h_8 => (some h_8)
noncomputable def M_X0_covers (h : zH) (a0 : Nat) (x1 : Int32) (x2 : Int32) : Option (Int32) := (z_gI h a0 1 6).bind fun r1 => jn0 ((some (0 : Int32))) fun J2 => (if r1 = 0 then J2 else (z_gI h a0 1 0).bind fun r3 => (if x1 < r3 then J2 else (z_gI h a0 1 0).bind fun r4 => (z_gI h a0 1 2).bind fun r5 => (if (r4 + r5) ≤ x1 then J2 else (z_gI h a0 1 1).bind fun r6 => (if x2 < r6 then J2 else (z_gI h a0 1 1).bind fun r7 => (z_gI h a0 1 3).bind fun r8 => (if (r7 + r8) ≤ x2 then J2 else (some (1 : Int32)))))))
noncomputable def M_X0_dripsAlongRows (h : zH) (a0 : Nat) : Option (Int32) := (z_gI h a0 1 5).bind fun r1 => jn0 ((some (1 : Int32))) fun J2 => (if r1 = 0 then J2 else (z_gI h a0 1 5).bind fun r3 => (if r3 = (2 : Int32) then J2 else (some (0 : Int32))))
noncomputable def M_X0_cellsBeyond (h : zH) (a0 : Nat) : Option (Int32) := (z_ck h a0 1).bind fun _ => (M_X0_dripsAlongRows h a0).bind fun r2 => (if r2 = 0 then (z_gI h a0 1 2).bind fun r3 => (some r3) else (z_gI h a0 1 3).bind fun r4 => (some r4))
noncomputable def M_X0_columnBeyond (h : zH) (a0 : Nat) (x1 : Int32) : Option (Int32) := (z_ck h a0 1).bind fun _ => (M_X0_dripsAlongRows h a0).bind fun r2 => (if r2 = 0 then (z_gI h a0 1 0).bind fun r3 => (some (r3 + x1)) else (z_gI h a0 1 5).bind fun r4 => (if r4 = 0 then (z_gI h a0 1 0).bind fun r7 => (some (r7 - (1 : Int32))) else (z_gI h a0 1 0).bind fun r5 => (z_gI h a0 1 2).bind fun r6 => (some (r5 + r6))))
noncomputable def M_X0_rowBeyond (h : zH) (a0 : Nat) (x1 : Int32) : Option (Int32) := (z_ck h a0 1).bind fun _ => (M_X0_dripsAlongRows h a0).bind fun r2 => (if r2 = 0 then (z_gI h a0 1 5).bind fun r3 => (if r3 = (1 : Int32) then (z_gI h a0 1 1).bind fun r6 => (some (r6 - (1 : Int32))) else (z_gI h a0 1 1).bind fun r4 => (z_gI h a0 1 3).bind fun r5 => (some (r4 + r5))) else (z_gI h a0 1 1).bind fun r8 => (some (r8 + x1)))
noncomputable def M_X4_isCell (x0 : Int32) (x1 : Int32) : Option (Int32) := jn0 ((some (0 : Int32))) fun J1 => (if x0 < 0 then J1 else (if (24 : Int32) ≤ x0 then J1 else (if x1 < 0 then J1 else (if (24 : Int32) ≤ x1 then J1 else (some (1 : Int32))))))
noncomputable def M_X3_init (h : zH) (a0 : Nat) (x1 : Int32) (x2 : Int32) (x3 : Int32) : Option (zH) := (z_pV h a0 4 0 (.int x1)).bind fun h_1 => (z_pV h_1 a0 4 1 (.int x2)).bind fun h_2 => (z_pV h_2 a0 4 2 (.int x3)).bind fun h_3 => (some h_3)
set_option maxHeartbeats 4000000 in
set_option maxRecDepth 100000 in
theorem c_X0_init (l : Launch) (hl : l.stackTraces = false) (G : zG) (lo t0 : Nat) (h : zH) (nx : Nat) (a0 : Nat) (x1 : Int32) (x2 : Int32) (x3 : Int32) (x4 : Int32) (x5 : Int32) (x6 : Int32) (o : zH) (hM : M_X0_init h a0 x1 x2 x3 x4 x5 x6 = some o) : z_Met l yX0_init cX0_init 7 none 1 22 G lo t0 [.ref a0, .int x1, .int x2, .int x3, .int x4, .int x5, .int x6] h nx (.inr (none, o, nx)) 0 0 := by
  refine z_of [(0, .ref a0), (1, .int x1), (2, .int x2), (3, .int x3), (4, .int x4), (5, .int x5), (6, .int x6)] (by decide) (Nat.le_of_ble_eq_true rfl) rfl (fun p e s m below meth c C hin => ?_)
  unfold M_X0_init at hM
  refine z_aload_n (k := 0) (pc := 0) C dX0_init_0 rfl ?_
  refine z_obj (pc := 1) C q_128 q_11 q_12 (Nat.le_of_ble_eq_true rfl) (Nat.le_of_ble_eq_true rfl) dX0_init_1 ?_
  refine z_aload_n (k := 0) (pc := 4) C dX0_init_4 rfl ?_
  refine z_iload_n (k := 1) (pc := 5) C dX0_init_5 rfl ?_
  obtain ⟨h_1, g1, hM⟩ := Option.bind_eq_some_iff.mp hM
  refine z_put (pc := 6) (k := 0) C g1 rfl inlX0 tyX0 tyX0_ok nmX0 (by decide) q_129 (fun _ h9 => h9) rfl (tyX0_ok 0 (by decide)) rfl rfl dX0_init_6 ?_
  refine z_aload_n (k := 0) (pc := 9) C dX0_init_9 rfl ?_
  refine z_iload_n (k := 2) (pc := 10) C dX0_init_10 rfl ?_
  obtain ⟨h_2, g2, hM⟩ := Option.bind_eq_some_iff.mp hM
  refine z_put (pc := 11) (k := 1) C g2 rfl inlX0 tyX0 tyX0_ok nmX0 (by decide) q_130 (fun _ h9 => h9) rfl (tyX0_ok 1 (by decide)) rfl rfl dX0_init_11 ?_
  refine z_aload_n (k := 0) (pc := 14) C dX0_init_14 rfl ?_
  refine z_iload_n (k := 3) (pc := 15) C dX0_init_15 rfl ?_
  obtain ⟨h_3, g3, hM⟩ := Option.bind_eq_some_iff.mp hM
  refine z_putF (pc := 16) (k := 2) C g3 rfl inlX0 tyX0 tyX0_ok nmX0 (by decide) q_131 (fun _ h9 => h9) rfl hin rfl (tyX0_ok 2 (by decide)) rfl rfl dX0_init_16 ?_
  refine z_aload_n (k := 0) (pc := 19) C dX0_init_19 rfl ?_
  refine z_iload (k := 4) (pc := 20) C dX0_init_20 rfl ?_
  obtain ⟨h_4, g4, hM⟩ := Option.bind_eq_some_iff.mp hM
  refine z_putF (pc := 22) (k := 3) C g4 rfl inlX0 tyX0 tyX0_ok nmX0 (by decide) q_132 (fun _ h9 => h9) rfl hin rfl (tyX0_ok 3 (by decide)) rfl rfl dX0_init_22 ?_
  refine z_aload_n (k := 0) (pc := 25) C dX0_init_25 rfl ?_
  refine z_iload (k := 5) (pc := 26) C dX0_init_26 rfl ?_
  obtain ⟨h_5, g5, hM⟩ := Option.bind_eq_some_iff.mp hM
  refine z_putF (pc := 28) (k := 4) C g5 rfl inlX0 tyX0 tyX0_ok nmX0 (by decide) q_133 (fun _ h9 => h9) rfl hin rfl (tyX0_ok 4 (by decide)) rfl rfl dX0_init_28 ?_
  refine z_aload_n (k := 0) (pc := 31) C dX0_init_31 rfl ?_
  refine z_iload (k := 6) (pc := 32) C dX0_init_32 rfl ?_
  obtain ⟨h_6, g6, hM⟩ := Option.bind_eq_some_iff.mp hM
  refine z_putF (pc := 34) (k := 5) C g6 rfl inlX0 tyX0 tyX0_ok nmX0 (by decide) q_134 (fun _ h9 => h9) rfl hin rfl (tyX0_ok 5 (by decide)) rfl rfl dX0_init_34 ?_
  refine z_aload_n (k := 0) (pc := 37) C dX0_init_37 rfl ?_
  refine z_iconst (v := (1 : Int32)) (pc := 38) C dX0_init_38 (by decide) ?_
  obtain ⟨h_7, g7, hM⟩ := Option.bind_eq_some_iff.mp hM
  refine z_put (pc := 39) (k := 6) C g7 rfl inlX0 tyX0 tyX0_ok nmX0 (by decide) q_135 (fun _ h9 => h9) rfl (tyX0_ok 6 (by decide)) rfl rfl dX0_init_39 ?_
  refine z_aload_n (k := 0) (pc := 42) C dX0_init_42 rfl ?_
  refine z_iconst (v := (0 : Int32)) (pc := 43) C dX0_init_43 (by decide) ?_
  obtain ⟨h_8, g8, hM⟩ := Option.bind_eq_some_iff.mp hM
  refine z_put (pc := 44) (k := 7) C g8 rfl inlX0 tyX0 tyX0_ok nmX0 (by decide) q_136 (fun _ h9 => h9) rfl (tyX0_ok 7 (by decide)) rfl rfl dX0_init_44 ?_
  cases hM
  exact z_vret (pc := 47) C rfl (Nat.zero_le _) (Nat.zero_le _) dX0_init_47
set_option maxHeartbeats 4000000 in
set_option maxRecDepth 100000 in
theorem c_X0_covers (l : Launch) (hl : l.stackTraces = false) (G : zG) (lo t0 : Nat) (h : zH) (nx : Nat) (a0 : Nat) (x1 : Int32) (x2 : Int32) (o : Int32) (hM : M_X0_covers h a0 x1 x2 = some o) : z_Met l yX0_covers cX0_covers 3 (some .boolean) 0 0 G lo t0 [.ref a0, .int x1, .int x2] h nx (.inr (some (.int o), h, nx)) 0 0 := by
  refine z_of [(0, .ref a0), (1, .int x1), (2, .int x2)] (by decide) (Nat.le_of_ble_eq_true rfl) rfl (fun p e s m below meth c C hin => ?_)
  unfold M_X0_covers at hM
  refine z_aload_n (k := 0) (pc := 0) C dX0_covers_0 rfl ?_
  obtain ⟨r1, g1, hM⟩ := Option.bind_eq_some_iff.mp hM
  refine z_getI (pc := 1) (k := 6) C g1 rfl inlX0 (by decide) q_135 (fun _ h9 => h9) dX0_covers_1 ?_
  refine zj0 0 0 53 ([]) ([]) (h) (nx) hM (fun  hM => ?_) (fun J2 iJ2 hM => ?_)
  · refine z_iconst (v := (0 : Int32)) (pc := 53) C dX0_covers_53 (by decide) ?_
    cases hM
    exact z_zret (pc := 54) C (Or.inl rfl) rfl (Nat.zero_le _) (Nat.zero_le _) dX0_covers_54
  refine z_if_eq (pc := 4) (tgt := 53) C dX0_covers_4 (by decide) hM (fun hc13 hM => ?_) (fun hc13 hM => ?_)
  · exact z_sub [] rfl (iJ2 hM)
  · refine z_iload_n (k := 1) (pc := 7) C dX0_covers_7 rfl ?_
    refine z_aload_n (k := 0) (pc := 8) C dX0_covers_8 rfl ?_
    obtain ⟨r3, g3, hM⟩ := Option.bind_eq_some_iff.mp hM
    refine z_getI (pc := 9) (k := 0) C g3 rfl inlX0 (by decide) q_129 (fun _ h9 => h9) dX0_covers_9 ?_
    refine z_icmp_lt (pc := 12) (tgt := 53) C dX0_covers_12 (by decide) hM (fun hc12 hM => ?_) (fun hc12 hM => ?_)
    · exact z_sub [] rfl (iJ2 hM)
    · refine z_iload_n (k := 1) (pc := 15) C dX0_covers_15 rfl ?_
      refine z_aload_n (k := 0) (pc := 16) C dX0_covers_16 rfl ?_
      obtain ⟨r4, g4, hM⟩ := Option.bind_eq_some_iff.mp hM
      refine z_getI (pc := 17) (k := 0) C g4 rfl inlX0 (by decide) q_129 (fun _ h9 => h9) dX0_covers_17 ?_
      refine z_aload_n (k := 0) (pc := 20) C dX0_covers_20 rfl ?_
      obtain ⟨r5, g5, hM⟩ := Option.bind_eq_some_iff.mp hM
      refine z_getI (pc := 21) (k := 2) C g5 rfl inlX0 (by decide) q_131 (fun _ h9 => h9) dX0_covers_21 ?_
      refine z_iadd (pc := 24) C dX0_covers_24 ?_
      refine z_icmp_ge (pc := 25) (tgt := 53) C dX0_covers_25 (by decide) hM (fun hc11 hM => ?_) (fun hc11 hM => ?_)
      · exact z_sub [] rfl (iJ2 hM)
      · refine z_iload_n (k := 2) (pc := 28) C dX0_covers_28 rfl ?_
        refine z_aload_n (k := 0) (pc := 29) C dX0_covers_29 rfl ?_
        obtain ⟨r6, g6, hM⟩ := Option.bind_eq_some_iff.mp hM
        refine z_getI (pc := 30) (k := 1) C g6 rfl inlX0 (by decide) q_130 (fun _ h9 => h9) dX0_covers_30 ?_
        refine z_icmp_lt (pc := 33) (tgt := 53) C dX0_covers_33 (by decide) hM (fun hc10 hM => ?_) (fun hc10 hM => ?_)
        · exact z_sub [] rfl (iJ2 hM)
        · refine z_iload_n (k := 2) (pc := 36) C dX0_covers_36 rfl ?_
          refine z_aload_n (k := 0) (pc := 37) C dX0_covers_37 rfl ?_
          obtain ⟨r7, g7, hM⟩ := Option.bind_eq_some_iff.mp hM
          refine z_getI (pc := 38) (k := 1) C g7 rfl inlX0 (by decide) q_130 (fun _ h9 => h9) dX0_covers_38 ?_
          refine z_aload_n (k := 0) (pc := 41) C dX0_covers_41 rfl ?_
          obtain ⟨r8, g8, hM⟩ := Option.bind_eq_some_iff.mp hM
          refine z_getI (pc := 42) (k := 3) C g8 rfl inlX0 (by decide) q_132 (fun _ h9 => h9) dX0_covers_42 ?_
          refine z_iadd (pc := 45) C dX0_covers_45 ?_
          refine z_icmp_ge (pc := 46) (tgt := 53) C dX0_covers_46 (by decide) hM (fun hc9 hM => ?_) (fun hc9 hM => ?_)
          · exact z_sub [] rfl (iJ2 hM)
          · refine z_iconst (v := (1 : Int32)) (pc := 49) C dX0_covers_49 (by decide) ?_
            refine z_goto (pc := 50) (tgt := 54) C dX0_covers_50 (by decide) ?_
            cases hM
            exact z_zret (pc := 54) C (Or.inr rfl) rfl (Nat.zero_le _) (Nat.zero_le _) dX0_covers_54
set_option maxHeartbeats 4000000 in
set_option maxRecDepth 100000 in
theorem c_X0_dripsAlongRows (l : Launch) (hl : l.stackTraces = false) (G : zG) (lo t0 : Nat) (h : zH) (nx : Nat) (a0 : Nat) (o : Int32) (hM : M_X0_dripsAlongRows h a0 = some o) : z_Met l yX0_dripsAlongRows cX0_dripsAlongRows 1 (some .boolean) 0 0 G lo t0 [.ref a0] h nx (.inr (some (.int o), h, nx)) 0 0 := by
  refine z_of [(0, .ref a0)] (by decide) (Nat.le_of_ble_eq_true rfl) rfl (fun p e s m below meth c C hin => ?_)
  unfold M_X0_dripsAlongRows at hM
  refine z_aload_n (k := 0) (pc := 0) C dX0_dripsAlongRows_0 rfl ?_
  obtain ⟨r1, g1, hM⟩ := Option.bind_eq_some_iff.mp hM
  refine z_getI (pc := 1) (k := 5) C g1 rfl inlX0 (by decide) q_134 (fun _ h9 => h9) dX0_dripsAlongRows_1 ?_
  refine zj0 0 0 15 ([]) ([]) (h) (nx) hM (fun  hM => ?_) (fun J2 iJ2 hM => ?_)
  · refine z_iconst (v := (1 : Int32)) (pc := 15) C dX0_dripsAlongRows_15 (by decide) ?_
    refine z_goto (pc := 16) (tgt := 20) C dX0_dripsAlongRows_16 (by decide) ?_
    cases hM
    exact z_zret (pc := 20) C (Or.inr rfl) rfl (Nat.zero_le _) (Nat.zero_le _) dX0_dripsAlongRows_20
  refine z_if_eq (pc := 4) (tgt := 15) C dX0_dripsAlongRows_4 (by decide) hM (fun hc5 hM => ?_) (fun hc5 hM => ?_)
  · exact z_sub [] rfl (iJ2 hM)
  · refine z_aload_n (k := 0) (pc := 7) C dX0_dripsAlongRows_7 rfl ?_
    obtain ⟨r3, g3, hM⟩ := Option.bind_eq_some_iff.mp hM
    refine z_getI (pc := 8) (k := 5) C g3 rfl inlX0 (by decide) q_134 (fun _ h9 => h9) dX0_dripsAlongRows_8 ?_
    refine z_iconst (v := (2 : Int32)) (pc := 11) C dX0_dripsAlongRows_11 (by decide) ?_
    refine z_icmp_ne (pc := 12) (tgt := 19) C dX0_dripsAlongRows_12 (by decide) hM (fun hc4 hM => ?_) (fun hc4 hM => ?_)
    · exact z_sub [] rfl (iJ2 hM)
    · refine z_iconst (v := (0 : Int32)) (pc := 19) C dX0_dripsAlongRows_19 (by decide) ?_
      cases hM
      exact z_zret (pc := 20) C (Or.inl rfl) rfl (Nat.zero_le _) (Nat.zero_le _) dX0_dripsAlongRows_20
set_option maxHeartbeats 4000000 in
set_option maxRecDepth 100000 in
theorem c_X0_cellsBeyond (l : Launch) (hl : l.stackTraces = false) (G : zG) (lo t0 : Nat) (h : zH) (nx : Nat) (a0 : Nat) (o : Int32) (hM : M_X0_cellsBeyond h a0 = some o) : z_Met l yX0_cellsBeyond cX0_cellsBeyond 1 (some .int) 1 20 G lo t0 [.ref a0] h nx (.inr (some (.int o), h, nx)) 0 0 := by
  refine z_of [(0, .ref a0)] (by decide) (Nat.le_of_ble_eq_true rfl) rfl (fun p e s m below meth c C hin => ?_)
  unfold M_X0_cellsBeyond at hM
  refine z_aload_n (k := 0) (pc := 0) C dX0_cellsBeyond_0 rfl ?_
  obtain ⟨_, g1, hM⟩ := Option.bind_eq_some_iff.mp hM
  obtain ⟨r2, g2, hM⟩ := Option.bind_eq_some_iff.mp hM
  refine z_goN (kc := 0) (ks := 0) ([.int r2]) (z_callV (pc := 1) (As := []) (rest := []) (n := 0) (ci := 1) C (c_X0_dripsAlongRows l hl G lo t0 h nx a0 r2 g2) g1 rfl q_372 q_373 q_374 q_107 q_375 ⟨rfl, by decide +kernel, by decide +kernel, by decide +kernel⟩ ⟨Nat.le_of_ble_eq_true rfl, Nat.le_of_ble_eq_true rfl⟩ rfl (Nat.le_of_ble_eq_true rfl) dX0_cellsBeyond_1 ⟨(Nat.zero_le _), (Nat.zero_le _)⟩) rfl (Nat.le_of_ble_eq_true rfl) (Nat.le_of_ble_eq_true rfl) ?_
  refine z_if_eq (pc := 4) (tgt := 14) C dX0_cellsBeyond_4 (by decide) hM (fun hc5 hM => ?_) (fun hc5 hM => ?_)
  · refine z_aload_n (k := 0) (pc := 14) C dX0_cellsBeyond_14 rfl ?_
    obtain ⟨r3, g3, hM⟩ := Option.bind_eq_some_iff.mp hM
    refine z_getI (pc := 15) (k := 2) C g3 rfl inlX0 (by decide) q_131 (fun _ h9 => h9) dX0_cellsBeyond_15 ?_
    cases hM
    exact z_iret (pc := 18) C rfl (Nat.zero_le _) (Nat.zero_le _) dX0_cellsBeyond_18
  · refine z_aload_n (k := 0) (pc := 7) C dX0_cellsBeyond_7 rfl ?_
    obtain ⟨r4, g4, hM⟩ := Option.bind_eq_some_iff.mp hM
    refine z_getI (pc := 8) (k := 3) C g4 rfl inlX0 (by decide) q_132 (fun _ h9 => h9) dX0_cellsBeyond_8 ?_
    refine z_goto (pc := 11) (tgt := 18) C dX0_cellsBeyond_11 (by decide) ?_
    cases hM
    exact z_iret (pc := 18) C rfl (Nat.zero_le _) (Nat.zero_le _) dX0_cellsBeyond_18
set_option maxHeartbeats 4000000 in
set_option maxRecDepth 100000 in
theorem c_X0_columnBeyond (l : Launch) (hl : l.stackTraces = false) (G : zG) (lo t0 : Nat) (h : zH) (nx : Nat) (a0 : Nat) (x1 : Int32) (o : Int32) (hM : M_X0_columnBeyond h a0 x1 = some o) : z_Met l yX0_columnBeyond cX0_columnBeyond 2 (some .int) 1 20 G lo t0 [.ref a0, .int x1] h nx (.inr (some (.int o), h, nx)) 0 0 := by
  refine z_of [(0, .ref a0), (1, .int x1)] (by decide) (Nat.le_of_ble_eq_true rfl) rfl (fun p e s m below meth c C hin => ?_)
  unfold M_X0_columnBeyond at hM
  refine z_aload_n (k := 0) (pc := 0) C dX0_columnBeyond_0 rfl ?_
  obtain ⟨_, g1, hM⟩ := Option.bind_eq_some_iff.mp hM
  obtain ⟨r2, g2, hM⟩ := Option.bind_eq_some_iff.mp hM
  refine z_goN (kc := 0) (ks := 0) ([.int r2]) (z_callV (pc := 1) (As := []) (rest := []) (n := 0) (ci := 1) C (c_X0_dripsAlongRows l hl G lo t0 h nx a0 r2 g2) g1 rfl q_372 q_373 q_374 q_107 q_375 ⟨rfl, by decide +kernel, by decide +kernel, by decide +kernel⟩ ⟨Nat.le_of_ble_eq_true rfl, Nat.le_of_ble_eq_true rfl⟩ rfl (Nat.le_of_ble_eq_true rfl) dX0_columnBeyond_1 ⟨(Nat.zero_le _), (Nat.zero_le _)⟩) rfl (Nat.le_of_ble_eq_true rfl) (Nat.le_of_ble_eq_true rfl) ?_
  refine z_if_eq (pc := 4) (tgt := 33) C dX0_columnBeyond_4 (by decide) hM (fun hc9 hM => ?_) (fun hc9 hM => ?_)
  · refine z_aload_n (k := 0) (pc := 33) C dX0_columnBeyond_33 rfl ?_
    obtain ⟨r3, g3, hM⟩ := Option.bind_eq_some_iff.mp hM
    refine z_getI (pc := 34) (k := 0) C g3 rfl inlX0 (by decide) q_129 (fun _ h9 => h9) dX0_columnBeyond_34 ?_
    refine z_iload_n (k := 1) (pc := 37) C dX0_columnBeyond_37 rfl ?_
    refine z_iadd (pc := 38) C dX0_columnBeyond_38 ?_
    cases hM
    exact z_iret (pc := 39) C rfl (Nat.zero_le _) (Nat.zero_le _) dX0_columnBeyond_39
  · refine z_aload_n (k := 0) (pc := 7) C dX0_columnBeyond_7 rfl ?_
    obtain ⟨r4, g4, hM⟩ := Option.bind_eq_some_iff.mp hM
    refine z_getI (pc := 8) (k := 5) C g4 rfl inlX0 (by decide) q_134 (fun _ h9 => h9) dX0_columnBeyond_8 ?_
    refine z_if_ne (pc := 11) (tgt := 23) C dX0_columnBeyond_11 (by decide) hM (fun hc8 hM => ?_) (fun hc8 hM => ?_)
    · refine z_aload_n (k := 0) (pc := 14) C dX0_columnBeyond_14 rfl ?_
      obtain ⟨r7, g7, hM⟩ := Option.bind_eq_some_iff.mp hM
      refine z_getI (pc := 15) (k := 0) C g7 rfl inlX0 (by decide) q_129 (fun _ h9 => h9) dX0_columnBeyond_15 ?_
      refine z_iconst (v := (1 : Int32)) (pc := 18) C dX0_columnBeyond_18 (by decide) ?_
      refine z_isub (pc := 19) C dX0_columnBeyond_19 ?_
      refine z_goto (pc := 20) (tgt := 32) C dX0_columnBeyond_20 (by decide) ?_
      cases hM
      exact z_iret (pc := 32) C rfl (Nat.zero_le _) (Nat.zero_le _) dX0_columnBeyond_32
    · refine z_aload_n (k := 0) (pc := 23) C dX0_columnBeyond_23 rfl ?_
      obtain ⟨r5, g5, hM⟩ := Option.bind_eq_some_iff.mp hM
      refine z_getI (pc := 24) (k := 0) C g5 rfl inlX0 (by decide) q_129 (fun _ h9 => h9) dX0_columnBeyond_24 ?_
      refine z_aload_n (k := 0) (pc := 27) C dX0_columnBeyond_27 rfl ?_
      obtain ⟨r6, g6, hM⟩ := Option.bind_eq_some_iff.mp hM
      refine z_getI (pc := 28) (k := 2) C g6 rfl inlX0 (by decide) q_131 (fun _ h9 => h9) dX0_columnBeyond_28 ?_
      refine z_iadd (pc := 31) C dX0_columnBeyond_31 ?_
      cases hM
      exact z_iret (pc := 32) C rfl (Nat.zero_le _) (Nat.zero_le _) dX0_columnBeyond_32
set_option maxHeartbeats 4000000 in
set_option maxRecDepth 100000 in
theorem c_X0_rowBeyond (l : Launch) (hl : l.stackTraces = false) (G : zG) (lo t0 : Nat) (h : zH) (nx : Nat) (a0 : Nat) (x1 : Int32) (o : Int32) (hM : M_X0_rowBeyond h a0 x1 = some o) : z_Met l yX0_rowBeyond cX0_rowBeyond 2 (some .int) 1 20 G lo t0 [.ref a0, .int x1] h nx (.inr (some (.int o), h, nx)) 0 0 := by
  refine z_of [(0, .ref a0), (1, .int x1)] (by decide) (Nat.le_of_ble_eq_true rfl) rfl (fun p e s m below meth c C hin => ?_)
  unfold M_X0_rowBeyond at hM
  refine z_aload_n (k := 0) (pc := 0) C dX0_rowBeyond_0 rfl ?_
  obtain ⟨_, g1, hM⟩ := Option.bind_eq_some_iff.mp hM
  obtain ⟨r2, g2, hM⟩ := Option.bind_eq_some_iff.mp hM
  refine z_goN (kc := 0) (ks := 0) ([.int r2]) (z_callV (pc := 1) (As := []) (rest := []) (n := 0) (ci := 1) C (c_X0_dripsAlongRows l hl G lo t0 h nx a0 r2 g2) g1 rfl q_372 q_373 q_374 q_107 q_375 ⟨rfl, by decide +kernel, by decide +kernel, by decide +kernel⟩ ⟨Nat.le_of_ble_eq_true rfl, Nat.le_of_ble_eq_true rfl⟩ rfl (Nat.le_of_ble_eq_true rfl) dX0_rowBeyond_1 ⟨(Nat.zero_le _), (Nat.zero_le _)⟩) rfl (Nat.le_of_ble_eq_true rfl) (Nat.le_of_ble_eq_true rfl) ?_
  refine z_if_eq (pc := 4) (tgt := 14) C dX0_rowBeyond_4 (by decide) hM (fun hc9 hM => ?_) (fun hc9 hM => ?_)
  · refine z_aload_n (k := 0) (pc := 14) C dX0_rowBeyond_14 rfl ?_
    obtain ⟨r3, g3, hM⟩ := Option.bind_eq_some_iff.mp hM
    refine z_getI (pc := 15) (k := 5) C g3 rfl inlX0 (by decide) q_134 (fun _ h9 => h9) dX0_rowBeyond_15 ?_
    refine z_iconst (v := (1 : Int32)) (pc := 18) C dX0_rowBeyond_18 (by decide) ?_
    refine z_icmp_ne (pc := 19) (tgt := 31) C dX0_rowBeyond_19 (by decide) hM (fun hc7 hM => ?_) (fun hc7 hM => ?_)
    · refine z_aload_n (k := 0) (pc := 22) C dX0_rowBeyond_22 rfl ?_
      obtain ⟨r6, g6, hM⟩ := Option.bind_eq_some_iff.mp hM
      refine z_getI (pc := 23) (k := 1) C g6 rfl inlX0 (by decide) q_130 (fun _ h9 => h9) dX0_rowBeyond_23 ?_
      refine z_iconst (v := (1 : Int32)) (pc := 26) C dX0_rowBeyond_26 (by decide) ?_
      refine z_isub (pc := 27) C dX0_rowBeyond_27 ?_
      refine z_goto (pc := 28) (tgt := 40) C dX0_rowBeyond_28 (by decide) ?_
      cases hM
      exact z_iret (pc := 40) C rfl (Nat.zero_le _) (Nat.zero_le _) dX0_rowBeyond_40
    · refine z_aload_n (k := 0) (pc := 31) C dX0_rowBeyond_31 rfl ?_
      obtain ⟨r4, g4, hM⟩ := Option.bind_eq_some_iff.mp hM
      refine z_getI (pc := 32) (k := 1) C g4 rfl inlX0 (by decide) q_130 (fun _ h9 => h9) dX0_rowBeyond_32 ?_
      refine z_aload_n (k := 0) (pc := 35) C dX0_rowBeyond_35 rfl ?_
      obtain ⟨r5, g5, hM⟩ := Option.bind_eq_some_iff.mp hM
      refine z_getI (pc := 36) (k := 3) C g5 rfl inlX0 (by decide) q_132 (fun _ h9 => h9) dX0_rowBeyond_36 ?_
      refine z_iadd (pc := 39) C dX0_rowBeyond_39 ?_
      cases hM
      exact z_iret (pc := 40) C rfl (Nat.zero_le _) (Nat.zero_le _) dX0_rowBeyond_40
  · refine z_aload_n (k := 0) (pc := 7) C dX0_rowBeyond_7 rfl ?_
    obtain ⟨r8, g8, hM⟩ := Option.bind_eq_some_iff.mp hM
    refine z_getI (pc := 8) (k := 1) C g8 rfl inlX0 (by decide) q_130 (fun _ h9 => h9) dX0_rowBeyond_8 ?_
    refine z_iload_n (k := 1) (pc := 11) C dX0_rowBeyond_11 rfl ?_
    refine z_iadd (pc := 12) C dX0_rowBeyond_12 ?_
    cases hM
    exact z_iret (pc := 13) C rfl (Nat.zero_le _) (Nat.zero_le _) dX0_rowBeyond_13
set_option maxHeartbeats 4000000 in
set_option maxRecDepth 100000 in
theorem c_X4_isCell (l : Launch) (hl : l.stackTraces = false) (G : zG) (lo t0 : Nat) (h : zH) (nx : Nat) (x0 : Int32) (x1 : Int32) (o : Int32) (hM : M_X4_isCell x0 x1 = some o) : z_Met l yX4_isCell cX4_isCell 2 (some .boolean) 0 0 G lo t0 [.int x0, .int x1] h nx (.inr (some (.int o), h, nx)) 0 0 := by
  refine z_of [(0, .int x0), (1, .int x1)] (by decide) (Nat.le_of_ble_eq_true rfl) rfl (fun p e s m below meth c C hin => ?_)
  unfold M_X4_isCell at hM
  refine z_iload_n (k := 0) (pc := 0) C dX4_isCell_0 rfl ?_
  refine zj0 0 0 24 ([]) ([]) (h) (nx) hM (fun  hM => ?_) (fun J1 iJ1 hM => ?_)
  · refine z_iconst (v := (0 : Int32)) (pc := 24) C dX4_isCell_24 (by decide) ?_
    cases hM
    exact z_zret (pc := 25) C (Or.inl rfl) rfl (Nat.zero_le _) (Nat.zero_le _) dX4_isCell_25
  refine z_if_lt (pc := 1) (tgt := 24) C dX4_isCell_1 (by decide) hM (fun hc5 hM => ?_) (fun hc5 hM => ?_)
  · exact z_sub [] rfl (iJ1 hM)
  · refine z_iload_n (k := 0) (pc := 4) C dX4_isCell_4 rfl ?_
    refine z_bipush (v := (24 : Int32)) (pc := 5) C dX4_isCell_5 (by decide) ?_
    refine z_icmp_ge (pc := 7) (tgt := 24) C dX4_isCell_7 (by decide) hM (fun hc4 hM => ?_) (fun hc4 hM => ?_)
    · exact z_sub [] rfl (iJ1 hM)
    · refine z_iload_n (k := 1) (pc := 10) C dX4_isCell_10 rfl ?_
      refine z_if_lt (pc := 11) (tgt := 24) C dX4_isCell_11 (by decide) hM (fun hc3 hM => ?_) (fun hc3 hM => ?_)
      · exact z_sub [] rfl (iJ1 hM)
      · refine z_iload_n (k := 1) (pc := 14) C dX4_isCell_14 rfl ?_
        refine z_bipush (v := (24 : Int32)) (pc := 15) C dX4_isCell_15 (by decide) ?_
        refine z_icmp_ge (pc := 17) (tgt := 24) C dX4_isCell_17 (by decide) hM (fun hc2 hM => ?_) (fun hc2 hM => ?_)
        · exact z_sub [] rfl (iJ1 hM)
        · refine z_iconst (v := (1 : Int32)) (pc := 20) C dX4_isCell_20 (by decide) ?_
          refine z_goto (pc := 21) (tgt := 25) C dX4_isCell_21 (by decide) ?_
          cases hM
          exact z_zret (pc := 25) C (Or.inr rfl) rfl (Nat.zero_le _) (Nat.zero_le _) dX4_isCell_25
set_option maxHeartbeats 4000000 in
set_option maxRecDepth 100000 in
theorem c_X3_init (l : Launch) (hl : l.stackTraces = false) (G : zG) (lo t0 : Nat) (h : zH) (nx : Nat) (a0 : Nat) (x1 : Int32) (x2 : Int32) (x3 : Int32) (o : zH) (hM : M_X3_init h a0 x1 x2 x3 = some o) : z_Met l yX3_init cX3_init 4 none 1 22 G lo t0 [.ref a0, .int x1, .int x2, .int x3] h nx (.inr (none, o, nx)) 0 0 := by
  refine z_of [(0, .ref a0), (1, .int x1), (2, .int x2), (3, .int x3)] (by decide) (Nat.le_of_ble_eq_true rfl) rfl (fun p e s m below meth c C hin => ?_)
  unfold M_X3_init at hM
  refine z_aload_n (k := 0) (pc := 0) C dX3_init_0 rfl ?_
  refine z_obj (pc := 1) C q_315 q_11 q_12 (Nat.le_of_ble_eq_true rfl) (Nat.le_of_ble_eq_true rfl) dX3_init_1 ?_
  refine z_aload_n (k := 0) (pc := 4) C dX3_init_4 rfl ?_
  refine z_iload_n (k := 1) (pc := 5) C dX3_init_5 rfl ?_
  obtain ⟨h_1, g1, hM⟩ := Option.bind_eq_some_iff.mp hM
  refine z_putF (pc := 6) (k := 0) C g1 rfl inlX3 tyX3 tyX3_ok nmX3 (by decide) q_316 (fun _ h9 => h9) rfl hin rfl (tyX3_ok 0 (by decide)) rfl rfl dX3_init_6 ?_
  refine z_aload_n (k := 0) (pc := 9) C dX3_init_9 rfl ?_
  refine z_iload_n (k := 2) (pc := 10) C dX3_init_10 rfl ?_
  obtain ⟨h_2, g2, hM⟩ := Option.bind_eq_some_iff.mp hM
  refine z_putF (pc := 11) (k := 1) C g2 rfl inlX3 tyX3 tyX3_ok nmX3 (by decide) q_317 (fun _ h9 => h9) rfl hin rfl (tyX3_ok 1 (by decide)) rfl rfl dX3_init_11 ?_
  refine z_aload_n (k := 0) (pc := 14) C dX3_init_14 rfl ?_
  refine z_iload_n (k := 3) (pc := 15) C dX3_init_15 rfl ?_
  obtain ⟨h_3, g3, hM⟩ := Option.bind_eq_some_iff.mp hM
  refine z_putF (pc := 16) (k := 2) C g3 rfl inlX3 tyX3 tyX3_ok nmX3 (by decide) q_318 (fun _ h9 => h9) rfl hin rfl (tyX3_ok 2 (by decide)) rfl rfl dX3_init_16 ?_
  cases hM
  exact z_vret (pc := 19) C rfl (Nat.zero_le _) (Nat.zero_le _) dX3_init_19
