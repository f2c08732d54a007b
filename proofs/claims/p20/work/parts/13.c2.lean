/-! by program out of the bytecode (wip/whole/gen.py): the mirrors, then the walks -/
noncomputable def M_X2_init (h : zH) (nx : Nat) (a0 : Nat) (a1 : Nat) : Option (zH × Nat) := (z_pV h a0 3 0 (.ref a1)).bind fun h_1 => (z_pV (z_up h_1 nx (zI 576 (fun _ => 0))) a0 3 1 (.ref nx)).bind fun h_2 => (z_pV (z_up h_2 (nx + 1) (zI 10 (fun _ => 0))) a0 3 2 (.ref (nx + 1))).bind fun h_3 => (z_pV h_3 a0 3 3 (.int (0 : Int32))).bind fun h_4 => (z_pV h_4 a0 3 4 (.int (0 : Int32))).bind fun h_5 => (some (h_5, ((nx + 1) + 1)))
noncomputable def M_X2_dry (h : zH) (a0 : Nat) : Option (zH) := (z_gR h a0 3 1).bind fun r1 => (M_J7_fill_53178 h r1 (0 : Int32)).bind fun r2 => (z_gR r2 a0 3 2).bind fun r3 => (M_J7_fill_53178 r2 r3 (0 : Int32)).bind fun r4 => (z_pV r4 a0 3 3 (.int (0 : Int32))).bind fun h_5 => (z_pV h_5 a0 3 4 (.int (0 : Int32))).bind fun h_6 => (some h_6)
noncomputable def M_X2_land (h : zH) (a0 : Nat) (x1 : Int32) (x2 : Int32) (x3 : Int32) (x4 : Int32) : Option (zH) := (M_X4_isCell x2 x3).bind fun r1 => (if r1 = 0 then (z_gI h a0 3 4).bind fun r18 => (z_pV h a0 3 4 (.int (r18 + x1))).bind fun h_19 => (some h_19) else (z_gR h a0 3 0).bind fun r2 => (z_ck h r2 2).bind fun _ => (M_X1_highestBelow h r2 x4 x2 x3).bind fun r4 => jn0 ((z_gR h a0 3 1).bind fun r6 => (z_aI h r6 ((x3 * (24 : Int32)) + x2)).bind fun r7 => (z_sI h r6 ((x3 * (24 : Int32)) + x2) (r7 + x1)).bind fun h_8 => (z_gI h_8 a0 3 3).bind fun r9 => (z_pV h_8 a0 3 3 (.int (r9 + x1))).bind fun h_10 => (some h_10)) fun J5 => (if r4 < 0 then J5 else (z_gR h a0 3 2).bind fun r11 => (z_al h r11).bind fun r12 => (if r12 ≤ r4 then J5 else (z_gR h a0 3 2).bind fun r13 => (z_aI h r13 r4).bind fun r14 => (z_sI h r13 r4 (r14 + x1)).bind fun h_15 => (some h_15))))
noncomputable def M_X2_caughtBy (h : zH) (a0 : Nat) (x1 : Int32) : Option (Int32) := jn0 ((some (0 : Int32))) fun J1 => (if x1 < 0 then J1 else (z_gR h a0 3 2).bind fun r2 => (z_al h r2).bind fun r3 => (if r3 ≤ x1 then J1 else (z_gR h a0 3 2).bind fun r4 => (z_aI h r4 x1).bind fun r5 => (some r5)))
noncomputable def M_X2_drip (h : zH) (a0 : Nat) (a1 : Nat) (x2 : Int32) : Option (zH) := (z_ck h a1 1).bind fun _ => (M_X0_cellsBeyond h a1).bind fun r2 => (if (1 : Int32) ≤ r2 then (if r2 = 0 then none else (if r2 = 0 then none else wl2 (fun rec5 (x6_5 : Int32) (h_5 : zH) => (if r2 ≤ x6_5 then (some h_5) else jn1 (fun (s0_6 : Int32) => (z_ck h_5 a1 1).bind fun _ => (M_X0_columnBeyond h_5 a1 x6_5).bind fun r8 => (M_X0_rowBeyond h_5 a1 x6_5).bind fun r9 => (z_gI h_5 a1 1 4).bind fun r10 => (z_ck h_5 a0 3).bind fun _ => (M_X2_land h_5 a0 s0_6 r8 r9 r10).bind fun r12 => (rec5 (x6_5 + (1 : Int32)) r12)) fun J6 => (if (x2 - x2 / r2 * r2) ≤ x6_5 then (J6 (x2 / r2)) else (J6 ((x2 / r2) + (1 : Int32)))))) 700 (0 : Int32) h)) else (some h))
noncomputable def M_X2_dripFromLevel (h : zH) (a0 : Nat) (x1 : Int32) : Option (zH) := wl2 (fun rec1 (x2_1 : Int32) (h_1 : zH) => (z_gR h_1 a0 3 0).bind fun r2 => (z_ck h_1 r2 2).bind fun _ => (M_X1_size h_1 r2).bind fun r4 => (if r4 ≤ x2_1 then (some h_1) else (z_gR h_1 a0 3 0).bind fun r5 => (z_ck h_1 r5 2).bind fun _ => z_tn (M_X1_numbered h_1 r5 x2_1) fun r7 => (z_gI h_1 r7 1 6).bind fun r8 => jn1 (fun (h_9 : zH) => (rec1 (x2_1 + (1 : Int32)) h_9)) fun J9 => (if r8 = 0 then (J9 h_1) else (z_gI h_1 r7 1 4).bind fun r10 => (if r10 = x1 then (z_ck h_1 a0 3).bind fun _ => (M_X2_caughtBy h_1 a0 x2_1).bind fun r12 => (M_X2_drip h_1 a0 r7 r12).bind fun r13 => (J9 r13) else (J9 h_1))))) 700 (0 : Int32) h
noncomputable def M_X2_pour (h : zH) (a0 : Nat) (x1 : Int32) : Option (zH) := (z_ck h a0 3).bind fun _ => (M_X2_dry h a0).bind fun r2 => wl2 (fun rec3 (x2_3 : Int32) (h_3 : zH) => (if (24 : Int32) ≤ x2_3 then wl2 (fun rec4 (x2_4 : Int32) (h_4 : zH) => (if x2_4 < (1 : Int32) then (some h_4) else (z_ck h_4 a0 3).bind fun _ => (M_X2_dripFromLevel h_4 a0 x2_4).bind fun r6 => (rec4 (x2_4 + (-1 : Int32)) r6))) 700 (9 : Int32) h_3 else wl2 (fun rec8 (x3_8 : Int32) (h_8 : zH) => (if (24 : Int32) ≤ x3_8 then (rec3 (x2_3 + (1 : Int32)) h_8) else (z_ck h_8 a0 3).bind fun _ => (M_X2_land h_8 a0 x1 x3_8 x2_3 (10 : Int32)).bind fun r10 => (rec8 (x3_8 + (1 : Int32)) r10))) 700 (0 : Int32) h_3)) 700 (0 : Int32) r2
noncomputable def M_X2_fallenAt (h : zH) (a0 : Nat) (x1 : Int32) (x2 : Int32) : Option (Int32) := (M_X4_isCell x1 x2).bind fun r1 => (if r1 = 0 then (some (0 : Int32)) else (z_gR h a0 3 1).bind fun r2 => (z_aI h r2 ((x2 * (24 : Int32)) + x1)).bind fun r3 => (some r3))
set_option maxHeartbeats 4000000 in
set_option maxRecDepth 100000 in
theorem c_X2_init (l : Launch) (hl : l.stackTraces = false) (G : zG) (lo t0 : Nat) (h : zH) (nx : Nat) (a0 : Nat) (a1 : Nat) (o : zH × Nat) (hM : M_X2_init h nx a0 a1 = some o) : z_Met l yX2_init cX2_init 2 none 1 22 G lo t0 [.ref a0, .ref a1] h nx (.inr (none, o.1, o.2)) 2 586 := by
  refine z_of [(0, .ref a0), (1, .ref a1)] (by decide) (Nat.le_of_ble_eq_true rfl) rfl (fun p e s m below meth c C hin => ?_)
  unfold M_X2_init at hM
  refine z_aload_n (k := 0) (pc := 0) C dX2_init_0 rfl ?_
  refine z_obj (pc := 1) C q_58 q_11 q_12 (Nat.le_of_ble_eq_true rfl) (Nat.le_of_ble_eq_true rfl) dX2_init_1 ?_
  refine z_aload_n (k := 0) (pc := 4) C dX2_init_4 rfl ?_
  refine z_aload_n (k := 1) (pc := 5) C dX2_init_5 rfl ?_
  obtain ⟨h_1, g1, hM⟩ := Option.bind_eq_some_iff.mp hM
  refine z_putF (pc := 6) (k := 0) C g1 rfl inlX2 tyX2 tyX2_ok nmX2 (by decide) q_59 (fun _ h9 => h9) rfl hin rfl (tyX2_ok 0 (by decide)) rfl rfl dX2_init_6 ?_
  refine z_aload_n (k := 0) (pc := 9) C dX2_init_9 rfl ?_
  refine z_sipush (v := (576 : Int32)) (pc := 10) C dX2_init_10 (by decide) ?_
  refine z_newI (pc := 13) (n' := 576) C q_25 (by decide) (by decide) (by decide) (Nat.le_of_ble_eq_true rfl) (Nat.le_of_ble_eq_true rfl) dX2_init_13 ?_
  obtain ⟨h_2, g2, hM⟩ := Option.bind_eq_some_iff.mp hM
  refine z_putF (pc := 15) (k := 1) C g2 rfl inlX2 tyX2 tyX2_ok nmX2 (by decide) q_60 (fun _ h9 => h9) rfl hin rfl (tyX2_ok 1 (by decide)) rfl rfl dX2_init_15 ?_
  refine z_aload_n (k := 0) (pc := 18) C dX2_init_18 rfl ?_
  refine z_bipush (v := (10 : Int32)) (pc := 19) C dX2_init_19 (by decide) ?_
  refine z_newI (pc := 21) (n' := 10) C q_25 (by decide) (by decide) (by decide) (Nat.le_of_ble_eq_true rfl) (Nat.le_of_ble_eq_true rfl) dX2_init_21 ?_
  obtain ⟨h_3, g3, hM⟩ := Option.bind_eq_some_iff.mp hM
  refine z_putF (pc := 23) (k := 2) C g3 rfl inlX2 tyX2 tyX2_ok nmX2 (by decide) q_61 (fun _ h9 => h9) rfl hin rfl (tyX2_ok 2 (by decide)) rfl rfl dX2_init_23 ?_
  refine z_aload_n (k := 0) (pc := 26) C dX2_init_26 rfl ?_
  refine z_iconst (v := (0 : Int32)) (pc := 27) C dX2_init_27 (by decide) ?_
  obtain ⟨h_4, g4, hM⟩ := Option.bind_eq_some_iff.mp hM
  refine z_put (pc := 28) (k := 3) C g4 rfl inlX2 tyX2 tyX2_ok nmX2 (by decide) q_62 (fun _ h9 => h9) rfl (tyX2_ok 3 (by decide)) rfl rfl dX2_init_28 ?_
  refine z_aload_n (k := 0) (pc := 31) C dX2_init_31 rfl ?_
  refine z_iconst (v := (0 : Int32)) (pc := 32) C dX2_init_32 (by decide) ?_
  obtain ⟨h_5, g5, hM⟩ := Option.bind_eq_some_iff.mp hM
  refine z_put (pc := 33) (k := 4) C g5 rfl inlX2 tyX2 tyX2_ok nmX2 (by decide) q_63 (fun _ h9 => h9) rfl (tyX2_ok 4 (by decide)) rfl rfl dX2_init_33 ?_
  cases hM
  exact z_vret (pc := 36) C rfl (Nat.le_of_ble_eq_true rfl) (Nat.le_of_ble_eq_true rfl) dX2_init_36
set_option maxHeartbeats 4000000 in
set_option maxRecDepth 100000 in
theorem c_X2_dry (l : Launch) (hl : l.stackTraces = false) (G : zG) (lo t0 : Nat) (h : zH) (nx : Nat) (a0 : Nat) (o : zH) (hM : M_X2_dry h a0 = some o) : z_Met l yX2_dry cX2_dry 1 none 1 23 G lo t0 [.ref a0] h nx (.inr (none, o, nx)) 0 0 := by
  refine z_of [(0, .ref a0)] (by decide) (Nat.le_of_ble_eq_true rfl) rfl (fun p e s m below meth c C hin => ?_)
  unfold M_X2_dry at hM
  refine z_aload_n (k := 0) (pc := 0) C dX2_dry_0 rfl ?_
  obtain ⟨r1, g1, hM⟩ := Option.bind_eq_some_iff.mp hM
  refine z_getR (pc := 1) (k := 1) C g1 rfl inlX2 (by decide) q_60 (fun _ h9 => h9) dX2_dry_1 ?_
  refine z_iconst (v := (0 : Int32)) (pc := 4) C dX2_dry_4 (by decide) ?_
  obtain ⟨r2, g2, hM⟩ := Option.bind_eq_some_iff.mp hM
  refine z_goN (kc := 0) (ks := 0) ([]) (z_callS (pc := 5) (As := [.ref r1, .int (0 : Int32)]) (rest := []) (n := 2) C (c_J7_fill_53178 l hl G lo t0 h nx r1 (0 : Int32) r2 g2) q_338 q_197 q_172 q_198 ⟨by decide +kernel, by decide +kernel, by decide +kernel⟩ ⟨Nat.le_of_ble_eq_true rfl, Nat.le_of_ble_eq_true rfl⟩ rfl (Nat.le_of_ble_eq_true rfl) dX2_dry_5 ⟨(Nat.zero_le _), (Nat.zero_le _)⟩) rfl (Nat.le_of_ble_eq_true rfl) (Nat.le_of_ble_eq_true rfl) ?_
  refine z_aload_n (k := 0) (pc := 8) C dX2_dry_8 rfl ?_
  obtain ⟨r3, g3, hM⟩ := Option.bind_eq_some_iff.mp hM
  refine z_getR (pc := 9) (k := 2) C g3 rfl inlX2 (by decide) q_61 (fun _ h9 => h9) dX2_dry_9 ?_
  refine z_iconst (v := (0 : Int32)) (pc := 12) C dX2_dry_12 (by decide) ?_
  obtain ⟨r4, g4, hM⟩ := Option.bind_eq_some_iff.mp hM
  refine z_goN (kc := 0) (ks := 0) ([]) (z_callS (pc := 13) (As := [.ref r3, .int (0 : Int32)]) (rest := []) (n := 2) C (c_J7_fill_53178 l hl G lo t0 r2 nx r3 (0 : Int32) r4 g4) q_338 q_197 q_172 q_198 ⟨by decide +kernel, by decide +kernel, by decide +kernel⟩ ⟨Nat.le_of_ble_eq_true rfl, Nat.le_of_ble_eq_true rfl⟩ rfl (Nat.le_of_ble_eq_true rfl) dX2_dry_13 ⟨(Nat.zero_le _), (Nat.zero_le _)⟩) rfl (Nat.le_of_ble_eq_true rfl) (Nat.le_of_ble_eq_true rfl) ?_
  refine z_aload_n (k := 0) (pc := 16) C dX2_dry_16 rfl ?_
  refine z_iconst (v := (0 : Int32)) (pc := 17) C dX2_dry_17 (by decide) ?_
  obtain ⟨h_5, g5, hM⟩ := Option.bind_eq_some_iff.mp hM
  refine z_put (pc := 18) (k := 3) C g5 rfl inlX2 tyX2 tyX2_ok nmX2 (by decide) q_62 (fun _ h9 => h9) rfl (tyX2_ok 3 (by decide)) rfl rfl dX2_dry_18 ?_
  refine z_aload_n (k := 0) (pc := 21) C dX2_dry_21 rfl ?_
  refine z_iconst (v := (0 : Int32)) (pc := 22) C dX2_dry_22 (by decide) ?_
  obtain ⟨h_6, g6, hM⟩ := Option.bind_eq_some_iff.mp hM
  refine z_put (pc := 23) (k := 4) C g6 rfl inlX2 tyX2 tyX2_ok nmX2 (by decide) q_63 (fun _ h9 => h9) rfl (tyX2_ok 4 (by decide)) rfl rfl dX2_dry_23 ?_
  cases hM
  exact z_vret (pc := 26) C rfl (Nat.zero_le _) (Nat.zero_le _) dX2_dry_26
set_option maxHeartbeats 4000000 in
set_option maxRecDepth 100000 in
theorem c_X2_land (l : Launch) (hl : l.stackTraces = false) (G : zG) (lo t0 : Nat) (h : zH) (nx : Nat) (a0 : Nat) (x1 : Int32) (x2 : Int32) (x3 : Int32) (x4 : Int32) (o : zH) (hM : M_X2_land h a0 x1 x2 x3 x4 = some o) : z_Met l yX2_land cX2_land 6 none 4 91 G lo t0 [.ref a0, .int x1, .int x2, .int x3, .int x4] h nx (.inr (none, o, nx)) 0 0 := by
  refine z_of [(0, .ref a0), (1, .int x1), (2, .int x2), (3, .int x3), (4, .int x4)] (by decide) (Nat.le_of_ble_eq_true rfl) rfl (fun p e s m below meth c C hin => ?_)
  unfold M_X2_land at hM
  refine z_iload_n (k := 2) (pc := 0) C dX2_land_0 rfl ?_
  refine z_iload_n (k := 3) (pc := 1) C dX2_land_1 rfl ?_
  obtain ⟨r1, g1, hM⟩ := Option.bind_eq_some_iff.mp hM
  refine z_goN (kc := 0) (ks := 0) ([.int r1]) (z_callSN (pc := 2) (As := [.int x2, .int x3]) (rest := []) (n := 2) C (c_X4_isCell l hl G lo t0 h nx x2 x3 r1 g1) C.2.2.2.2.2.2.2.2.2.1 q_223 q_2 q_224 ⟨by decide +kernel, by decide +kernel, by decide +kernel⟩ ⟨Nat.le_of_ble_eq_true rfl, Nat.le_of_ble_eq_true rfl⟩ rfl (Nat.le_of_ble_eq_true rfl) dX2_land_2 ⟨(Nat.zero_le _), (Nat.zero_le _)⟩) rfl (Nat.le_of_ble_eq_true rfl) (Nat.le_of_ble_eq_true rfl) ?_
  refine z_if_ne (pc := 5) (tgt := 19) C dX2_land_5 (by decide) hM (fun hc20 hM => ?_) (fun hc20 hM => ?_)
  · refine z_aload_n (k := 0) (pc := 8) C dX2_land_8 rfl ?_
    refine z_dup (pc := 9) C dX2_land_9 rfl ?_
    obtain ⟨r18, g18, hM⟩ := Option.bind_eq_some_iff.mp hM
    refine z_getI (pc := 10) (k := 4) C g18 rfl inlX2 (by decide) q_63 (fun _ h9 => h9) dX2_land_10 ?_
    refine z_iload_n (k := 1) (pc := 13) C dX2_land_13 rfl ?_
    refine z_iadd (pc := 14) C dX2_land_14 ?_
    obtain ⟨h_19, g19, hM⟩ := Option.bind_eq_some_iff.mp hM
    refine z_put (pc := 15) (k := 4) C g19 rfl inlX2 tyX2 tyX2_ok nmX2 (by decide) q_63 (fun _ h9 => h9) rfl (tyX2_ok 4 (by decide)) rfl rfl dX2_land_15 ?_
    cases hM
    exact z_vret (pc := 18) C rfl (Nat.zero_le _) (Nat.zero_le _) dX2_land_18
  · refine z_aload_n (k := 0) (pc := 19) C dX2_land_19 rfl ?_
    obtain ⟨r2, g2, hM⟩ := Option.bind_eq_some_iff.mp hM
    refine z_getR (pc := 20) (k := 0) C g2 rfl inlX2 (by decide) q_59 (fun _ h9 => h9) dX2_land_20 ?_
    refine z_iload (k := 4) (pc := 23) C dX2_land_23 rfl ?_
    refine z_iload_n (k := 2) (pc := 25) C dX2_land_25 rfl ?_
    refine z_iload_n (k := 3) (pc := 26) C dX2_land_26 rfl ?_
    obtain ⟨_, g3, hM⟩ := Option.bind_eq_some_iff.mp hM
    obtain ⟨r4, g4, hM⟩ := Option.bind_eq_some_iff.mp hM
    refine z_goN (kc := 0) (ks := 0) ([.int r4]) (z_callV (pc := 27) (As := [.int x4, .int x2, .int x3]) (rest := []) (n := 3) (ci := 2) C (c_X1_highestBelow l hl G lo t0 h nx r2 x4 x2 x3 r4 g4) g3 rfl q_343 q_344 q_345 q_15 q_346 ⟨rfl, by decide +kernel, by decide +kernel, by decide +kernel⟩ ⟨Nat.le_of_ble_eq_true rfl, Nat.le_of_ble_eq_true rfl⟩ rfl (Nat.le_of_ble_eq_true rfl) dX2_land_27 ⟨(Nat.zero_le _), (Nat.zero_le _)⟩) rfl (Nat.le_of_ble_eq_true rfl) (Nat.le_of_ble_eq_true rfl) ?_
    refine z_istore (lv' := [(5, .int r4), (0, .ref a0), (1, .int x1), (2, .int x2), (3, .int x3), (4, .int x4)]) (pc := 30) C dX2_land_30 (by decide) rfl ?_
    refine z_iload (k := 0) (pc := 32) C dX2_land_32 rfl ?_
    refine zj0 0 0 61 ([(0, .ref a0), (1, .int x1), (2, .int x2), (3, .int x3)]) ([]) (h) (nx) hM (fun  hM => ?_) (fun J5 iJ5 hM => ?_)
    · refine z_aload_n (k := 0) (pc := 61) C dX2_land_61 rfl ?_
      obtain ⟨r6, g6, hM⟩ := Option.bind_eq_some_iff.mp hM
      refine z_getR (pc := 62) (k := 1) C g6 rfl inlX2 (by decide) q_60 (fun _ h9 => h9) dX2_land_62 ?_
      refine z_iload_n (k := 3) (pc := 65) C dX2_land_65 rfl ?_
      refine z_bipush (v := (24 : Int32)) (pc := 66) C dX2_land_66 (by decide) ?_
      refine z_imul (pc := 68) C dX2_land_68 ?_
      refine z_iload_n (k := 2) (pc := 69) C dX2_land_69 rfl ?_
      refine z_iadd (pc := 70) C dX2_land_70 ?_
      refine z_dup2 (pc := 71) C dX2_land_71 rfl rfl ?_
      obtain ⟨r7, g7, hM⟩ := Option.bind_eq_some_iff.mp hM
      refine z_iald (pc := 72) C g7 dX2_land_72 ?_
      refine z_iload_n (k := 1) (pc := 73) C dX2_land_73 rfl ?_
      refine z_iadd (pc := 74) C dX2_land_74 ?_
      obtain ⟨h_8, g8, hM⟩ := Option.bind_eq_some_iff.mp hM
      refine z_iast (pc := 75) C g8 dX2_land_75 ?_
      refine z_aload_n (k := 0) (pc := 76) C dX2_land_76 rfl ?_
      refine z_dup (pc := 77) C dX2_land_77 rfl ?_
      obtain ⟨r9, g9, hM⟩ := Option.bind_eq_some_iff.mp hM
      refine z_getI (pc := 78) (k := 3) C g9 rfl inlX2 (by decide) q_62 (fun _ h9 => h9) dX2_land_78 ?_
      refine z_iload_n (k := 1) (pc := 81) C dX2_land_81 rfl ?_
      refine z_iadd (pc := 82) C dX2_land_82 ?_
      obtain ⟨h_10, g10, hM⟩ := Option.bind_eq_some_iff.mp hM
      refine z_put (pc := 83) (k := 3) C g10 rfl inlX2 tyX2 tyX2_ok nmX2 (by decide) q_62 (fun _ h9 => h9) rfl (tyX2_ok 3 (by decide)) rfl rfl dX2_land_83 ?_
      cases hM
      exact z_vret (pc := 86) C rfl (Nat.zero_le _) (Nat.zero_le _) dX2_land_86
    refine z_if_lt (pc := 34) (tgt := 61) C dX2_land_34 (by decide) hM (fun hc17 hM => ?_) (fun hc17 hM => ?_)
    · exact z_sub [1, 2, 3, 4] rfl (iJ5 hM)
    · refine z_iload (k := 0) (pc := 37) C dX2_land_37 rfl ?_
      refine z_aload_n (k := 1) (pc := 39) C dX2_land_39 rfl ?_
      obtain ⟨r11, g11, hM⟩ := Option.bind_eq_some_iff.mp hM
      refine z_getR (pc := 40) (k := 2) C g11 rfl inlX2 (by decide) q_61 (fun _ h9 => h9) dX2_land_40 ?_
      obtain ⟨r12, g12, hM⟩ := Option.bind_eq_some_iff.mp hM
      refine z_alen (pc := 43) C g12 dX2_land_43 ?_
      refine z_icmp_ge (pc := 44) (tgt := 61) C dX2_land_44 (by decide) hM (fun hc16 hM => ?_) (fun hc16 hM => ?_)
      · exact z_sub [1, 2, 3, 4] rfl (iJ5 hM)
      · refine z_aload_n (k := 1) (pc := 47) C dX2_land_47 rfl ?_
        obtain ⟨r13, g13, hM⟩ := Option.bind_eq_some_iff.mp hM
        refine z_getR (pc := 48) (k := 2) C g13 rfl inlX2 (by decide) q_61 (fun _ h9 => h9) dX2_land_48 ?_
        refine z_iload (k := 0) (pc := 51) C dX2_land_51 rfl ?_
        refine z_dup2 (pc := 53) C dX2_land_53 rfl rfl ?_
        obtain ⟨r14, g14, hM⟩ := Option.bind_eq_some_iff.mp hM
        refine z_iald (pc := 54) C g14 dX2_land_54 ?_
        refine z_iload_n (k := 2) (pc := 55) C dX2_land_55 rfl ?_
        refine z_iadd (pc := 56) C dX2_land_56 ?_
        obtain ⟨h_15, g15, hM⟩ := Option.bind_eq_some_iff.mp hM
        refine z_iast (pc := 57) C g15 dX2_land_57 ?_
        refine z_goto (pc := 58) (tgt := 86) C dX2_land_58 (by decide) ?_
        cases hM
        exact z_vret (pc := 86) C rfl (Nat.zero_le _) (Nat.zero_le _) dX2_land_86
set_option maxHeartbeats 4000000 in
set_option maxRecDepth 100000 in
theorem c_X2_caughtBy (l : Launch) (hl : l.stackTraces = false) (G : zG) (lo t0 : Nat) (h : zH) (nx : Nat) (a0 : Nat) (x1 : Int32) (o : Int32) (hM : M_X2_caughtBy h a0 x1 = some o) : z_Met l yX2_caughtBy cX2_caughtBy 2 (some .int) 0 0 G lo t0 [.ref a0, .int x1] h nx (.inr (some (.int o), h, nx)) 0 0 := by
  refine z_of [(0, .ref a0), (1, .int x1)] (by decide) (Nat.le_of_ble_eq_true rfl) rfl (fun p e s m below meth c C hin => ?_)
  unfold M_X2_caughtBy at hM
  refine z_iload_n (k := 1) (pc := 0) C dX2_caughtBy_0 rfl ?_
  refine zj0 0 0 22 ([]) ([]) (h) (nx) hM (fun  hM => ?_) (fun J1 iJ1 hM => ?_)
  · refine z_iconst (v := (0 : Int32)) (pc := 22) C dX2_caughtBy_22 (by decide) ?_
    cases hM
    exact z_iret (pc := 23) C rfl (Nat.zero_le _) (Nat.zero_le _) dX2_caughtBy_23
  refine z_if_lt (pc := 1) (tgt := 22) C dX2_caughtBy_1 (by decide) hM (fun hc7 hM => ?_) (fun hc7 hM => ?_)
  · exact z_sub [] rfl (iJ1 hM)
  · refine z_iload_n (k := 1) (pc := 4) C dX2_caughtBy_4 rfl ?_
    refine z_aload_n (k := 0) (pc := 5) C dX2_caughtBy_5 rfl ?_
    obtain ⟨r2, g2, hM⟩ := Option.bind_eq_some_iff.mp hM
    refine z_getR (pc := 6) (k := 2) C g2 rfl inlX2 (by decide) q_61 (fun _ h9 => h9) dX2_caughtBy_6 ?_
    obtain ⟨r3, g3, hM⟩ := Option.bind_eq_some_iff.mp hM
    refine z_alen (pc := 9) C g3 dX2_caughtBy_9 ?_
    refine z_icmp_ge (pc := 10) (tgt := 22) C dX2_caughtBy_10 (by decide) hM (fun hc6 hM => ?_) (fun hc6 hM => ?_)
    · exact z_sub [] rfl (iJ1 hM)
    · refine z_aload_n (k := 0) (pc := 13) C dX2_caughtBy_13 rfl ?_
      obtain ⟨r4, g4, hM⟩ := Option.bind_eq_some_iff.mp hM
      refine z_getR (pc := 14) (k := 2) C g4 rfl inlX2 (by decide) q_61 (fun _ h9 => h9) dX2_caughtBy_14 ?_
      refine z_iload_n (k := 1) (pc := 17) C dX2_caughtBy_17 rfl ?_
      obtain ⟨r5, g5, hM⟩ := Option.bind_eq_some_iff.mp hM
      refine z_iald (pc := 18) C g5 dX2_caughtBy_18 ?_
      refine z_goto (pc := 19) (tgt := 23) C dX2_caughtBy_19 (by decide) ?_
      cases hM
      exact z_iret (pc := 23) C rfl (Nat.zero_le _) (Nat.zero_le _) dX2_caughtBy_23
set_option maxHeartbeats 4000000 in
set_option maxRecDepth 100000 in
theorem c_X2_drip (l : Launch) (hl : l.stackTraces = false) (G : zG) (lo t0 : Nat) (h : zH) (nx : Nat) (a0 : Nat) (a1 : Nat) (x2 : Int32) (o : zH) (hM : M_X2_drip h a0 a1 x2 = some o) : z_Met l yX2_drip cX2_drip 8 none 5 116 G lo t0 [.ref a0, .ref a1, .int x2] h nx (.inr (none, o, nx)) 0 0 := by
  refine z_of [(0, .ref a0), (1, .ref a1), (2, .int x2)] (by decide) (Nat.le_of_ble_eq_true rfl) rfl (fun p e s m below meth c C hin => ?_)
  unfold M_X2_drip at hM
  refine z_aload_n (k := 1) (pc := 0) C dX2_drip_0 rfl ?_
  obtain ⟨_, g1, hM⟩ := Option.bind_eq_some_iff.mp hM
  obtain ⟨r2, g2, hM⟩ := Option.bind_eq_some_iff.mp hM
  refine z_goN (kc := 0) (ks := 0) ([.int r2]) (z_callV (pc := 1) (As := []) (rest := []) (n := 0) (ci := 1) C (c_X0_cellsBeyond l hl G lo t0 h nx a1 r2 g2) g1 rfl q_368 q_369 q_370 q_107 q_371 ⟨rfl, by decide +kernel, by decide +kernel, by decide +kernel⟩ ⟨Nat.le_of_ble_eq_true rfl, Nat.le_of_ble_eq_true rfl⟩ rfl (Nat.le_of_ble_eq_true rfl) dX2_drip_1 ⟨(Nat.zero_le _), (Nat.zero_le _)⟩) rfl (Nat.le_of_ble_eq_true rfl) (Nat.le_of_ble_eq_true rfl) ?_
  refine z_istore_n (lv' := [(3, .int r2), (0, .ref a0), (1, .ref a1), (2, .int x2)]) (pc := 4) C dX2_drip_4 (by decide) rfl ?_
  refine z_iload_n (k := 0) (pc := 5) C dX2_drip_5 rfl ?_
  refine z_iconst (v := (1 : Int32)) (pc := 6) C dX2_drip_6 (by decide) ?_
  refine z_icmp_ge (pc := 7) (tgt := 11) C dX2_drip_7 (by decide) hM (fun hc15 hM => ?_) (fun hc15 hM => ?_)
  · refine z_iload_n (k := 3) (pc := 11) C dX2_drip_11 rfl ?_
    refine z_iload_n (k := 0) (pc := 12) C dX2_drip_12 rfl ?_
    obtain ⟨hc3, hM⟩ := z_gn hM
    refine z_idiv (pc := 13) C dX2_drip_13 hc3 ?_
    refine z_istore (lv' := [(4, .int (x2 / r2)), (3, .int r2), (0, .ref a0), (1, .ref a1), (2, .int x2)]) (pc := 14) C dX2_drip_14 (by decide) rfl ?_
    refine z_iload_n (k := 4) (pc := 16) C dX2_drip_16 rfl ?_
    refine z_iload_n (k := 1) (pc := 17) C dX2_drip_17 rfl ?_
    obtain ⟨hc4, hM⟩ := z_gn hM
    refine z_irem (pc := 18) C dX2_drip_18 hc4 ?_
    refine z_istore (lv' := [(5, .int (x2 - x2 / r2 * r2)), (4, .int (x2 / r2)), (3, .int r2), (0, .ref a0), (1, .ref a1), (2, .int x2)]) (pc := 19) C dX2_drip_19 (by decide) rfl ?_
    refine z_iconst (v := (0 : Int32)) (pc := 21) C dX2_drip_21 (by decide) ?_
    refine z_istore (lv' := [(6, .int (0 : Int32)), (5, .int (x2 - x2 / r2 * r2)), (4, .int (x2 / r2)), (3, .int r2), (0, .ref a0), (1, .ref a1), (2, .int x2)]) (pc := 22) C dX2_drip_22 (by decide) rfl ?_
    refine z_sub [4, 5, 3, 2, 1, 0] rfl (zl2 (fun (x6_5 : Int32) (h_5 : zH) => [(0, .ref a0), (1, .ref a1), (3, .int r2), (4, .int (x2 / r2)), (5, .int (x2 - x2 / r2 * r2)), (6, .int x6_5)]) (fun (x6_5 : Int32) (h_5 : zH) => h_5) (fun (x6_5 : Int32) (h_5 : zH) => nx) hM (fun rec5 irec5 x6_5 h_5 hM => ?_))
    refine z_iload (k := 5) (pc := 24) C dX2_drip_24 rfl ?_
    refine z_iload_n (k := 2) (pc := 26) C dX2_drip_26 rfl ?_
    refine z_icmp_ge (pc := 27) (tgt := 76) C dX2_drip_27 (by decide) hM (fun hc14 hM => ?_) (fun hc14 hM => ?_)
    · cases hM
      exact z_vret (pc := 76) C rfl (Nat.zero_le _) (Nat.zero_le _) dX2_drip_76
    · refine z_iload (k := 5) (pc := 30) C dX2_drip_30 rfl ?_
      refine z_iload (k := 4) (pc := 32) C dX2_drip_32 rfl ?_
      refine zj1 0 0 46 (fun (s0_6 : Int32) => [(0, .ref a0), (1, .ref a1), (3, .int r2), (4, .int (x2 / r2)), (5, .int (x2 - x2 / r2 * r2)), (6, .int x6_5)]) (fun (s0_6 : Int32) => [.int s0_6]) (fun (s0_6 : Int32) => h_5) (fun (s0_6 : Int32) => nx) hM (fun s0_6 hM => ?_) (fun J6 iJ6 hM => ?_)
      · refine z_istore (lv' := [(7, .int s0_6), (0, .ref a0), (1, .ref a1), (3, .int r2), (4, .int (x2 / r2)), (5, .int (x2 - x2 / r2 * r2)), (6, .int x6_5)]) (pc := 46) C dX2_drip_46 (by decide) rfl ?_
        refine z_aload_n (k := 1) (pc := 48) C dX2_drip_48 rfl ?_
        refine z_iload (k := 0) (pc := 49) C dX2_drip_49 rfl ?_
        refine z_aload_n (k := 2) (pc := 51) C dX2_drip_51 rfl ?_
        refine z_iload (k := 6) (pc := 52) C dX2_drip_52 rfl ?_
        obtain ⟨_, g7, hM⟩ := Option.bind_eq_some_iff.mp hM
        obtain ⟨r8, g8, hM⟩ := Option.bind_eq_some_iff.mp hM
        refine z_goN (kc := 0) (ks := 0) ([.int r8, .int s0_6, .ref a0]) (z_callV (pc := 54) (As := [.int x6_5]) (rest := [.int s0_6, .ref a0]) (n := 1) (ci := 1) C (c_X0_columnBeyond l hl G lo t0 h_5 nx a1 x6_5 r8 g8) g7 rfl q_376 q_377 q_378 q_107 q_379 ⟨rfl, by decide +kernel, by decide +kernel, by decide +kernel⟩ ⟨Nat.le_of_ble_eq_true rfl, Nat.le_of_ble_eq_true rfl⟩ rfl (Nat.le_of_ble_eq_true rfl) dX2_drip_54 ⟨(Nat.zero_le _), (Nat.zero_le _)⟩) rfl (Nat.le_of_ble_eq_true rfl) (Nat.le_of_ble_eq_true rfl) ?_
        refine z_aload_n (k := 2) (pc := 57) C dX2_drip_57 rfl ?_
        refine z_iload (k := 6) (pc := 58) C dX2_drip_58 rfl ?_
        obtain ⟨r9, g9, hM⟩ := Option.bind_eq_some_iff.mp hM
        refine z_goN (kc := 0) (ks := 0) ([.int r9, .int r8, .int s0_6, .ref a0]) (z_callV (pc := 60) (As := [.int x6_5]) (rest := [.int r8, .int s0_6, .ref a0]) (n := 1) (ci := 1) C (c_X0_rowBeyond l hl G lo t0 h_5 nx a1 x6_5 r9 g9) g7 rfl q_380 q_381 q_382 q_107 q_383 ⟨rfl, by decide +kernel, by decide +kernel, by decide +kernel⟩ ⟨Nat.le_of_ble_eq_true rfl, Nat.le_of_ble_eq_true rfl⟩ rfl (Nat.le_of_ble_eq_true rfl) dX2_drip_60 ⟨(Nat.zero_le _), (Nat.zero_le _)⟩) rfl (Nat.le_of_ble_eq_true rfl) (Nat.le_of_ble_eq_true rfl) ?_
        refine z_aload_n (k := 2) (pc := 63) C dX2_drip_63 rfl ?_
        obtain ⟨r10, g10, hM⟩ := Option.bind_eq_some_iff.mp hM
        refine z_getI (pc := 64) (k := 4) C g10 rfl inlX0 (by decide) q_357 (fun _ h9 => h9) dX2_drip_64 ?_
        obtain ⟨_, g11, hM⟩ := Option.bind_eq_some_iff.mp hM
        obtain ⟨r12, g12, hM⟩ := Option.bind_eq_some_iff.mp hM
        refine z_goN (kc := 0) (ks := 0) ([]) (z_callV (pc := 67) (As := [.int s0_6, .int r8, .int r9, .int r10]) (rest := []) (n := 4) (ci := 3) C (c_X2_land l hl G lo t0 h_5 nx a0 s0_6 r8 r9 r10 r12 g12) g11 rfl q_339 q_340 q_341 q_19 q_342 ⟨rfl, by decide +kernel, by decide +kernel, by decide +kernel⟩ ⟨Nat.le_of_ble_eq_true rfl, Nat.le_of_ble_eq_true rfl⟩ rfl (Nat.le_of_ble_eq_true rfl) dX2_drip_67 ⟨(Nat.zero_le _), (Nat.zero_le _)⟩) rfl (Nat.le_of_ble_eq_true rfl) (Nat.le_of_ble_eq_true rfl) ?_
        refine z_iinc (k := 6) (v := (x6_5 + (1 : Int32))) (lv' := [(6, .int (x6_5 + (1 : Int32))), (7, .int s0_6), (0, .ref a0), (1, .ref a1), (3, .int r2), (4, .int (x2 / r2)), (5, .int (x2 - x2 / r2 * r2))]) (pc := 70) C dX2_drip_70 rfl (by first | rfl | decide) (by decide) rfl ?_
        refine z_goto (pc := 73) (tgt := 24) C dX2_drip_73 (by decide) ?_
        exact z_sub [2, 3, 4, 5, 6, 0] rfl (irec5 (x6_5 + (1 : Int32)) r12 hM)
      refine z_icmp_ge (pc := 34) (tgt := 44) C dX2_drip_34 (by decide) hM (fun hc13 hM => ?_) (fun hc13 hM => ?_)
      · refine z_iload (k := 3) (pc := 44) C dX2_drip_44 rfl ?_
        exact z_sub [0, 1, 2, 3, 4, 5] rfl (iJ6 (x2 / r2) hM)
      · refine z_iload (k := 3) (pc := 37) C dX2_drip_37 rfl ?_
        refine z_iconst (v := (1 : Int32)) (pc := 39) C dX2_drip_39 (by decide) ?_
        refine z_iadd (pc := 40) C dX2_drip_40 ?_
        refine z_goto (pc := 41) (tgt := 46) C dX2_drip_41 (by decide) ?_
        exact z_sub [0, 1, 2, 3, 4, 5] rfl (iJ6 ((x2 / r2) + (1 : Int32)) hM)
  · cases hM
    exact z_vret (pc := 10) C rfl (Nat.zero_le _) (Nat.zero_le _) dX2_drip_10
set_option maxHeartbeats 4000000 in
set_option maxRecDepth 100000 in
theorem c_X2_dripFromLevel (l : Launch) (hl : l.stackTraces = false) (G : zG) (lo t0 : Nat) (h : zH) (nx : Nat) (a0 : Nat) (x1 : Int32) (o : zH) (hM : M_X2_dripFromLevel h a0 x1 = some o) : z_Met l yX2_dripFromLevel cX2_dripFromLevel 4 none 7 143 G lo t0 [.ref a0, .int x1] h nx (.inr (none, o, nx)) 0 0 := by
  refine z_of [(0, .ref a0), (1, .int x1)] (by decide) (Nat.le_of_ble_eq_true rfl) rfl (fun p e s m below meth c C hin => ?_)
  unfold M_X2_dripFromLevel at hM
  refine z_iconst (v := (0 : Int32)) (pc := 0) C dX2_dripFromLevel_0 (by decide) ?_
  refine z_istore_n (lv' := [(2, .int (0 : Int32)), (0, .ref a0), (1, .int x1)]) (pc := 1) C dX2_dripFromLevel_1 (by decide) rfl ?_
  refine z_sub [1, 2, 0] rfl (zl2 (fun (x2_1 : Int32) (h_1 : zH) => [(0, .ref a0), (1, .int x1), (2, .int x2_1)]) (fun (x2_1 : Int32) (h_1 : zH) => h_1) (fun (x2_1 : Int32) (h_1 : zH) => nx) hM (fun rec1 irec1 x2_1 h_1 hM => ?_))
  refine z_iload_n (k := 2) (pc := 2) C dX2_dripFromLevel_2 rfl ?_
  refine z_aload_n (k := 0) (pc := 3) C dX2_dripFromLevel_3 rfl ?_
  obtain ⟨r2, g2, hM⟩ := Option.bind_eq_some_iff.mp hM
  refine z_getR (pc := 4) (k := 0) C g2 rfl inlX2 (by decide) q_59 (fun _ h9 => h9) dX2_dripFromLevel_4 ?_
  obtain ⟨_, g3, hM⟩ := Option.bind_eq_some_iff.mp hM
  obtain ⟨r4, g4, hM⟩ := Option.bind_eq_some_iff.mp hM
  refine z_goN (kc := 0) (ks := 0) ([.int r4, .int x2_1]) (z_callV (pc := 7) (As := []) (rest := [.int x2_1]) (n := 0) (ci := 2) C (c_X1_size l hl G lo t0 h_1 nx r2 r4 g4) g3 rfl q_358 q_117 q_118 q_15 q_119 ⟨rfl, by decide +kernel, by decide +kernel, by decide +kernel⟩ ⟨Nat.le_of_ble_eq_true rfl, Nat.le_of_ble_eq_true rfl⟩ rfl (Nat.le_of_ble_eq_true rfl) dX2_dripFromLevel_7 ⟨(Nat.zero_le _), (Nat.zero_le _)⟩) rfl (Nat.le_of_ble_eq_true rfl) (Nat.le_of_ble_eq_true rfl) ?_
  refine z_icmp_ge (pc := 10) (tgt := 53) C dX2_dripFromLevel_10 (by decide) hM (fun hc16 hM => ?_) (fun hc16 hM => ?_)
  · cases hM
    exact z_vret (pc := 53) C rfl (Nat.zero_le _) (Nat.zero_le _) dX2_dripFromLevel_53
  · refine z_aload_n (k := 0) (pc := 13) C dX2_dripFromLevel_13 rfl ?_
    obtain ⟨r5, g5, hM⟩ := Option.bind_eq_some_iff.mp hM
    refine z_getR (pc := 14) (k := 0) C g5 rfl inlX2 (by decide) q_59 (fun _ h9 => h9) dX2_dripFromLevel_14 ?_
    refine z_iload_n (k := 2) (pc := 17) C dX2_dripFromLevel_17 rfl ?_
    obtain ⟨_, g6, hM⟩ := Option.bind_eq_some_iff.mp hM
    obtain ⟨r7, g7, hM⟩ := z_tn_c hM
    refine z_goN (kc := 0) (ks := 0) ([.ref r7]) (z_callV (pc := 18) (As := [.int x2_1]) (rest := []) (n := 1) (ci := 2) C (c_X1_numbered l hl G lo t0 h_1 nx r5 x2_1 (.inr r7) g7) g6 rfl q_359 q_231 q_232 q_15 q_233 ⟨rfl, by decide +kernel, by decide +kernel, by decide +kernel⟩ ⟨Nat.le_of_ble_eq_true rfl, Nat.le_of_ble_eq_true rfl⟩ rfl (Nat.le_of_ble_eq_true rfl) dX2_dripFromLevel_18 ⟨(Nat.zero_le _), (Nat.zero_le _)⟩) rfl (Nat.le_of_ble_eq_true rfl) (Nat.le_of_ble_eq_true rfl) ?_
    refine z_astore_n (lv' := [(3, .ref r7), (0, .ref a0), (1, .int x1), (2, .int x2_1)]) (pc := 21) C dX2_dripFromLevel_21 (by decide) rfl ?_
    refine z_aload_n (k := 0) (pc := 22) C dX2_dripFromLevel_22 rfl ?_
    obtain ⟨r8, g8, hM⟩ := Option.bind_eq_some_iff.mp hM
    refine z_getI (pc := 23) (k := 6) C g8 rfl inlX0 (by decide) q_356 (fun _ h9 => h9) dX2_dripFromLevel_23 ?_
    refine zj1 0 0 47 (fun (h_9 : zH) => [(0, .ref a0), (1, .int x1), (2, .int x2_1)]) (fun (h_9 : zH) => []) (fun (h_9 : zH) => h_9) (fun (h_9 : zH) => nx) hM (fun h_9 hM => ?_) (fun J9 iJ9 hM => ?_)
    · refine z_iinc (k := 2) (v := (x2_1 + (1 : Int32))) (lv' := [(2, .int (x2_1 + (1 : Int32))), (0, .ref a0), (1, .int x1)]) (pc := 47) C dX2_dripFromLevel_47 rfl (by first | rfl | decide) (by decide) rfl ?_
      refine z_goto (pc := 50) (tgt := 2) C dX2_dripFromLevel_50 (by decide) ?_
      exact z_sub [1, 2, 0] rfl (irec1 (x2_1 + (1 : Int32)) h_9 hM)
    refine z_if_eq (pc := 26) (tgt := 47) C dX2_dripFromLevel_26 (by decide) hM (fun hc15 hM => ?_) (fun hc15 hM => ?_)
    · exact z_sub [1, 2, 3] rfl (iJ9 h_1 hM)
    · refine z_aload_n (k := 0) (pc := 29) C dX2_dripFromLevel_29 rfl ?_
      obtain ⟨r10, g10, hM⟩ := Option.bind_eq_some_iff.mp hM
      refine z_getI (pc := 30) (k := 4) C g10 rfl inlX0 (by decide) q_357 (fun _ h9 => h9) dX2_dripFromLevel_30 ?_
      refine z_iload_n (k := 2) (pc := 33) C dX2_dripFromLevel_33 rfl ?_
      refine z_icmp_ne (pc := 34) (tgt := 47) C dX2_dripFromLevel_34 (by decide) hM (fun hc14 hM => ?_) (fun hc14 hM => ?_)
      · refine z_aload_n (k := 1) (pc := 37) C dX2_dripFromLevel_37 rfl ?_
        refine z_aload_n (k := 0) (pc := 38) C dX2_dripFromLevel_38 rfl ?_
        refine z_aload_n (k := 1) (pc := 39) C dX2_dripFromLevel_39 rfl ?_
        refine z_iload_n (k := 3) (pc := 40) C dX2_dripFromLevel_40 rfl ?_
        obtain ⟨_, g11, hM⟩ := Option.bind_eq_some_iff.mp hM
        obtain ⟨r12, g12, hM⟩ := Option.bind_eq_some_iff.mp hM
        refine z_goN (kc := 0) (ks := 0) ([.int r12, .ref r7, .ref a0]) (z_callV (pc := 41) (As := [.int x2_1]) (rest := [.ref r7, .ref a0]) (n := 1) (ci := 3) C (c_X2_caughtBy l hl G lo t0 h_1 nx a0 x2_1 r12 g12) g11 rfl q_360 q_361 q_362 q_19 q_363 ⟨rfl, by decide +kernel, by decide +kernel, by decide +kernel⟩ ⟨Nat.le_of_ble_eq_true rfl, Nat.le_of_ble_eq_true rfl⟩ rfl (Nat.le_of_ble_eq_true rfl) dX2_dripFromLevel_41 ⟨(Nat.zero_le _), (Nat.zero_le _)⟩) rfl (Nat.le_of_ble_eq_true rfl) (Nat.le_of_ble_eq_true rfl) ?_
        obtain ⟨r13, g13, hM⟩ := Option.bind_eq_some_iff.mp hM
        refine z_goN (kc := 0) (ks := 0) ([]) (z_callV (pc := 44) (As := [.ref r7, .int r12]) (rest := []) (n := 2) (ci := 3) C (c_X2_drip l hl G lo t0 h_1 nx a0 r7 r12 r13 g13) g11 rfl q_364 q_365 q_366 q_19 q_367 ⟨rfl, by decide +kernel, by decide +kernel, by decide +kernel⟩ ⟨Nat.le_of_ble_eq_true rfl, Nat.le_of_ble_eq_true rfl⟩ rfl (Nat.le_of_ble_eq_true rfl) dX2_dripFromLevel_44 ⟨(Nat.zero_le _), (Nat.zero_le _)⟩) rfl (Nat.le_of_ble_eq_true rfl) (Nat.le_of_ble_eq_true rfl) ?_
        exact z_sub [1, 2, 3] rfl (iJ9 r13 hM)
      · exact z_sub [1, 2, 3] rfl (iJ9 h_1 hM)
set_option maxHeartbeats 4000000 in
set_option maxRecDepth 100000 in
theorem c_X2_pour (l : Launch) (hl : l.stackTraces = false) (G : zG) (lo t0 : Nat) (h : zH) (nx : Nat) (a0 : Nat) (x1 : Int32) (o : zH) (hM : M_X2_pour h a0 x1 = some o) : z_Met l yX2_pour cX2_pour 4 none 8 166 G lo t0 [.ref a0, .int x1] h nx (.inr (none, o, nx)) 0 0 := by
  refine z_of [(0, .ref a0), (1, .int x1)] (by decide) (Nat.le_of_ble_eq_true rfl) rfl (fun p e s m below meth c C hin => ?_)
  unfold M_X2_pour at hM
  refine z_aload_n (k := 0) (pc := 0) C dX2_pour_0 rfl ?_
  obtain ⟨_, g1, hM⟩ := Option.bind_eq_some_iff.mp hM
  obtain ⟨r2, g2, hM⟩ := Option.bind_eq_some_iff.mp hM
  refine z_goN (kc := 0) (ks := 0) ([]) (z_callV (pc := 1) (As := []) (rest := []) (n := 0) (ci := 3) C (c_X2_dry l hl G lo t0 h nx a0 r2 g2) g1 rfl q_334 q_335 q_336 q_19 q_337 ⟨rfl, by decide +kernel, by decide +kernel, by decide +kernel⟩ ⟨Nat.le_of_ble_eq_true rfl, Nat.le_of_ble_eq_true rfl⟩ rfl (Nat.le_of_ble_eq_true rfl) dX2_pour_1 ⟨(Nat.zero_le _), (Nat.zero_le _)⟩) rfl (Nat.le_of_ble_eq_true rfl) (Nat.le_of_ble_eq_true rfl) ?_
  refine z_iconst (v := (0 : Int32)) (pc := 4) C dX2_pour_4 (by decide) ?_
  refine z_istore_n (lv' := [(2, .int (0 : Int32)), (0, .ref a0), (1, .int x1)]) (pc := 5) C dX2_pour_5 (by decide) rfl ?_
  refine z_sub [1, 2, 0] rfl (zl2 (fun (x2_3 : Int32) (h_3 : zH) => [(0, .ref a0), (1, .int x1), (2, .int x2_3)]) (fun (x2_3 : Int32) (h_3 : zH) => h_3) (fun (x2_3 : Int32) (h_3 : zH) => nx) hM (fun rec3 irec3 x2_3 h_3 hM => ?_))
  refine z_iload_n (k := 2) (pc := 6) C dX2_pour_6 rfl ?_
  refine z_bipush (v := (24 : Int32)) (pc := 7) C dX2_pour_7 (by decide) ?_
  refine z_icmp_ge (pc := 9) (tgt := 41) C dX2_pour_9 (by decide) hM (fun hc12 hM => ?_) (fun hc12 hM => ?_)
  · refine z_bipush (v := (9 : Int32)) (pc := 41) C dX2_pour_41 (by decide) ?_
    refine z_istore_n (lv' := [(2, .int (9 : Int32)), (0, .ref a0), (1, .int x1)]) (pc := 43) C dX2_pour_43 (by decide) rfl ?_
    refine z_sub [1, 0] rfl (zl2 (fun (x2_4 : Int32) (h_4 : zH) => [(0, .ref a0), (2, .int x2_4)]) (fun (x2_4 : Int32) (h_4 : zH) => h_4) (fun (x2_4 : Int32) (h_4 : zH) => nx) hM (fun rec4 irec4 x2_4 h_4 hM => ?_))
    refine z_iload_n (k := 1) (pc := 44) C dX2_pour_44 rfl ?_
    refine z_iconst (v := (1 : Int32)) (pc := 45) C dX2_pour_45 (by decide) ?_
    refine z_icmp_lt (pc := 46) (tgt := 60) C dX2_pour_46 (by decide) hM (fun hc7 hM => ?_) (fun hc7 hM => ?_)
    · cases hM
      exact z_vret (pc := 60) C rfl (Nat.zero_le _) (Nat.zero_le _) dX2_pour_60
    · refine z_aload_n (k := 0) (pc := 49) C dX2_pour_49 rfl ?_
      refine z_iload_n (k := 1) (pc := 50) C dX2_pour_50 rfl ?_
      obtain ⟨_, g5, hM⟩ := Option.bind_eq_some_iff.mp hM
      obtain ⟨r6, g6, hM⟩ := Option.bind_eq_some_iff.mp hM
      refine z_goN (kc := 0) (ks := 0) ([]) (z_callV (pc := 51) (As := [.int x2_4]) (rest := []) (n := 1) (ci := 3) C (c_X2_dripFromLevel l hl G lo t0 h_4 nx a0 x2_4 r6 g6) g5 rfl q_352 q_353 q_354 q_19 q_355 ⟨rfl, by decide +kernel, by decide +kernel, by decide +kernel⟩ ⟨Nat.le_of_ble_eq_true rfl, Nat.le_of_ble_eq_true rfl⟩ rfl (Nat.le_of_ble_eq_true rfl) dX2_pour_51 ⟨(Nat.zero_le _), (Nat.zero_le _)⟩) rfl (Nat.le_of_ble_eq_true rfl) (Nat.le_of_ble_eq_true rfl) ?_
      refine z_iinc (k := 1) (v := (x2_4 + (-1 : Int32))) (lv' := [(2, .int (x2_4 + (-1 : Int32))), (0, .ref a0)]) (pc := 54) C dX2_pour_54 rfl (by first | rfl | decide) (by decide) rfl ?_
      refine z_goto (pc := 57) (tgt := 44) C dX2_pour_57 (by decide) ?_
      exact z_sub [1, 0] rfl (irec4 (x2_4 + (-1 : Int32)) r6 hM)
  · refine z_iconst (v := (0 : Int32)) (pc := 12) C dX2_pour_12 (by decide) ?_
    refine z_istore_n (lv' := [(3, .int (0 : Int32)), (0, .ref a0), (1, .int x1), (2, .int x2_3)]) (pc := 13) C dX2_pour_13 (by decide) rfl ?_
    refine z_sub [1, 2, 3, 0] rfl (zl2 (fun (x3_8 : Int32) (h_8 : zH) => [(0, .ref a0), (1, .int x1), (2, .int x2_3), (3, .int x3_8)]) (fun (x3_8 : Int32) (h_8 : zH) => h_8) (fun (x3_8 : Int32) (h_8 : zH) => nx) hM (fun rec8 irec8 x3_8 h_8 hM => ?_))
    refine z_iload_n (k := 3) (pc := 14) C dX2_pour_14 rfl ?_
    refine z_bipush (v := (24 : Int32)) (pc := 15) C dX2_pour_15 (by decide) ?_
    refine z_icmp_ge (pc := 17) (tgt := 35) C dX2_pour_17 (by decide) hM (fun hc11 hM => ?_) (fun hc11 hM => ?_)
    · refine z_iinc (k := 2) (v := (x2_3 + (1 : Int32))) (lv' := [(2, .int (x2_3 + (1 : Int32))), (0, .ref a0), (1, .int x1), (3, .int x3_8)]) (pc := 35) C dX2_pour_35 rfl (by first | rfl | decide) (by decide) rfl ?_
      refine z_goto (pc := 38) (tgt := 6) C dX2_pour_38 (by decide) ?_
      exact z_sub [1, 2, 0] rfl (irec3 (x2_3 + (1 : Int32)) h_8 hM)
    · refine z_aload_n (k := 0) (pc := 20) C dX2_pour_20 rfl ?_
      refine z_iload_n (k := 1) (pc := 21) C dX2_pour_21 rfl ?_
      refine z_iload_n (k := 3) (pc := 22) C dX2_pour_22 rfl ?_
      refine z_iload_n (k := 2) (pc := 23) C dX2_pour_23 rfl ?_
      refine z_bipush (v := (10 : Int32)) (pc := 24) C dX2_pour_24 (by decide) ?_
      obtain ⟨_, g9, hM⟩ := Option.bind_eq_some_iff.mp hM
      obtain ⟨r10, g10, hM⟩ := Option.bind_eq_some_iff.mp hM
      refine z_goN (kc := 0) (ks := 0) ([]) (z_callV (pc := 26) (As := [.int x1, .int x3_8, .int x2_3, .int (10 : Int32)]) (rest := []) (n := 4) (ci := 3) C (c_X2_land l hl G lo t0 h_8 nx a0 x1 x3_8 x2_3 (10 : Int32) r10 g10) g9 rfl q_339 q_340 q_341 q_19 q_342 ⟨rfl, by decide +kernel, by decide +kernel, by decide +kernel⟩ ⟨Nat.le_of_ble_eq_true rfl, Nat.le_of_ble_eq_true rfl⟩ rfl (Nat.le_of_ble_eq_true rfl) dX2_pour_26 ⟨(Nat.zero_le _), (Nat.zero_le _)⟩) rfl (Nat.le_of_ble_eq_true rfl) (Nat.le_of_ble_eq_true rfl) ?_
      refine z_iinc (k := 3) (v := (x3_8 + (1 : Int32))) (lv' := [(3, .int (x3_8 + (1 : Int32))), (0, .ref a0), (1, .int x1), (2, .int x2_3)]) (pc := 29) C dX2_pour_29 rfl (by first | rfl | decide) (by decide) rfl ?_
      refine z_goto (pc := 32) (tgt := 14) C dX2_pour_32 (by decide) ?_
      exact z_sub [1, 2, 3, 0] rfl (irec8 (x3_8 + (1 : Int32)) r10 hM)
set_option maxHeartbeats 4000000 in
set_option maxRecDepth 100000 in
theorem c_X2_fallenAt (l : Launch) (hl : l.stackTraces = false) (G : zG) (lo t0 : Nat) (h : zH) (nx : Nat) (a0 : Nat) (x1 : Int32) (x2 : Int32) (o : Int32) (hM : M_X2_fallenAt h a0 x1 x2 = some o) : z_Met l yX2_fallenAt cX2_fallenAt 3 (some .int) 1 21 G lo t0 [.ref a0, .int x1, .int x2] h nx (.inr (some (.int o), h, nx)) 0 0 := by
  refine z_of [(0, .ref a0), (1, .int x1), (2, .int x2)] (by decide) (Nat.le_of_ble_eq_true rfl) rfl (fun p e s m below meth c C hin => ?_)
  unfold M_X2_fallenAt at hM
  refine z_iload_n (k := 1) (pc := 0) C dX2_fallenAt_0 rfl ?_
  refine z_iload_n (k := 2) (pc := 1) C dX2_fallenAt_1 rfl ?_
  obtain ⟨r1, g1, hM⟩ := Option.bind_eq_some_iff.mp hM
  refine z_goN (kc := 0) (ks := 0) ([.int r1]) (z_callSN (pc := 2) (As := [.int x1, .int x2]) (rest := []) (n := 2) C (c_X4_isCell l hl G lo t0 h nx x1 x2 r1 g1) C.2.2.2.2.2.2.2.2.2.1 q_223 q_2 q_224 ⟨by decide +kernel, by decide +kernel, by decide +kernel⟩ ⟨Nat.le_of_ble_eq_true rfl, Nat.le_of_ble_eq_true rfl⟩ rfl (Nat.le_of_ble_eq_true rfl) dX2_fallenAt_2 ⟨(Nat.zero_le _), (Nat.zero_le _)⟩) rfl (Nat.le_of_ble_eq_true rfl) (Nat.le_of_ble_eq_true rfl) ?_
  refine z_if_eq (pc := 5) (tgt := 22) C dX2_fallenAt_5 (by decide) hM (fun hc4 hM => ?_) (fun hc4 hM => ?_)
  · refine z_iconst (v := (0 : Int32)) (pc := 22) C dX2_fallenAt_22 (by decide) ?_
    cases hM
    exact z_iret (pc := 23) C rfl (Nat.zero_le _) (Nat.zero_le _) dX2_fallenAt_23
  · refine z_aload_n (k := 0) (pc := 8) C dX2_fallenAt_8 rfl ?_
    obtain ⟨r2, g2, hM⟩ := Option.bind_eq_some_iff.mp hM
    refine z_getR (pc := 9) (k := 1) C g2 rfl inlX2 (by decide) q_60 (fun _ h9 => h9) dX2_fallenAt_9 ?_
    refine z_iload_n (k := 2) (pc := 12) C dX2_fallenAt_12 rfl ?_
    refine z_bipush (v := (24 : Int32)) (pc := 13) C dX2_fallenAt_13 (by decide) ?_
    refine z_imul (pc := 15) C dX2_fallenAt_15 ?_
    refine z_iload_n (k := 1) (pc := 16) C dX2_fallenAt_16 rfl ?_
    refine z_iadd (pc := 17) C dX2_fallenAt_17 ?_
    obtain ⟨r3, g3, hM⟩ := Option.bind_eq_some_iff.mp hM
    refine z_iald (pc := 18) C g3 dX2_fallenAt_18 ?_
    refine z_goto (pc := 19) (tgt := 23) C dX2_fallenAt_19 (by decide) ?_
    cases hM
    exact z_iret (pc := 23) C rfl (Nat.zero_le _) (Nat.zero_le _) dX2_fallenAt_23
