/-! by program out of the bytecode (wip/whole/gen.py): the mirrors, then the walks -/
noncomputable def M_Jxa1e45_init_da8c8 (a0 : Nat) : Option (Unit) := (some ())
noncomputable def M_Jxc12de_init_da8c8 (h : zH) (a0 : Nat) : Option (zH) := (M_Jxa1e45_init_da8c8 a0).bind fun r1 => (z_pV h a0 0 0 (.int (0 : Int32))).bind fun h_2 => (some h_2)
noncomputable def M_Jx4a65c_init_da8c8 (h : zH) (t0 : Nat) (a0 : Nat) : Option (zH) := (M_Jxc12de_init_da8c8 h a0).bind fun r1 => (z_pV r1 a0 0 1 (.ref t0)).bind fun h_2 => (some h_2)
noncomputable def M_Jx4a65c_size_8abf5 (h : zH) (a0 : Nat) : Option (Int32) := (z_gI h a0 0 2).bind fun r1 => (some r1)
noncomputable def M_J3_checkIndex_8e157 (x0 : Int32) (x1 : Int32) : Option (Int32) := (if x0 < 0 then none else (if x0 < x1 then (some x0) else none))
noncomputable def M_J15_checkIndex_7cf53 (x0 : Int32) (x1 : Int32) : Option (Int32) := (M_J3_checkIndex_8e157 x0 x1).bind fun r1 => (some r1)
noncomputable def M_Jx4a65c_elementData_915e3 (h : zH) (a0 : Nat) (x1 : Int32) : Option (Nat) := (z_gR h a0 0 1).bind fun r1 => (z_aR h r1 x1).bind fun r2 => (some r2)
noncomputable def M_Jx4a65c_get_915e3 (h : zH) (a0 : Nat) (x1 : Int32) : Option (Nat) := (z_gI h a0 0 2).bind fun r1 => (M_J15_checkIndex_7cf53 x1 r1).bind fun r2 => (z_ck h a0 0).bind fun _ => (M_Jx4a65c_elementData_915e3 h a0 x1).bind fun r4 => (some r4)
noncomputable def M_Jx4a65c_grow_92f84 (h : zH) (nx : Nat) (t0 : Nat) (a0 : Nat) (x1 : Int32) : Option (Nat × zH × Nat) := (z_gR h a0 0 1).bind fun r1 => (z_al h r1).bind fun r2 => (if 0 < r2 then none else (z_gR h a0 0 1).bind fun r3 => (if r3 = t0 then (if (if (10 : Int32) < x1 then x1 else (10 : Int32)) = 10 then (z_pV (z_up h nx (zQ 10 (fun _ => none))) a0 0 1 (.ref nx)).bind fun h_5 => (some (nx, h_5, (nx + 1))) else none) else none))
noncomputable def M_Jx4a65c_grow_d5877 (h : zH) (nx : Nat) (t0 : Nat) (a0 : Nat) : Option (Nat × zH × Nat) := (z_gI h a0 0 2).bind fun r1 => (z_ck h a0 0).bind fun _ => (M_Jx4a65c_grow_92f84 h nx t0 a0 (r1 + (1 : Int32))).bind fun r3 => (some (r3.1, r3.2.1, r3.2.2))
noncomputable def M_Jx4a65c_add_72be8 (h : zH) (nx : Nat) (t0 : Nat) (a0 : Nat) (a1 : Nat) (a2 : Nat) (x3 : Int32) : Option (zH × Nat) := (z_al h a2).bind fun r1 => jn3 (fun (a2_2 : Nat) (h_2 : zH) (n_2 : Nat) => (z_sE h_2 a2_2 x3 a1).bind fun h_3 => (z_pV h_3 a0 0 2 (.int (x3 + (1 : Int32)))).bind fun h_4 => (some (h_4, n_2))) fun J2 => (if x3 = r1 then (z_ck h a0 0).bind fun _ => (M_Jx4a65c_grow_d5877 h nx t0 a0).bind fun r6 => (J2 r6.1 r6.2.1 r6.2.2) else (J2 a2 h nx))
noncomputable def M_Jx4a65c_add_9ea2d (h : zH) (nx : Nat) (t0 : Nat) (a0 : Nat) (a1 : Nat) : Option (Int32 × zH × Nat) := (z_gI h a0 0 0).bind fun r1 => (z_pV h a0 0 0 (.int (r1 + (1 : Int32)))).bind fun h_2 => (z_gR h_2 a0 0 1).bind fun r3 => (z_gI h_2 a0 0 2).bind fun r4 => (z_ck h_2 a0 0).bind fun _ => (M_Jx4a65c_add_72be8 h_2 nx t0 a0 a1 r3 r4).bind fun r6 => (some ((1 : Int32), r6.1, r6.2))
noncomputable def M_J7_fill_53178 (h : zH) (a0 : Nat) (x1 : Int32) : Option (zH) := (z_al h a0).bind fun r1 => wl2 (fun rec2 (x2_2 : Int32) (h_2 : zH) => (if r1 ≤ x2_2 then (some h_2) else (z_sI h_2 a0 x2_2 x1).bind fun h_3 => (rec2 (x2_2 + (1 : Int32)) h_3))) 700 (0 : Int32) h
noncomputable def M_Jx4a65c_fastRemove_b59b0 (h : zH) (a0 : Nat) (a1 : Nat) (x2 : Int32) : Option (zH) := (z_gI h a0 0 0).bind fun r1 => (z_pV h a0 0 0 (.int (r1 + (1 : Int32)))).bind fun h_2 => (z_gI h_2 a0 0 2).bind fun r3 => jn1 (fun (h_4 : zH) => (z_pV h_4 a0 0 2 (.int (r3 - (1 : Int32)))).bind fun h_5 => (z_sR h_5 a1 (r3 - (1 : Int32)) none).bind fun h_6 => (some h_6)) fun J4 => (if (r3 - (1 : Int32)) ≤ x2 then (J4 h_2) else (z_cpQ h_2 a1 (x2 + (1 : Int32)) a1 x2 ((r3 - (1 : Int32)) - x2)).bind fun h_7 => (J4 h_7))
noncomputable def M_Jx4a65c_remove_915e3 (h : zH) (a0 : Nat) (x1 : Int32) : Option (Nat × zH) := (z_gI h a0 0 2).bind fun r1 => (M_J15_checkIndex_7cf53 x1 r1).bind fun r2 => (z_gR h a0 0 1).bind fun r3 => (z_aR h r3 x1).bind fun r4 => (z_ck h a0 0).bind fun _ => (M_Jx4a65c_fastRemove_b59b0 h a0 r3 x1).bind fun r6 => (some (r4, r6))
set_option maxHeartbeats 4000000 in
set_option maxRecDepth 100000 in
theorem c_Jxa1e45_init_da8c8 (l : Launch) (hl : l.stackTraces = false) (G : zG) (lo t0 : Nat) (h : zH) (nx : Nat) (a0 : Nat) (o : Unit) (hM : M_Jxa1e45_init_da8c8 a0 = some o) : z_Met l yJxa1e45_init_da8c8 cJxa1e45_init_da8c8 1 none 1 22 G lo t0 [.ref a0] h nx (.inr (none, h, nx)) 0 0 := by
  refine z_of [(0, .ref a0)] (by decide) (Nat.le_of_ble_eq_true rfl) rfl (fun p e s m below meth c C hin => ?_)
  unfold M_Jxa1e45_init_da8c8 at hM
  refine z_aload_n (k := 0) (pc := 0) C dJxa1e45_init_da8c8_0 rfl ?_
  refine z_obj (pc := 1) C q_54 q_11 q_12 (Nat.le_of_ble_eq_true rfl) (Nat.le_of_ble_eq_true rfl) dJxa1e45_init_da8c8_1 ?_
  cases hM
  exact z_vret (pc := 4) C rfl (Nat.zero_le _) (Nat.zero_le _) dJxa1e45_init_da8c8_4
set_option maxHeartbeats 4000000 in
set_option maxRecDepth 100000 in
theorem c_Jxc12de_init_da8c8 (l : Launch) (hl : l.stackTraces = false) (G : zG) (lo t0 : Nat) (h : zH) (nx : Nat) (a0 : Nat) (o : zH) (hM : M_Jxc12de_init_da8c8 h a0 = some o) : z_Met l yJxc12de_init_da8c8 cJxc12de_init_da8c8 1 none 2 42 G lo t0 [.ref a0] h nx (.inr (none, o, nx)) 0 0 := by
  refine z_of [(0, .ref a0)] (by decide) (Nat.le_of_ble_eq_true rfl) rfl (fun p e s m below meth c C hin => ?_)
  unfold M_Jxc12de_init_da8c8 at hM
  refine z_aload_n (k := 0) (pc := 0) C dJxc12de_init_da8c8_0 rfl ?_
  obtain ⟨r1, g1, hM⟩ := Option.bind_eq_some_iff.mp hM
  refine z_goN (kc := 0) (ks := 0) ([]) (z_callI (pc := 1) (As := []) (rest := []) (n := 0) C (c_Jxa1e45_init_da8c8 l hl G lo t0 h nx a0 r1 g1) rfl q_50 q_51 q_52 q_53 ⟨by decide +kernel, by decide +kernel, by decide +kernel⟩ ⟨Nat.le_of_ble_eq_true rfl, Nat.le_of_ble_eq_true rfl⟩ rfl (Nat.le_of_ble_eq_true rfl) dJxc12de_init_da8c8_1 ⟨(Nat.zero_le _), (Nat.zero_le _)⟩) rfl (Nat.le_of_ble_eq_true rfl) (Nat.le_of_ble_eq_true rfl) ?_
  refine z_aload_n (k := 0) (pc := 4) C dJxc12de_init_da8c8_4 rfl ?_
  refine z_iconst (v := (0 : Int32)) (pc := 5) C dJxc12de_init_da8c8_5 (by decide) ?_
  obtain ⟨h_2, g2, hM⟩ := Option.bind_eq_some_iff.mp hM
  refine z_put (pc := 6) (k := 0) C g2 rfl inlJx4a65c tyJx4a65c tyJx4a65c_ok nmJx4a65c (by decide) q_49 (fun _ h9 => h9) rfl (tyJx4a65c_ok 0 (by decide)) rfl rfl dJxc12de_init_da8c8_6 ?_
  cases hM
  exact z_vret (pc := 9) C rfl (Nat.zero_le _) (Nat.zero_le _) dJxc12de_init_da8c8_9
set_option maxHeartbeats 4000000 in
set_option maxRecDepth 100000 in
theorem c_Jx4a65c_init_da8c8 (l : Launch) (hl : l.stackTraces = false) (G : zG) (lo t0 : Nat) (h : zH) (nx : Nat) (a0 : Nat) (o : zH) (hM : M_Jx4a65c_init_da8c8 h t0 a0 = some o) : z_Met l yJx4a65c_init_da8c8 cJx4a65c_init_da8c8 1 none 3 62 G lo t0 [.ref a0] h nx (.inr (none, o, nx)) 0 0 := by
  refine z_of [(0, .ref a0)] (by decide) (Nat.le_of_ble_eq_true rfl) rfl (fun p e s m below meth c C hin => ?_)
  unfold M_Jx4a65c_init_da8c8 at hM
  refine z_aload_n (k := 0) (pc := 0) C dJx4a65c_init_da8c8_0 rfl ?_
  obtain ⟨r1, g1, hM⟩ := Option.bind_eq_some_iff.mp hM
  refine z_goN (kc := 0) (ks := 0) ([]) (z_callI (pc := 1) (As := []) (rest := []) (n := 0) C (c_Jxc12de_init_da8c8 l hl G lo t0 h nx a0 r1 g1) rfl q_45 q_46 q_47 q_48 ⟨by decide +kernel, by decide +kernel, by decide +kernel⟩ ⟨Nat.le_of_ble_eq_true rfl, Nat.le_of_ble_eq_true rfl⟩ rfl (Nat.le_of_ble_eq_true rfl) dJx4a65c_init_da8c8_1 ⟨(Nat.zero_le _), (Nat.zero_le _)⟩) rfl (Nat.le_of_ble_eq_true rfl) (Nat.le_of_ble_eq_true rfl) ?_
  refine z_aload_n (k := 0) (pc := 4) C dJx4a65c_init_da8c8_4 rfl ?_
  refine z_gets (pc := 5) C q_43 dJx4a65c_init_da8c8_5 ?_
  obtain ⟨h_2, g2, hM⟩ := Option.bind_eq_some_iff.mp hM
  refine z_put (pc := 8) (k := 1) C g2 rfl inlJx4a65c tyJx4a65c tyJx4a65c_ok nmJx4a65c (by decide) q_44 (fun _ h9 => h9) rfl (tyJx4a65c_ok 1 (by decide)) rfl rfl dJx4a65c_init_da8c8_8 ?_
  cases hM
  exact z_vret (pc := 11) C rfl (Nat.zero_le _) (Nat.zero_le _) dJx4a65c_init_da8c8_11
set_option maxHeartbeats 4000000 in
set_option maxRecDepth 100000 in
theorem c_Jx4a65c_size_8abf5 (l : Launch) (hl : l.stackTraces = false) (G : zG) (lo t0 : Nat) (h : zH) (nx : Nat) (a0 : Nat) (o : Int32) (hM : M_Jx4a65c_size_8abf5 h a0 = some o) : z_Met l yJx4a65c_size_8abf5 cJx4a65c_size_8abf5 1 (some .int) 0 0 G lo t0 [.ref a0] h nx (.inr (some (.int o), h, nx)) 0 0 := by
  refine z_of [(0, .ref a0)] (by decide) (Nat.le_of_ble_eq_true rfl) rfl (fun p e s m below meth c C hin => ?_)
  unfold M_Jx4a65c_size_8abf5 at hM
  refine z_aload_n (k := 0) (pc := 0) C dJx4a65c_size_8abf5_0 rfl ?_
  obtain ⟨r1, g1, hM⟩ := Option.bind_eq_some_iff.mp hM
  refine z_getI (pc := 1) (k := 2) C g1 rfl inlJx4a65c (by decide) q_124 (fun _ h9 => h9) dJx4a65c_size_8abf5_1 ?_
  cases hM
  exact z_iret (pc := 4) C rfl (Nat.zero_le _) (Nat.zero_le _) dJx4a65c_size_8abf5_4
set_option maxHeartbeats 4000000 in
set_option maxRecDepth 100000 in
theorem c_J3_checkIndex_8e157 (l : Launch) (hl : l.stackTraces = false) (G : zG) (lo t0 : Nat) (h : zH) (nx : Nat) (x0 : Int32) (x1 : Int32) (o : Int32) (hM : M_J3_checkIndex_8e157 x0 x1 = some o) : z_Met l yJ3_checkIndex_8e157 cJ3_checkIndex_8e157 3 (some .int) 0 0 G lo t0 [.int x0, .int x1, .null] h nx (.inr (some (.int o), h, nx)) 0 0 := by
  refine z_of [(0, .int x0), (1, .int x1), (2, .null)] (by decide) (Nat.le_of_ble_eq_true rfl) rfl (fun p e s m below meth c C hin => ?_)
  unfold M_J3_checkIndex_8e157 at hM
  refine z_iload_n (k := 0) (pc := 0) C dJ3_checkIndex_8e157_0 rfl ?_
  refine z_if_lt (pc := 1) (tgt := 9) C dJ3_checkIndex_8e157_1 (by decide) hM (fun hc2 hM => ?_) (fun hc2 hM => ?_)
  · cases hM
  · refine z_iload_n (k := 0) (pc := 4) C dJ3_checkIndex_8e157_4 rfl ?_
    refine z_iload_n (k := 1) (pc := 5) C dJ3_checkIndex_8e157_5 rfl ?_
    refine z_icmp_lt (pc := 6) (tgt := 16) C dJ3_checkIndex_8e157_6 (by decide) hM (fun hc1 hM => ?_) (fun hc1 hM => ?_)
    · refine z_iload_n (k := 0) (pc := 16) C dJ3_checkIndex_8e157_16 rfl ?_
      cases hM
      exact z_iret (pc := 17) C rfl (Nat.zero_le _) (Nat.zero_le _) dJ3_checkIndex_8e157_17
    · cases hM
set_option maxHeartbeats 4000000 in
set_option maxRecDepth 100000 in
theorem c_J15_checkIndex_7cf53 (l : Launch) (hl : l.stackTraces = false) (G : zG) (lo t0 : Nat) (h : zH) (nx : Nat) (x0 : Int32) (x1 : Int32) (o : Int32) (hM : M_J15_checkIndex_7cf53 x0 x1 = some o) : z_Met l yJ15_checkIndex_7cf53 cJ15_checkIndex_7cf53 2 (some .int) 1 22 G lo t0 [.int x0, .int x1] h nx (.inr (some (.int o), h, nx)) 0 0 := by
  refine z_of [(0, .int x0), (1, .int x1)] (by decide) (Nat.le_of_ble_eq_true rfl) rfl (fun p e s m below meth c C hin => ?_)
  unfold M_J15_checkIndex_7cf53 at hM
  refine z_iload_n (k := 0) (pc := 0) C dJ15_checkIndex_7cf53_0 rfl ?_
  refine z_iload_n (k := 1) (pc := 1) C dJ15_checkIndex_7cf53_1 rfl ?_
  refine z_null (pc := 2) C dJ15_checkIndex_7cf53_2 ?_
  obtain ⟨r1, g1, hM⟩ := Option.bind_eq_some_iff.mp hM
  refine z_goN (kc := 0) (ks := 0) ([.int r1]) (z_callS (pc := 3) (As := [.int x0, .int x1, .null]) (rest := []) (n := 3) C (c_J3_checkIndex_8e157 l hl G lo t0 h nx x0 x1 r1 g1) q_207 q_208 q_209 q_210 ⟨by decide +kernel, by decide +kernel, by decide +kernel⟩ ⟨Nat.le_of_ble_eq_true rfl, Nat.le_of_ble_eq_true rfl⟩ rfl (Nat.le_of_ble_eq_true rfl) dJ15_checkIndex_7cf53_3 ⟨(Nat.zero_le _), (Nat.zero_le _)⟩) rfl (Nat.le_of_ble_eq_true rfl) (Nat.le_of_ble_eq_true rfl) ?_
  cases hM
  exact z_iret (pc := 6) C rfl (Nat.zero_le _) (Nat.zero_le _) dJ15_checkIndex_7cf53_6
set_option maxHeartbeats 4000000 in
set_option maxRecDepth 100000 in
theorem c_Jx4a65c_elementData_915e3 (l : Launch) (hl : l.stackTraces = false) (G : zG) (lo t0 : Nat) (h : zH) (nx : Nat) (a0 : Nat) (x1 : Int32) (o : Nat) (hM : M_Jx4a65c_elementData_915e3 h a0 x1 = some o) : z_Met l yJx4a65c_elementData_915e3 cJx4a65c_elementData_915e3 2 (some (.object "java/lang/Object")) 0 0 G lo t0 [.ref a0, .int x1] h nx (.inr (some (.ref o), h, nx)) 0 0 := by
  refine z_of [(0, .ref a0), (1, .int x1)] (by decide) (Nat.le_of_ble_eq_true rfl) rfl (fun p e s m below meth c C hin => ?_)
  unfold M_Jx4a65c_elementData_915e3 at hM
  refine z_aload_n (k := 0) (pc := 0) C dJx4a65c_elementData_915e3_0 rfl ?_
  obtain ⟨r1, g1, hM⟩ := Option.bind_eq_some_iff.mp hM
  refine z_getR (pc := 1) (k := 1) C g1 rfl inlJx4a65c (by decide) q_44 (fun _ h9 => h9) dJx4a65c_elementData_915e3_1 ?_
  refine z_iload_n (k := 1) (pc := 4) C dJx4a65c_elementData_915e3_4 rfl ?_
  obtain ⟨r2, g2, hM⟩ := Option.bind_eq_some_iff.mp hM
  refine z_aald (pc := 5) C g2 dJx4a65c_elementData_915e3_5 ?_
  cases hM
  exact z_aret (pc := 6) C (Or.inl ⟨_, rfl⟩) rfl (Nat.zero_le _) (Nat.zero_le _) dJx4a65c_elementData_915e3_6
set_option maxHeartbeats 4000000 in
set_option maxRecDepth 100000 in
theorem c_Jx4a65c_get_915e3 (l : Launch) (hl : l.stackTraces = false) (G : zG) (lo t0 : Nat) (h : zH) (nx : Nat) (a0 : Nat) (x1 : Int32) (o : Nat) (hM : M_Jx4a65c_get_915e3 h a0 x1 = some o) : z_Met l yJx4a65c_get_915e3 cJx4a65c_get_915e3 2 (some (.object "java/lang/Object")) 2 43 G lo t0 [.ref a0, .int x1] h nx (.inr (some (.ref o), h, nx)) 0 0 := by
  refine z_of [(0, .ref a0), (1, .int x1)] (by decide) (Nat.le_of_ble_eq_true rfl) rfl (fun p e s m below meth c C hin => ?_)
  unfold M_Jx4a65c_get_915e3 at hM
  refine z_iload_n (k := 1) (pc := 0) C dJx4a65c_get_915e3_0 rfl ?_
  refine z_aload_n (k := 0) (pc := 1) C dJx4a65c_get_915e3_1 rfl ?_
  obtain ⟨r1, g1, hM⟩ := Option.bind_eq_some_iff.mp hM
  refine z_getI (pc := 2) (k := 2) C g1 rfl inlJx4a65c (by decide) q_124 (fun _ h9 => h9) dJx4a65c_get_915e3_2 ?_
  obtain ⟨r2, g2, hM⟩ := Option.bind_eq_some_iff.mp hM
  refine z_goN (kc := 0) (ks := 0) ([.int r2]) (z_callS (pc := 5) (As := [.int x1, .int r1]) (rest := []) (n := 2) C (c_J15_checkIndex_7cf53 l hl G lo t0 h nx x1 r1 r2 g2) q_203 q_204 q_205 q_206 ⟨by decide +kernel, by decide +kernel, by decide +kernel⟩ ⟨Nat.le_of_ble_eq_true rfl, Nat.le_of_ble_eq_true rfl⟩ rfl (Nat.le_of_ble_eq_true rfl) dJx4a65c_get_915e3_5 ⟨(Nat.zero_le _), (Nat.zero_le _)⟩) rfl (Nat.le_of_ble_eq_true rfl) (Nat.le_of_ble_eq_true rfl) ?_
  refine z_pop (pc := 8) C dJx4a65c_get_915e3_8 rfl ?_
  refine z_aload_n (k := 0) (pc := 9) C dJx4a65c_get_915e3_9 rfl ?_
  refine z_iload_n (k := 1) (pc := 10) C dJx4a65c_get_915e3_10 rfl ?_
  obtain ⟨_, g3, hM⟩ := Option.bind_eq_some_iff.mp hM
  obtain ⟨r4, g4, hM⟩ := Option.bind_eq_some_iff.mp hM
  refine z_goN (kc := 0) (ks := 0) ([.ref r4]) (z_callV (pc := 11) (As := [.int x1]) (rest := []) (n := 1) (ci := 0) C (c_Jx4a65c_elementData_915e3 l hl G lo t0 h nx a0 x1 r4 g4) g3 rfl q_211 q_212 q_213 q_23 q_214 ⟨rfl, by decide +kernel, by decide +kernel, by decide +kernel⟩ ⟨Nat.le_of_ble_eq_true rfl, Nat.le_of_ble_eq_true rfl⟩ rfl (Nat.le_of_ble_eq_true rfl) dJx4a65c_get_915e3_11 ⟨(Nat.zero_le _), (Nat.zero_le _)⟩) rfl (Nat.le_of_ble_eq_true rfl) (Nat.le_of_ble_eq_true rfl) ?_
  cases hM
  exact z_aret (pc := 14) C (Or.inl ⟨_, rfl⟩) rfl (Nat.zero_le _) (Nat.zero_le _) dJx4a65c_get_915e3_14
set_option maxHeartbeats 4000000 in
set_option maxRecDepth 100000 in
theorem c_Jx4a65c_grow_92f84 (l : Launch) (hl : l.stackTraces = false) (G : zG) (lo t0 : Nat) (h : zH) (nx : Nat) (a0 : Nat) (x1 : Int32) (o : Nat × zH × Nat) (hM : M_Jx4a65c_grow_92f84 h nx t0 a0 x1 = some o) : z_Met l yJx4a65c_grow_92f84 cJx4a65c_grow_92f84 4 (some (.array (.object "java/lang/Object"))) 1 22 G lo t0 [.ref a0, .int x1] h nx (.inr (some (.ref o.1), o.2.1, o.2.2)) 1 10 := by
  refine z_of [(0, .ref a0), (1, .int x1)] (by decide) (Nat.le_of_ble_eq_true rfl) rfl (fun p e s m below meth c C hin => ?_)
  unfold M_Jx4a65c_grow_92f84 at hM
  refine z_aload_n (k := 0) (pc := 0) C dJx4a65c_grow_92f84_0 rfl ?_
  obtain ⟨r1, g1, hM⟩ := Option.bind_eq_some_iff.mp hM
  refine z_getR (pc := 1) (k := 1) C g1 rfl inlJx4a65c (by decide) q_44 (fun _ h9 => h9) dJx4a65c_grow_92f84_1 ?_
  obtain ⟨r2, g2, hM⟩ := Option.bind_eq_some_iff.mp hM
  refine z_alen (pc := 4) C g2 dJx4a65c_grow_92f84_4 ?_
  refine z_istore_n (lv' := [(2, .int r2), (0, .ref a0), (1, .int x1)]) (pc := 5) C dJx4a65c_grow_92f84_5 (by decide) rfl ?_
  refine z_iload_n (k := 0) (pc := 6) C dJx4a65c_grow_92f84_6 rfl ?_
  refine z_if_gt (pc := 7) (tgt := 20) C dJx4a65c_grow_92f84_7 (by decide) hM (fun hc7 hM => ?_) (fun hc7 hM => ?_)
  · cases hM
  · refine z_aload_n (k := 1) (pc := 10) C dJx4a65c_grow_92f84_10 rfl ?_
    obtain ⟨r3, g3, hM⟩ := Option.bind_eq_some_iff.mp hM
    refine z_getR (pc := 11) (k := 1) C g3 rfl inlJx4a65c (by decide) q_44 (fun _ h9 => h9) dJx4a65c_grow_92f84_11 ?_
    refine z_gets (pc := 14) C q_43 dJx4a65c_grow_92f84_14 ?_
    refine z_acmp_eq (pc := 17) (tgt := 45) C dJx4a65c_grow_92f84_17 (by decide) hM (fun hc6 hM => ?_) (fun hc6 hM => ?_)
    · refine z_aload_n (k := 1) (pc := 45) C dJx4a65c_grow_92f84_45 rfl ?_
      refine z_bipush (v := (10 : Int32)) (pc := 46) C dJx4a65c_grow_92f84_46 (by decide) ?_
      refine z_iload_n (k := 2) (pc := 48) C dJx4a65c_grow_92f84_48 rfl ?_
      refine z_max (pc := 49) C q_159 q_4 q_5 q_6 (Nat.le_of_ble_eq_true rfl) (Nat.le_of_ble_eq_true rfl) (Nat.zero_le _) (Nat.zero_le _) dJx4a65c_grow_92f84_49 ?_
      obtain ⟨hc4, hM⟩ := z_gy hM
      refine z_newQ (pc := 52) (n' := 10) C q_160 (by rw [hc4]; decide) (by rw [hc4]; decide) (by decide) (Nat.le_of_ble_eq_true rfl) (Nat.le_of_ble_eq_true rfl) dJx4a65c_grow_92f84_52 ?_
      refine z_dup_x1 (pc := 55) C dJx4a65c_grow_92f84_55 rfl rfl ?_
      obtain ⟨h_5, g5, hM⟩ := Option.bind_eq_some_iff.mp hM
      refine z_put (pc := 56) (k := 1) C g5 rfl inlJx4a65c tyJx4a65c tyJx4a65c_ok nmJx4a65c (by decide) q_44 (fun _ h9 => h9) rfl (tyJx4a65c_ok 1 (by decide)) rfl rfl dJx4a65c_grow_92f84_56 ?_
      cases hM
      exact z_aret (pc := 59) C (Or.inr ⟨_, rfl⟩) rfl (Nat.le_of_ble_eq_true rfl) (Nat.le_of_ble_eq_true rfl) dJx4a65c_grow_92f84_59
    · cases hM
set_option maxHeartbeats 4000000 in
set_option maxRecDepth 100000 in
theorem c_Jx4a65c_grow_d5877 (l : Launch) (hl : l.stackTraces = false) (G : zG) (lo t0 : Nat) (h : zH) (nx : Nat) (a0 : Nat) (o : Nat × zH × Nat) (hM : M_Jx4a65c_grow_d5877 h nx t0 a0 = some o) : z_Met l yJx4a65c_grow_d5877 cJx4a65c_grow_d5877 1 (some (.array (.object "java/lang/Object"))) 2 45 G lo t0 [.ref a0] h nx (.inr (some (.ref o.1), o.2.1, o.2.2)) 1 10 := by
  refine z_of [(0, .ref a0)] (by decide) (Nat.le_of_ble_eq_true rfl) rfl (fun p e s m below meth c C hin => ?_)
  unfold M_Jx4a65c_grow_d5877 at hM
  refine z_aload_n (k := 0) (pc := 0) C dJx4a65c_grow_d5877_0 rfl ?_
  refine z_aload_n (k := 0) (pc := 1) C dJx4a65c_grow_d5877_1 rfl ?_
  obtain ⟨r1, g1, hM⟩ := Option.bind_eq_some_iff.mp hM
  refine z_getI (pc := 2) (k := 2) C g1 rfl inlJx4a65c (by decide) q_124 (fun _ h9 => h9) dJx4a65c_grow_d5877_2 ?_
  refine z_iconst (v := (1 : Int32)) (pc := 5) C dJx4a65c_grow_d5877_5 (by decide) ?_
  refine z_iadd (pc := 6) C dJx4a65c_grow_d5877_6 ?_
  obtain ⟨_, g2, hM⟩ := Option.bind_eq_some_iff.mp hM
  obtain ⟨r3, g3, hM⟩ := Option.bind_eq_some_iff.mp hM
  refine z_goN (kc := 1) (ks := 10) ([.ref r3.1]) (z_callV (pc := 7) (As := [.int (r1 + (1 : Int32))]) (rest := []) (n := 1) (ci := 0) C (c_Jx4a65c_grow_92f84 l hl G lo t0 h nx a0 (r1 + (1 : Int32)) r3 g3) g2 rfl q_155 q_156 q_157 q_23 q_158 ⟨rfl, by decide +kernel, by decide +kernel, by decide +kernel⟩ ⟨Nat.le_of_ble_eq_true rfl, Nat.le_of_ble_eq_true rfl⟩ rfl (Nat.le_of_ble_eq_true rfl) dJx4a65c_grow_d5877_7 ⟨(Nat.le_of_ble_eq_true rfl), (Nat.le_of_ble_eq_true rfl)⟩) rfl (Nat.le_of_ble_eq_true rfl) (Nat.le_of_ble_eq_true rfl) ?_
  cases hM
  exact z_aret (pc := 10) C (Or.inr ⟨_, rfl⟩) rfl (Nat.le_of_ble_eq_true rfl) (Nat.le_of_ble_eq_true rfl) dJx4a65c_grow_d5877_10
set_option maxHeartbeats 4000000 in
set_option maxRecDepth 100000 in
theorem c_Jx4a65c_add_72be8 (l : Launch) (hl : l.stackTraces = false) (G : zG) (lo t0 : Nat) (h : zH) (nx : Nat) (a0 : Nat) (a1 : Nat) (a2 : Nat) (x3 : Int32) (o : zH × Nat) (hM : M_Jx4a65c_add_72be8 h nx t0 a0 a1 a2 x3 = some o) : z_Met l yJx4a65c_add_72be8 cJx4a65c_add_72be8 4 none 3 65 G lo t0 [.ref a0, .ref a1, .ref a2, .int x3] h nx (.inr (none, o.1, o.2)) 1 10 := by
  refine z_of [(0, .ref a0), (1, .ref a1), (2, .ref a2), (3, .int x3)] (by decide) (Nat.le_of_ble_eq_true rfl) rfl (fun p e s m below meth c C hin => ?_)
  unfold M_Jx4a65c_add_72be8 at hM
  refine z_iload_n (k := 3) (pc := 0) C dJx4a65c_add_72be8_0 rfl ?_
  refine z_aload_n (k := 2) (pc := 1) C dJx4a65c_add_72be8_1 rfl ?_
  obtain ⟨r1, g1, hM⟩ := Option.bind_eq_some_iff.mp hM
  refine z_alen (pc := 2) C g1 dJx4a65c_add_72be8_2 ?_
  refine zj3 1 10 11 (fun (a2_2 : Nat) (h_2 : zH) (n_2 : Nat) => [(0, .ref a0), (1, .ref a1), (2, .ref a2_2), (3, .int x3)]) (fun (a2_2 : Nat) (h_2 : zH) (n_2 : Nat) => []) (fun (a2_2 : Nat) (h_2 : zH) (n_2 : Nat) => h_2) (fun (a2_2 : Nat) (h_2 : zH) (n_2 : Nat) => n_2) hM (fun a2_2 h_2 n_2 hM => ?_) (fun J2 iJ2 hM => ?_)
  · refine z_aload_n (k := 2) (pc := 11) C dJx4a65c_add_72be8_11 rfl ?_
    refine z_iload_n (k := 3) (pc := 12) C dJx4a65c_add_72be8_12 rfl ?_
    refine z_aload_n (k := 1) (pc := 13) C dJx4a65c_add_72be8_13 rfl ?_
    obtain ⟨h_3, g3, hM⟩ := Option.bind_eq_some_iff.mp hM
    refine z_aastE (pc := 14) C g3 dJx4a65c_add_72be8_14 ?_
    refine z_aload_n (k := 0) (pc := 15) C dJx4a65c_add_72be8_15 rfl ?_
    refine z_iload_n (k := 3) (pc := 16) C dJx4a65c_add_72be8_16 rfl ?_
    refine z_iconst (v := (1 : Int32)) (pc := 17) C dJx4a65c_add_72be8_17 (by decide) ?_
    refine z_iadd (pc := 18) C dJx4a65c_add_72be8_18 ?_
    obtain ⟨h_4, g4, hM⟩ := Option.bind_eq_some_iff.mp hM
    refine z_put (pc := 19) (k := 2) C g4 rfl inlJx4a65c tyJx4a65c tyJx4a65c_ok nmJx4a65c (by decide) q_124 (fun _ h9 => h9) rfl (tyJx4a65c_ok 2 (by decide)) rfl rfl dJx4a65c_add_72be8_19 ?_
    cases hM
    exact z_vret (pc := 22) C rfl (Nat.le_of_ble_eq_true rfl) (Nat.le_of_ble_eq_true rfl) dJx4a65c_add_72be8_22
  refine z_icmp_ne (pc := 3) (tgt := 11) C dJx4a65c_add_72be8_3 (by decide) hM (fun hc7 hM => ?_) (fun hc7 hM => ?_)
  · refine z_aload_n (k := 0) (pc := 6) C dJx4a65c_add_72be8_6 rfl ?_
    obtain ⟨_, g5, hM⟩ := Option.bind_eq_some_iff.mp hM
    obtain ⟨r6, g6, hM⟩ := Option.bind_eq_some_iff.mp hM
    refine z_goN (kc := 1) (ks := 10) ([.ref r6.1]) (z_callV (pc := 7) (As := []) (rest := []) (n := 0) (ci := 0) C (c_Jx4a65c_grow_d5877 l hl G lo t0 h nx a0 r6 g6) g5 rfl q_151 q_152 q_153 q_23 q_154 ⟨rfl, by decide +kernel, by decide +kernel, by decide +kernel⟩ ⟨Nat.le_of_ble_eq_true rfl, Nat.le_of_ble_eq_true rfl⟩ rfl (Nat.le_of_ble_eq_true rfl) dJx4a65c_add_72be8_7 ⟨(Nat.le_of_ble_eq_true rfl), (Nat.le_of_ble_eq_true rfl)⟩) rfl (Nat.le_of_ble_eq_true rfl) (Nat.le_of_ble_eq_true rfl) ?_
    refine z_astore_n (lv' := [(2, .ref r6.1), (0, .ref a0), (1, .ref a1), (3, .int x3)]) (pc := 10) C dJx4a65c_add_72be8_10 (by decide) rfl ?_
    exact z_sub [1, 2, 0, 3] rfl (iJ2 r6.1 r6.2.1 r6.2.2 hM)
  · refine z_wide (kc := 1) (ks := 10) (Nat.le_of_ble_eq_true rfl) (Nat.le_of_ble_eq_true rfl) ?_
    exact z_sub [0, 1, 2, 3] rfl (iJ2 a2 h nx hM)
set_option maxHeartbeats 4000000 in
set_option maxRecDepth 100000 in
theorem c_Jx4a65c_add_9ea2d (l : Launch) (hl : l.stackTraces = false) (G : zG) (lo t0 : Nat) (h : zH) (nx : Nat) (a0 : Nat) (a1 : Nat) (o : Int32 × zH × Nat) (hM : M_Jx4a65c_add_9ea2d h nx t0 a0 a1 = some o) : z_Met l yJx4a65c_add_9ea2d cJx4a65c_add_9ea2d 2 (some .boolean) 4 88 G lo t0 [.ref a0, .ref a1] h nx (.inr (some (.int o.1), o.2.1, o.2.2)) 1 10 := by
  refine z_of [(0, .ref a0), (1, .ref a1)] (by decide) (Nat.le_of_ble_eq_true rfl) rfl (fun p e s m below meth c C hin => ?_)
  unfold M_Jx4a65c_add_9ea2d at hM
  refine z_aload_n (k := 0) (pc := 0) C dJx4a65c_add_9ea2d_0 rfl ?_
  refine z_dup (pc := 1) C dJx4a65c_add_9ea2d_1 rfl ?_
  obtain ⟨r1, g1, hM⟩ := Option.bind_eq_some_iff.mp hM
  refine z_getI (pc := 2) (k := 0) C g1 rfl inlJx4a65c (by decide) q_145 (fun x h9 => u_same (C.1.2.2.2.2 _ q_146) x h9) dJx4a65c_add_9ea2d_2 ?_
  refine z_iconst (v := (1 : Int32)) (pc := 5) C dJx4a65c_add_9ea2d_5 (by decide) ?_
  refine z_iadd (pc := 6) C dJx4a65c_add_9ea2d_6 ?_
  obtain ⟨h_2, g2, hM⟩ := Option.bind_eq_some_iff.mp hM
  refine z_put (pc := 7) (k := 0) C g2 rfl inlJx4a65c tyJx4a65c tyJx4a65c_ok nmJx4a65c (by decide) q_145 (fun x h9 => u_same (C.1.2.2.2.2 _ q_146) x h9) rfl (tyJx4a65c_ok 0 (by decide)) rfl rfl dJx4a65c_add_9ea2d_7 ?_
  refine z_aload_n (k := 0) (pc := 10) C dJx4a65c_add_9ea2d_10 rfl ?_
  refine z_aload_n (k := 1) (pc := 11) C dJx4a65c_add_9ea2d_11 rfl ?_
  refine z_aload_n (k := 0) (pc := 12) C dJx4a65c_add_9ea2d_12 rfl ?_
  obtain ⟨r3, g3, hM⟩ := Option.bind_eq_some_iff.mp hM
  refine z_getR (pc := 13) (k := 1) C g3 rfl inlJx4a65c (by decide) q_44 (fun _ h9 => h9) dJx4a65c_add_9ea2d_13 ?_
  refine z_aload_n (k := 0) (pc := 16) C dJx4a65c_add_9ea2d_16 rfl ?_
  obtain ⟨r4, g4, hM⟩ := Option.bind_eq_some_iff.mp hM
  refine z_getI (pc := 17) (k := 2) C g4 rfl inlJx4a65c (by decide) q_124 (fun _ h9 => h9) dJx4a65c_add_9ea2d_17 ?_
  obtain ⟨_, g5, hM⟩ := Option.bind_eq_some_iff.mp hM
  obtain ⟨r6, g6, hM⟩ := Option.bind_eq_some_iff.mp hM
  refine z_goN (kc := 1) (ks := 10) ([]) (z_callV (pc := 20) (As := [.ref a1, .ref r3, .int r4]) (rest := []) (n := 3) (ci := 0) C (c_Jx4a65c_add_72be8 l hl G lo t0 h_2 nx a0 a1 r3 r4 r6 g6) g5 rfl q_147 q_148 q_149 q_23 q_150 ⟨rfl, by decide +kernel, by decide +kernel, by decide +kernel⟩ ⟨Nat.le_of_ble_eq_true rfl, Nat.le_of_ble_eq_true rfl⟩ rfl (Nat.le_of_ble_eq_true rfl) dJx4a65c_add_9ea2d_20 ⟨(Nat.le_of_ble_eq_true rfl), (Nat.le_of_ble_eq_true rfl)⟩) rfl (Nat.le_of_ble_eq_true rfl) (Nat.le_of_ble_eq_true rfl) ?_
  refine z_iconst (v := (1 : Int32)) (pc := 23) C dJx4a65c_add_9ea2d_23 (by decide) ?_
  cases hM
  exact z_zret (pc := 24) C (Or.inr rfl) rfl (Nat.le_of_ble_eq_true rfl) (Nat.le_of_ble_eq_true rfl) dJx4a65c_add_9ea2d_24
set_option maxHeartbeats 4000000 in
set_option maxRecDepth 100000 in
theorem c_J7_fill_53178 (l : Launch) (hl : l.stackTraces = false) (G : zG) (lo t0 : Nat) (h : zH) (nx : Nat) (a0 : Nat) (x1 : Int32) (o : zH) (hM : M_J7_fill_53178 h a0 x1 = some o) : z_Met l yJ7_fill_53178 cJ7_fill_53178 4 none 0 0 G lo t0 [.ref a0, .int x1] h nx (.inr (none, o, nx)) 0 0 := by
  refine z_of [(0, .ref a0), (1, .int x1)] (by decide) (Nat.le_of_ble_eq_true rfl) rfl (fun p e s m below meth c C hin => ?_)
  unfold M_J7_fill_53178 at hM
  refine z_iconst (v := (0 : Int32)) (pc := 0) C dJ7_fill_53178_0 (by decide) ?_
  refine z_istore_n (lv' := [(2, .int (0 : Int32)), (0, .ref a0), (1, .int x1)]) (pc := 1) C dJ7_fill_53178_1 (by decide) rfl ?_
  refine z_aload_n (k := 1) (pc := 2) C dJ7_fill_53178_2 rfl ?_
  obtain ⟨r1, g1, hM⟩ := Option.bind_eq_some_iff.mp hM
  refine z_alen (pc := 3) C g1 dJ7_fill_53178_3 ?_
  refine z_istore_n (lv' := [(3, .int r1), (2, .int (0 : Int32)), (0, .ref a0), (1, .int x1)]) (pc := 4) C dJ7_fill_53178_4 (by decide) rfl ?_
  refine z_sub [2, 3, 1, 0] rfl (zl2 (fun (x2_2 : Int32) (h_2 : zH) => [(0, .ref a0), (1, .int x1), (2, .int x2_2), (3, .int r1)]) (fun (x2_2 : Int32) (h_2 : zH) => h_2) (fun (x2_2 : Int32) (h_2 : zH) => nx) hM (fun rec2 irec2 x2_2 h_2 hM => ?_))
  refine z_iload_n (k := 2) (pc := 5) C dJ7_fill_53178_5 rfl ?_
  refine z_iload_n (k := 3) (pc := 6) C dJ7_fill_53178_6 rfl ?_
  refine z_icmp_ge (pc := 7) (tgt := 20) C dJ7_fill_53178_7 (by decide) hM (fun hc4 hM => ?_) (fun hc4 hM => ?_)
  · cases hM
    exact z_vret (pc := 20) C rfl (Nat.zero_le _) (Nat.zero_le _) dJ7_fill_53178_20
  · refine z_aload_n (k := 0) (pc := 10) C dJ7_fill_53178_10 rfl ?_
    refine z_iload_n (k := 2) (pc := 11) C dJ7_fill_53178_11 rfl ?_
    refine z_iload_n (k := 1) (pc := 12) C dJ7_fill_53178_12 rfl ?_
    obtain ⟨h_3, g3, hM⟩ := Option.bind_eq_some_iff.mp hM
    refine z_iast (pc := 13) C g3 dJ7_fill_53178_13 ?_
    refine z_iinc (k := 2) (v := (x2_2 + (1 : Int32))) (lv' := [(2, .int (x2_2 + (1 : Int32))), (0, .ref a0), (1, .int x1), (3, .int r1)]) (pc := 14) C dJ7_fill_53178_14 rfl (by first | rfl | decide) (by decide) rfl ?_
    refine z_goto (pc := 17) (tgt := 5) C dJ7_fill_53178_17 (by decide) ?_
    exact z_sub [1, 2, 0, 3] rfl (irec2 (x2_2 + (1 : Int32)) h_3 hM)
set_option maxHeartbeats 4000000 in
set_option maxRecDepth 100000 in
theorem c_Jx4a65c_fastRemove_b59b0 (l : Launch) (hl : l.stackTraces = false) (G : zG) (lo t0 : Nat) (h : zH) (nx : Nat) (a0 : Nat) (a1 : Nat) (x2 : Int32) (o : zH) (hM : M_Jx4a65c_fastRemove_b59b0 h a0 a1 x2 = some o) : z_Met l yJx4a65c_fastRemove_b59b0 cJx4a65c_fastRemove_b59b0 4 none 1 60 G lo t0 [.ref a0, .ref a1, .int x2] h nx (.inr (none, o, nx)) 0 0 := by
  refine z_of [(0, .ref a0), (1, .ref a1), (2, .int x2)] (by decide) (Nat.le_of_ble_eq_true rfl) rfl (fun p e s m below meth c C hin => ?_)
  unfold M_Jx4a65c_fastRemove_b59b0 at hM
  refine z_aload_n (k := 0) (pc := 0) C dJx4a65c_fastRemove_b59b0_0 rfl ?_
  refine z_dup (pc := 1) C dJx4a65c_fastRemove_b59b0_1 rfl ?_
  obtain ⟨r1, g1, hM⟩ := Option.bind_eq_some_iff.mp hM
  refine z_getI (pc := 2) (k := 0) C g1 rfl inlJx4a65c (by decide) q_145 (fun x h9 => u_same (C.1.2.2.2.2 _ q_146) x h9) dJx4a65c_fastRemove_b59b0_2 ?_
  refine z_iconst (v := (1 : Int32)) (pc := 5) C dJx4a65c_fastRemove_b59b0_5 (by decide) ?_
  refine z_iadd (pc := 6) C dJx4a65c_fastRemove_b59b0_6 ?_
  obtain ⟨h_2, g2, hM⟩ := Option.bind_eq_some_iff.mp hM
  refine z_put (pc := 7) (k := 0) C g2 rfl inlJx4a65c tyJx4a65c tyJx4a65c_ok nmJx4a65c (by decide) q_145 (fun x h9 => u_same (C.1.2.2.2.2 _ q_146) x h9) rfl (tyJx4a65c_ok 0 (by decide)) rfl rfl dJx4a65c_fastRemove_b59b0_7 ?_
  refine z_aload_n (k := 0) (pc := 10) C dJx4a65c_fastRemove_b59b0_10 rfl ?_
  obtain ⟨r3, g3, hM⟩ := Option.bind_eq_some_iff.mp hM
  refine z_getI (pc := 11) (k := 2) C g3 rfl inlJx4a65c (by decide) q_124 (fun _ h9 => h9) dJx4a65c_fastRemove_b59b0_11 ?_
  refine z_iconst (v := (1 : Int32)) (pc := 14) C dJx4a65c_fastRemove_b59b0_14 (by decide) ?_
  refine z_isub (pc := 15) C dJx4a65c_fastRemove_b59b0_15 ?_
  refine z_dup (pc := 16) C dJx4a65c_fastRemove_b59b0_16 rfl ?_
  refine z_istore_n (lv' := [(3, .int (r3 - (1 : Int32))), (0, .ref a0), (1, .ref a1), (2, .int x2)]) (pc := 17) C dJx4a65c_fastRemove_b59b0_17 (by decide) rfl ?_
  refine z_iload_n (k := 3) (pc := 18) C dJx4a65c_fastRemove_b59b0_18 rfl ?_
  refine zj1 0 0 34 (fun (h_4 : zH) => [(0, .ref a0), (1, .ref a1), (3, .int (r3 - (1 : Int32)))]) (fun (h_4 : zH) => []) (fun (h_4 : zH) => h_4) (fun (h_4 : zH) => nx) hM (fun h_4 hM => ?_) (fun J4 iJ4 hM => ?_)
  · refine z_aload_n (k := 1) (pc := 34) C dJx4a65c_fastRemove_b59b0_34 rfl ?_
    refine z_aload_n (k := 0) (pc := 35) C dJx4a65c_fastRemove_b59b0_35 rfl ?_
    refine z_iload_n (k := 2) (pc := 36) C dJx4a65c_fastRemove_b59b0_36 rfl ?_
    refine z_dup_x1 (pc := 37) C dJx4a65c_fastRemove_b59b0_37 rfl rfl ?_
    obtain ⟨h_5, g5, hM⟩ := Option.bind_eq_some_iff.mp hM
    refine z_put (pc := 38) (k := 2) C g5 rfl inlJx4a65c tyJx4a65c tyJx4a65c_ok nmJx4a65c (by decide) q_124 (fun _ h9 => h9) rfl (tyJx4a65c_ok 2 (by decide)) rfl rfl dJx4a65c_fastRemove_b59b0_38 ?_
    refine z_null (pc := 41) C dJx4a65c_fastRemove_b59b0_41 ?_
    obtain ⟨h_6, g6, hM⟩ := Option.bind_eq_some_iff.mp hM
    refine z_aastN (pc := 42) C g6 dJx4a65c_fastRemove_b59b0_42 ?_
    cases hM
    exact z_vret (pc := 43) C rfl (Nat.zero_le _) (Nat.zero_le _) dJx4a65c_fastRemove_b59b0_43
  refine z_icmp_le (pc := 19) (tgt := 34) C dJx4a65c_fastRemove_b59b0_19 (by decide) hM (fun hc8 hM => ?_) (fun hc8 hM => ?_)
  · exact z_sub [1, 2, 0] rfl (iJ4 h_2 hM)
  · refine z_aload_n (k := 2) (pc := 22) C dJx4a65c_fastRemove_b59b0_22 rfl ?_
    refine z_iload_n (k := 3) (pc := 23) C dJx4a65c_fastRemove_b59b0_23 rfl ?_
    refine z_iconst (v := (1 : Int32)) (pc := 24) C dJx4a65c_fastRemove_b59b0_24 (by decide) ?_
    refine z_iadd (pc := 25) C dJx4a65c_fastRemove_b59b0_25 ?_
    refine z_aload_n (k := 2) (pc := 26) C dJx4a65c_fastRemove_b59b0_26 rfl ?_
    refine z_iload_n (k := 3) (pc := 27) C dJx4a65c_fastRemove_b59b0_27 rfl ?_
    refine z_iload_n (k := 0) (pc := 28) C dJx4a65c_fastRemove_b59b0_28 rfl ?_
    refine z_iload_n (k := 3) (pc := 29) C dJx4a65c_fastRemove_b59b0_29 rfl ?_
    refine z_isub (pc := 30) C dJx4a65c_fastRemove_b59b0_30 ?_
    obtain ⟨h_7, g7, hM⟩ := Option.bind_eq_some_iff.mp hM
    refine z_copyQ (pc := 31) C g7 q_287 q_187 q_188 q_189 (Nat.le_of_ble_eq_true rfl) (Nat.le_of_ble_eq_true rfl) dJx4a65c_fastRemove_b59b0_31 ?_
    exact z_sub [1, 2, 0] rfl (iJ4 h_7 hM)
set_option maxHeartbeats 4000000 in
set_option maxRecDepth 100000 in
theorem c_Jx4a65c_remove_915e3 (l : Launch) (hl : l.stackTraces = false) (G : zG) (lo t0 : Nat) (h : zH) (nx : Nat) (a0 : Nat) (x1 : Int32) (o : Nat × zH) (hM : M_Jx4a65c_remove_915e3 h a0 x1 = some o) : z_Met l yJx4a65c_remove_915e3 cJx4a65c_remove_915e3 4 (some (.object "java/lang/Object")) 2 83 G lo t0 [.ref a0, .int x1] h nx (.inr (some (.ref o.1), o.2, nx)) 0 0 := by
  refine z_of [(0, .ref a0), (1, .int x1)] (by decide) (Nat.le_of_ble_eq_true rfl) rfl (fun p e s m below meth c C hin => ?_)
  unfold M_Jx4a65c_remove_915e3 at hM
  refine z_iload_n (k := 1) (pc := 0) C dJx4a65c_remove_915e3_0 rfl ?_
  refine z_aload_n (k := 0) (pc := 1) C dJx4a65c_remove_915e3_1 rfl ?_
  obtain ⟨r1, g1, hM⟩ := Option.bind_eq_some_iff.mp hM
  refine z_getI (pc := 2) (k := 2) C g1 rfl inlJx4a65c (by decide) q_124 (fun _ h9 => h9) dJx4a65c_remove_915e3_2 ?_
  obtain ⟨r2, g2, hM⟩ := Option.bind_eq_some_iff.mp hM
  refine z_goN (kc := 0) (ks := 0) ([.int r2]) (z_callS (pc := 5) (As := [.int x1, .int r1]) (rest := []) (n := 2) C (c_J15_checkIndex_7cf53 l hl G lo t0 h nx x1 r1 r2 g2) q_203 q_204 q_205 q_206 ⟨by decide +kernel, by decide +kernel, by decide +kernel⟩ ⟨Nat.le_of_ble_eq_true rfl, Nat.le_of_ble_eq_true rfl⟩ rfl (Nat.le_of_ble_eq_true rfl) dJx4a65c_remove_915e3_5 ⟨(Nat.zero_le _), (Nat.zero_le _)⟩) rfl (Nat.le_of_ble_eq_true rfl) (Nat.le_of_ble_eq_true rfl) ?_
  refine z_pop (pc := 8) C dJx4a65c_remove_915e3_8 rfl ?_
  refine z_aload_n (k := 0) (pc := 9) C dJx4a65c_remove_915e3_9 rfl ?_
  obtain ⟨r3, g3, hM⟩ := Option.bind_eq_some_iff.mp hM
  refine z_getR (pc := 10) (k := 1) C g3 rfl inlJx4a65c (by decide) q_44 (fun _ h9 => h9) dJx4a65c_remove_915e3_10 ?_
  refine z_astore_n (lv' := [(2, .ref r3), (0, .ref a0), (1, .int x1)]) (pc := 13) C dJx4a65c_remove_915e3_13 (by decide) rfl ?_
  refine z_aload_n (k := 0) (pc := 14) C dJx4a65c_remove_915e3_14 rfl ?_
  refine z_iload_n (k := 2) (pc := 15) C dJx4a65c_remove_915e3_15 rfl ?_
  obtain ⟨r4, g4, hM⟩ := Option.bind_eq_some_iff.mp hM
  refine z_aald (pc := 16) C g4 dJx4a65c_remove_915e3_16 ?_
  refine z_astore_n (lv' := [(3, .ref r4), (2, .ref r3), (0, .ref a0), (1, .int x1)]) (pc := 17) C dJx4a65c_remove_915e3_17 (by decide) rfl ?_
  refine z_aload_n (k := 2) (pc := 18) C dJx4a65c_remove_915e3_18 rfl ?_
  refine z_aload_n (k := 1) (pc := 19) C dJx4a65c_remove_915e3_19 rfl ?_
  refine z_iload_n (k := 3) (pc := 20) C dJx4a65c_remove_915e3_20 rfl ?_
  obtain ⟨_, g5, hM⟩ := Option.bind_eq_some_iff.mp hM
  obtain ⟨r6, g6, hM⟩ := Option.bind_eq_some_iff.mp hM
  refine z_goN (kc := 0) (ks := 0) ([]) (z_callV (pc := 21) (As := [.ref r3, .int x1]) (rest := []) (n := 2) (ci := 0) C (c_Jx4a65c_fastRemove_b59b0 l hl G lo t0 h nx a0 r3 x1 r6 g6) g5 rfl q_283 q_284 q_285 q_23 q_286 ⟨rfl, by decide +kernel, by decide +kernel, by decide +kernel⟩ ⟨Nat.le_of_ble_eq_true rfl, Nat.le_of_ble_eq_true rfl⟩ rfl (Nat.le_of_ble_eq_true rfl) dJx4a65c_remove_915e3_21 ⟨(Nat.zero_le _), (Nat.zero_le _)⟩) rfl (Nat.le_of_ble_eq_true rfl) (Nat.le_of_ble_eq_true rfl) ?_
  refine z_aload_n (k := 0) (pc := 24) C dJx4a65c_remove_915e3_24 rfl ?_
  cases hM
  exact z_aret (pc := 25) C (Or.inl ⟨_, rfl⟩) rfl (Nat.zero_le _) (Nat.zero_le _) dJx4a65c_remove_915e3_25
