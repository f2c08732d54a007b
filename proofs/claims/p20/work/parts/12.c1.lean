/-! by program out of the bytecode (wip/whole/gen.py): the mirrors, then the walks -/
noncomputable def M_X1_init (h : zH) (nx : Nat) (t0 : Nat) (a0 : Nat) : Option (zH × Nat) := (M_Jx4a65c_init_da8c8 (z_up h nx (zO 0 [.int 0, .null, .int 0])) t0 nx).bind fun r1 => (z_pV r1 a0 2 0 (.ref nx)).bind fun h_2 => (z_pV (z_up h_2 (nx + 1) (zI 576 (fun _ => 0))) a0 2 1 (.ref (nx + 1))).bind fun h_3 => (z_pV (z_up h_3 ((nx + 1) + 1) (zI 576 (fun _ => 0))) a0 2 2 (.ref ((nx + 1) + 1))).bind fun h_4 => (z_pV (z_up h_4 (((nx + 1) + 1) + 1) (zI 576 (fun _ => 0))) a0 2 3 (.ref (((nx + 1) + 1) + 1))).bind fun h_5 => (z_pV h_5 a0 2 4 (.int (0 : Int32))).bind fun h_6 => (some (h_6, ((((nx + 1) + 1) + 1) + 1)))
noncomputable def M_X1_size (h : zH) (a0 : Nat) : Option (Int32) := (z_gR h a0 2 0).bind fun r1 => (z_ck h r1 0).bind fun _ => (M_Jx4a65c_size_8abf5 h r1).bind fun r3 => (some r3)
noncomputable def M_X1_sizeOut (h : zH) (a0 : Nat) : Option (Int32) := wl2 (fun rec1 (x1_1 : Int32) (x2_1 : Int32) => (z_gR h a0 2 0).bind fun r2 => (z_ck h r2 0).bind fun _ => (M_Jx4a65c_size_8abf5 h r2).bind fun r4 => (if r4 ≤ x2_1 then (some x1_1) else (z_gR h a0 2 0).bind fun r5 => (z_ck h r5 0).bind fun _ => (M_Jx4a65c_get_915e3 h r5 x2_1).bind fun r7 => (z_ck h r7 1).bind fun _ => (z_gI h r7 1 6).bind fun r9 => jn1 (fun (x1_10 : Int32) => (rec1 x1_10 (x2_1 + (1 : Int32)))) fun J10 => (if r9 = 0 then (J10 x1_1) else (J10 (x1_1 + (1 : Int32)))))) 700 (0 : Int32) (0 : Int32)
noncomputable def M_X1_numbered (h : zH) (a0 : Nat) (x1 : Int32) : Option (String ⊕ (Nat)) := (if x1 < 0 then (some (.inl "java/lang/IndexOutOfBoundsException")) else (z_gR h a0 2 0).bind fun r1 => (z_ck h r1 0).bind fun _ => (M_Jx4a65c_size_8abf5 h r1).bind fun r3 => (if x1 < r3 then (z_gR h a0 2 0).bind fun r4 => (z_ck h r4 0).bind fun _ => (M_Jx4a65c_get_915e3 h r4 x1).bind fun r6 => (z_ck h r6 1).bind fun _ => (some (.inr r6)) else (some (.inl "java/lang/IndexOutOfBoundsException"))))
noncomputable def M_X1_layOver (h : zH) (a0 : Nat) (a1 : Nat) : Option (zH) := (z_gI h a1 1 1).bind fun r1 => wl2 (fun rec2 (x2_2 : Int32) (h_2 : zH) => (z_gI h_2 a1 1 1).bind fun r3 => (z_gI h_2 a1 1 3).bind fun r4 => (if (r3 + r4) ≤ x2_2 then (some h_2) else (z_gI h_2 a1 1 0).bind fun r5 => wl2 (fun rec6 (x3_6 : Int32) (h_6 : zH) => (z_gI h_6 a1 1 0).bind fun r7 => (z_gI h_6 a1 1 2).bind fun r8 => (if (r7 + r8) ≤ x3_6 then (rec2 (x2_2 + (1 : Int32)) h_6) else (M_X4_isCell x3_6 x2_2).bind fun r9 => jn1 (fun (h_10 : zH) => (rec6 (x3_6 + (1 : Int32)) h_10)) fun J10 => (if r9 = 0 then (J10 h_6) else (z_gR h_6 a0 2 1).bind fun r11 => (z_aI h_6 r11 ((x2_2 * (24 : Int32)) + x3_6)).bind fun r12 => (z_sI h_6 r11 ((x2_2 * (24 : Int32)) + x3_6) (r12 + (1 : Int32))).bind fun h_13 => (J10 h_13)))) 700 r5 h_2)) 700 r1 h
noncomputable def M_X1_layOut (h : zH) (a0 : Nat) : Option (zH) := (z_gR h a0 2 1).bind fun r1 => (M_J7_fill_53178 h r1 (0 : Int32)).bind fun r2 => wl2 (fun rec3 (x1_3 : Int32) (h_3 : zH) => (z_gR h_3 a0 2 0).bind fun r4 => (z_ck h_3 r4 0).bind fun _ => (M_Jx4a65c_size_8abf5 h_3 r4).bind fun r6 => (if r6 ≤ x1_3 then (some h_3) else (z_gR h_3 a0 2 0).bind fun r7 => (z_ck h_3 r7 0).bind fun _ => (M_Jx4a65c_get_915e3 h_3 r7 x1_3).bind fun r9 => (z_ck h_3 r9 1).bind fun _ => (z_gI h_3 r9 1 6).bind fun r11 => jn1 (fun (h_12 : zH) => (rec3 (x1_3 + (1 : Int32)) h_12)) fun J12 => (if r11 = 0 then (J12 h_3) else (z_gR h_3 a0 2 0).bind fun r13 => (z_ck h_3 r13 0).bind fun _ => (M_Jx4a65c_get_915e3 h_3 r13 x1_3).bind fun r15 => (z_ck h_3 r15 1).bind fun _ => (z_ck h_3 a0 2).bind fun _ => (M_X1_layOver h_3 a0 r15).bind fun r18 => (J12 r18)))) 700 (0 : Int32) r2
noncomputable def M_X1_append (h : zH) (nx : Nat) (t0 : Nat) (a0 : Nat) (a1 : Nat) : Option (zH × Nat) := (z_gR h a0 2 0).bind fun r1 => (z_ck h r1 0).bind fun _ => (M_Jx4a65c_add_9ea2d h nx t0 r1 a1).bind fun r3 => (z_ck r3.2.1 a0 2).bind fun _ => (M_X1_layOut r3.2.1 a0).bind fun r5 => (some (r5, r3.2.2))
noncomputable def M_X1_drop (h : zH) (a0 : Nat) (x1 : Int32) : Option (String ⊕ (zH)) := (if x1 < 0 then (some (.inl "java/lang/IndexOutOfBoundsException")) else (z_gR h a0 2 0).bind fun r1 => (z_ck h r1 0).bind fun _ => (M_Jx4a65c_size_8abf5 h r1).bind fun r3 => (if x1 < r3 then (z_gR h a0 2 0).bind fun r4 => (z_ck h r4 0).bind fun _ => (M_Jx4a65c_remove_915e3 h r4 x1).bind fun r6 => (z_ck r6.2 a0 2).bind fun _ => (M_X1_layOut r6.2 a0).bind fun r8 => (some (.inr r8)) else (some (.inl "java/lang/IndexOutOfBoundsException"))))
noncomputable def M_X1_layersAt (h : zH) (a0 : Nat) (x1 : Int32) (x2 : Int32) : Option (Int32) := (M_X4_isCell x1 x2).bind fun r1 => (if r1 = 0 then (some (0 : Int32)) else (z_gR h a0 2 1).bind fun r2 => (z_aI h r2 ((x2 * (24 : Int32)) + x1)).bind fun r3 => (some r3))
noncomputable def M_X1_highestBelow (h : zH) (a0 : Nat) (x1 : Int32) (x2 : Int32) (x3 : Int32) : Option (Int32) := wl3 (fun rec1 (x4_1 : Int32) (x5_1 : Int32) (x6_1 : Int32) => (z_gR h a0 2 0).bind fun r2 => (z_ck h r2 0).bind fun _ => (M_Jx4a65c_size_8abf5 h r2).bind fun r4 => (if r4 ≤ x6_1 then (some x4_1) else (z_gR h a0 2 0).bind fun r5 => (z_ck h r5 0).bind fun _ => (M_Jx4a65c_get_915e3 h r5 x6_1).bind fun r7 => (z_ck h r7 1).bind fun _ => (z_gI h r7 1 4).bind fun r9 => jn2 (fun (x4_10 : Int32) (x5_10 : Int32) => (rec1 x4_10 x5_10 (x6_1 + (1 : Int32)))) fun J10 => (if x1 ≤ r9 then (J10 x4_1 x5_1) else (z_gI h r7 1 4).bind fun r11 => (if r11 ≤ x5_1 then (J10 x4_1 x5_1) else (M_X0_covers h r7 x2 x3).bind fun r12 => (if r12 = 0 then (J10 x4_1 x5_1) else (z_gI h r7 1 4).bind fun r13 => (J10 x6_1 r13)))))) 700 (-1 : Int32) (0 : Int32) (0 : Int32)
noncomputable def M_X1_cellsWithLayers (h : zH) (a0 : Nat) (x1 : Int32) : Option (Int32) := wl2 (fun rec1 (x2_1 : Int32) (x3_1 : Int32) => (if (576 : Int32) ≤ x3_1 then (some x2_1) else (z_gR h a0 2 1).bind fun r2 => (z_aI h r2 x3_1).bind fun r3 => jn1 (fun (x2_4 : Int32) => (rec1 x2_4 (x3_1 + (1 : Int32)))) fun J4 => (if r3 < x1 then (J4 x2_1) else (J4 (x2_1 + (1 : Int32)))))) 700 (0 : Int32) (0 : Int32)
noncomputable def M_X1_covered (h : zH) (a0 : Nat) : Option (Int32) := (z_ck h a0 2).bind fun _ => (M_X1_cellsWithLayers h a0 (1 : Int32)).bind fun r2 => (some r2)
noncomputable def M_X1_coveredOnlyBy (h : zH) (a0 : Nat) (a1 : Nat) : Option (Int32) := (z_gI h a1 1 6).bind fun r1 => (if r1 = 0 then (some (0 : Int32)) else (z_gI h a1 1 1).bind fun r2 => wl2 (fun rec3 (x2_3 : Int32) (x3_3 : Int32) => (z_gI h a1 1 1).bind fun r4 => (z_gI h a1 1 3).bind fun r5 => (if (r4 + r5) ≤ x3_3 then (some x2_3) else (z_gI h a1 1 0).bind fun r6 => wl2 (fun rec7 (x2_7 : Int32) (x4_7 : Int32) => (z_gI h a1 1 0).bind fun r8 => (z_gI h a1 1 2).bind fun r9 => (if (r8 + r9) ≤ x4_7 then (rec3 x2_7 (x3_3 + (1 : Int32))) else (z_ck h a0 2).bind fun _ => (M_X1_layersAt h a0 x4_7 x3_3).bind fun r11 => jn1 (fun (x2_12 : Int32) => (rec7 x2_12 (x4_7 + (1 : Int32)))) fun J12 => (if r11 = (1 : Int32) then (J12 (x2_7 + (1 : Int32))) else (J12 x2_7)))) 700 x2_3 r6)) 700 (0 : Int32) r2)
noncomputable def M_X1_openAt (h : zH) (a0 : Nat) (x1 : Int32) (x2 : Int32) : Option (Int32) := (z_ck h a0 2).bind fun _ => (M_X1_layersAt h a0 x1 x2).bind fun r2 => (if r2 = 0 then (some (1 : Int32)) else (some (0 : Int32)))
noncomputable def M_X1_openSides (h : zH) (a0 : Nat) (x1 : Int32) (x2 : Int32) : Option (Int32) := (z_ck h a0 2).bind fun _ => (M_X1_openAt h a0 (x1 - (1 : Int32)) x2).bind fun r2 => (M_X1_openAt h a0 x1 (x2 - (1 : Int32))).bind fun r3 => (M_X1_openAt h a0 (x1 + (1 : Int32)) x2).bind fun r4 => (M_X1_openAt h a0 x1 (x2 + (1 : Int32))).bind fun r5 => (some (((r2 + r3) + r4) + r5))
noncomputable def M_X1_outline (h : zH) (a0 : Nat) : Option (Int32) := wl2 (fun rec1 (x1_1 : Int32) (x2_1 : Int32) => (if (24 : Int32) ≤ x2_1 then (some x1_1) else wl2 (fun rec2 (x1_2 : Int32) (x3_2 : Int32) => (if (24 : Int32) ≤ x3_2 then (rec1 x1_2 (x2_1 + (1 : Int32))) else (z_ck h a0 2).bind fun _ => (M_X1_layersAt h a0 x3_2 x2_1).bind fun r4 => jn1 (fun (x1_5 : Int32) => (rec2 x1_5 (x3_2 + (1 : Int32)))) fun J5 => (if r4 ≤ 0 then (J5 x1_2) else (M_X1_openSides h a0 x3_2 x2_1).bind fun r6 => (J5 (x1_2 + r6))))) 700 x1_1 (0 : Int32))) 700 (0 : Int32) (0 : Int32)
noncomputable def M_X1_reach (h : zH) (a0 : Nat) (x1 : Int32) (x2 : Int32) : Option (zH) := (z_ck h a0 2).bind fun _ => (M_X1_layersAt h a0 x1 x2).bind fun r2 => (if r2 = 0 then (some h) else (M_X4_isCell x1 x2).bind fun r3 => (if r3 = 0 then (some h) else (z_gR h a0 2 2).bind fun r4 => (z_aI h r4 ((x2 * (24 : Int32)) + x1)).bind fun r5 => (if r5 = 0 then (z_gI h a0 2 4).bind fun r6 => (if r6 < 0 then (some h) else (z_gI h a0 2 4).bind fun r7 => (if (576 : Int32) ≤ r7 then (some h) else (z_gR h a0 2 2).bind fun r8 => (z_sI h r8 ((x2 * (24 : Int32)) + x1) (1 : Int32)).bind fun h_9 => (z_gR h_9 a0 2 3).bind fun r10 => (z_gI h_9 a0 2 4).bind fun r11 => (z_sI h_9 r10 r11 ((x2 * (24 : Int32)) + x1)).bind fun h_12 => (z_gI h_12 a0 2 4).bind fun r13 => (z_pV h_12 a0 2 4 (.int (r13 + (1 : Int32)))).bind fun h_14 => (some h_14))) else (some h))))
noncomputable def M_X1_reachAllFromQueue (h : zH) (a0 : Nat) : Option (zH) := wl2 (fun rec1 (x1_1 : Int32) (h_1 : zH) => (z_gI h_1 a0 2 4).bind fun r2 => (if r2 ≤ x1_1 then (some h_1) else (if (576 : Int32) ≤ x1_1 then (some h_1) else (z_gR h_1 a0 2 3).bind fun r3 => (z_aI h_1 r3 x1_1).bind fun r4 => (z_gR h_1 a0 2 3).bind fun r5 => (z_aI h_1 r5 x1_1).bind fun r6 => (z_ck h_1 a0 2).bind fun _ => (M_X1_reach h_1 a0 ((r4 - r4 / (24 : Int32) * (24 : Int32)) - (1 : Int32)) (r6 / (24 : Int32))).bind fun r8 => (z_ck r8 a0 2).bind fun _ => (M_X1_reach r8 a0 (r4 - r4 / (24 : Int32) * (24 : Int32)) ((r6 / (24 : Int32)) - (1 : Int32))).bind fun r10 => (z_ck r10 a0 2).bind fun _ => (M_X1_reach r10 a0 ((r4 - r4 / (24 : Int32) * (24 : Int32)) + (1 : Int32)) (r6 / (24 : Int32))).bind fun r12 => (z_ck r12 a0 2).bind fun _ => (M_X1_reach r12 a0 (r4 - r4 / (24 : Int32) * (24 : Int32)) ((r6 / (24 : Int32)) + (1 : Int32))).bind fun r14 => (rec1 (x1_1 + (1 : Int32)) r14)))) 700 (0 : Int32) h
noncomputable def M_X1_parts (h : zH) (a0 : Nat) : Option (Int32 × zH) := (z_gR h a0 2 2).bind fun r1 => (M_J7_fill_53178 h r1 (0 : Int32)).bind fun r2 => wl3 (fun rec3 (x1_3 : Int32) (x2_3 : Int32) (h_3 : zH) => (if (24 : Int32) ≤ x2_3 then (some (x1_3, h_3)) else wl3 (fun rec4 (x1_4 : Int32) (x3_4 : Int32) (h_4 : zH) => (if (24 : Int32) ≤ x3_4 then (rec3 x1_4 (x2_3 + (1 : Int32)) h_4) else (z_pV h_4 a0 2 4 (.int (0 : Int32))).bind fun h_5 => (z_ck h_5 a0 2).bind fun _ => (M_X1_reach h_5 a0 x3_4 x2_3).bind fun r7 => (z_gI r7 a0 2 4).bind fun r8 => jn2 (fun (x1_9 : Int32) (h_9 : zH) => (rec4 x1_9 (x3_4 + (1 : Int32)) h_9)) fun J9 => (if r8 ≤ 0 then (J9 x1_4 r7) else (z_ck r7 a0 2).bind fun _ => (M_X1_reachAllFromQueue r7 a0).bind fun r11 => (J9 (x1_4 + (1 : Int32)) r11)))) 700 x1_3 (0 : Int32) h_3)) 700 (0 : Int32) (0 : Int32) r2
noncomputable def M_X1_coveredInColumn (h : zH) (a0 : Nat) (x1 : Int32) : Option (Int32) := wl2 (fun rec1 (x2_1 : Int32) (x3_1 : Int32) => (if (24 : Int32) ≤ x3_1 then (some x2_1) else (z_ck h a0 2).bind fun _ => (M_X1_layersAt h a0 x1 x3_1).bind fun r3 => jn1 (fun (x2_4 : Int32) => (rec1 x2_4 (x3_1 + (1 : Int32)))) fun J4 => (if r3 ≤ 0 then (J4 x2_1) else (J4 (x2_1 + (1 : Int32)))))) 700 (0 : Int32) (0 : Int32)
noncomputable def M_X1_runsInColumn (h : zH) (a0 : Nat) (x1 : Int32) : Option (Int32) := wl2 (fun rec1 (x2_1 : Int32) (x3_1 : Int32) => (if (24 : Int32) ≤ x3_1 then (some x2_1) else (z_ck h a0 2).bind fun _ => (M_X1_layersAt h a0 x1 x3_1).bind fun r3 => jn1 (fun (x2_4 : Int32) => (rec1 x2_4 (x3_1 + (1 : Int32)))) fun J4 => (if r3 ≤ 0 then (J4 x2_1) else (M_X1_layersAt h a0 x1 (x3_1 - (1 : Int32))).bind fun r5 => (if r5 = 0 then (J4 (x2_1 + (1 : Int32))) else (J4 x2_1))))) 700 (0 : Int32) (0 : Int32)
noncomputable def M_X1_longestRunInColumn (h : zH) (a0 : Nat) (x1 : Int32) : Option (Int32) := wl3 (fun rec1 (x2_1 : Int32) (x3_1 : Int32) (x4_1 : Int32) => (if (24 : Int32) ≤ x4_1 then (some x2_1) else (z_ck h a0 2).bind fun _ => (M_X1_layersAt h a0 x1 x4_1).bind fun r3 => jn1 (fun (s0_4 : Int32) => (rec1 (if x2_1 < s0_4 then s0_4 else x2_1) s0_4 (x4_1 + (1 : Int32)))) fun J4 => (if r3 ≤ 0 then (J4 (0 : Int32)) else (J4 (x3_1 + (1 : Int32)))))) 700 (0 : Int32) (0 : Int32) (0 : Int32)
noncomputable def M_X1_mostLayersInColumn (h : zH) (a0 : Nat) (x1 : Int32) : Option (Int32) := wl2 (fun rec1 (x2_1 : Int32) (x3_1 : Int32) => (if (24 : Int32) ≤ x3_1 then (some x2_1) else (z_ck h a0 2).bind fun _ => (M_X1_layersAt h a0 x1 x3_1).bind fun r3 => (rec1 (if x2_1 < r3 then r3 else x2_1) (x3_1 + (1 : Int32))))) 700 (0 : Int32) (0 : Int32)
set_option maxHeartbeats 4000000 in
set_option maxRecDepth 100000 in
theorem c_X1_init (l : Launch) (hl : l.stackTraces = false) (G : zG) (lo t0 : Nat) (h : zH) (nx : Nat) (a0 : Nat) (o : zH × Nat) (hM : M_X1_init h nx t0 a0 = some o) : z_Met l yX1_init cX1_init 1 none 4 82 G lo t0 [.ref a0] h nx (.inr (none, o.1, o.2)) 4 1731 := by
  refine z_of [(0, .ref a0)] (by decide) (Nat.le_of_ble_eq_true rfl) rfl (fun p e s m below meth c C hin => ?_)
  unfold M_X1_init at hM
  refine z_aload_n (k := 0) (pc := 0) C dX1_init_0 rfl ?_
  refine z_obj (pc := 1) C q_33 q_11 q_12 (Nat.le_of_ble_eq_true rfl) (Nat.le_of_ble_eq_true rfl) dX1_init_1 ?_
  refine z_aload_n (k := 0) (pc := 4) C dX1_init_4 rfl ?_
  refine z_new (pc := 5) C [.int 0, .null, .int 0] (ci := 0) rfl inlJx4a65c tyJx4a65c tyJx4a65c_ok q_34 q_22 q_23 (fun j hj => by rcases (show j = 0 ∨ j = 1 ∨ j = 2 by omega) with rfl | rfl | rfl <;> rfl) (Nat.le_of_ble_eq_true rfl) (Nat.le_of_ble_eq_true rfl) dX1_init_5 ?_
  refine z_dup (pc := 8) C dX1_init_8 rfl ?_
  obtain ⟨r1, g1, hM⟩ := Option.bind_eq_some_iff.mp hM
  refine z_goN (kc := 1) (ks := 3) ([.ref nx, .ref a0]) (z_callI (pc := 9) (As := []) (rest := [.ref nx, .ref a0]) (n := 0) C (c_Jx4a65c_init_da8c8 l hl G lo t0 (z_up h nx (zO 0 [.int 0, .null, .int 0])) (nx + 1) nx r1 g1) rfl q_40 q_41 q_23 q_42 ⟨by decide +kernel, by decide +kernel, by decide +kernel⟩ ⟨Nat.le_of_ble_eq_true rfl, Nat.le_of_ble_eq_true rfl⟩ rfl (Nat.le_of_ble_eq_true rfl) dX1_init_9 ⟨(Nat.le_of_ble_eq_true rfl), (Nat.le_of_ble_eq_true rfl)⟩) rfl (Nat.le_of_ble_eq_true rfl) (Nat.le_of_ble_eq_true rfl) ?_
  obtain ⟨h_2, g2, hM⟩ := Option.bind_eq_some_iff.mp hM
  refine z_putF (pc := 12) (k := 0) C g2 rfl inlX1 tyX1 tyX1_ok nmX1 (by decide) q_35 (fun _ h9 => h9) rfl hin rfl (tyX1_ok 0 (by decide)) rfl rfl dX1_init_12 ?_
  refine z_aload_n (k := 0) (pc := 15) C dX1_init_15 rfl ?_
  refine z_sipush (v := (576 : Int32)) (pc := 16) C dX1_init_16 (by decide) ?_
  refine z_newI (pc := 19) (n' := 576) C q_25 (by decide) (by decide) (by decide) (Nat.le_of_ble_eq_true rfl) (Nat.le_of_ble_eq_true rfl) dX1_init_19 ?_
  obtain ⟨h_3, g3, hM⟩ := Option.bind_eq_some_iff.mp hM
  refine z_putF (pc := 21) (k := 1) C g3 rfl inlX1 tyX1 tyX1_ok nmX1 (by decide) q_36 (fun _ h9 => h9) rfl hin rfl (tyX1_ok 1 (by decide)) rfl rfl dX1_init_21 ?_
  refine z_aload_n (k := 0) (pc := 24) C dX1_init_24 rfl ?_
  refine z_sipush (v := (576 : Int32)) (pc := 25) C dX1_init_25 (by decide) ?_
  refine z_newI (pc := 28) (n' := 576) C q_25 (by decide) (by decide) (by decide) (Nat.le_of_ble_eq_true rfl) (Nat.le_of_ble_eq_true rfl) dX1_init_28 ?_
  obtain ⟨h_4, g4, hM⟩ := Option.bind_eq_some_iff.mp hM
  refine z_putF (pc := 30) (k := 2) C g4 rfl inlX1 tyX1 tyX1_ok nmX1 (by decide) q_37 (fun _ h9 => h9) rfl hin rfl (tyX1_ok 2 (by decide)) rfl rfl dX1_init_30 ?_
  refine z_aload_n (k := 0) (pc := 33) C dX1_init_33 rfl ?_
  refine z_sipush (v := (576 : Int32)) (pc := 34) C dX1_init_34 (by decide) ?_
  refine z_newI (pc := 37) (n' := 576) C q_25 (by decide) (by decide) (by decide) (Nat.le_of_ble_eq_true rfl) (Nat.le_of_ble_eq_true rfl) dX1_init_37 ?_
  obtain ⟨h_5, g5, hM⟩ := Option.bind_eq_some_iff.mp hM
  refine z_putF (pc := 39) (k := 3) C g5 rfl inlX1 tyX1 tyX1_ok nmX1 (by decide) q_38 (fun _ h9 => h9) rfl hin rfl (tyX1_ok 3 (by decide)) rfl rfl dX1_init_39 ?_
  refine z_aload_n (k := 0) (pc := 42) C dX1_init_42 rfl ?_
  refine z_iconst (v := (0 : Int32)) (pc := 43) C dX1_init_43 (by decide) ?_
  obtain ⟨h_6, g6, hM⟩ := Option.bind_eq_some_iff.mp hM
  refine z_put (pc := 44) (k := 4) C g6 rfl inlX1 tyX1 tyX1_ok nmX1 (by decide) q_39 (fun _ h9 => h9) rfl (tyX1_ok 4 (by decide)) rfl rfl dX1_init_44 ?_
  cases hM
  exact z_vret (pc := 47) C rfl (Nat.le_of_ble_eq_true rfl) (Nat.le_of_ble_eq_true rfl) dX1_init_47
set_option maxHeartbeats 4000000 in
set_option maxRecDepth 100000 in
theorem c_X1_size (l : Launch) (hl : l.stackTraces = false) (G : zG) (lo t0 : Nat) (h : zH) (nx : Nat) (a0 : Nat) (o : Int32) (hM : M_X1_size h a0 = some o) : z_Met l yX1_size cX1_size 1 (some .int) 1 20 G lo t0 [.ref a0] h nx (.inr (some (.int o), h, nx)) 0 0 := by
  refine z_of [(0, .ref a0)] (by decide) (Nat.le_of_ble_eq_true rfl) rfl (fun p e s m below meth c C hin => ?_)
  unfold M_X1_size at hM
  refine z_aload_n (k := 0) (pc := 0) C dX1_size_0 rfl ?_
  obtain ⟨r1, g1, hM⟩ := Option.bind_eq_some_iff.mp hM
  refine z_getR (pc := 1) (k := 0) C g1 rfl inlX1 (by decide) q_35 (fun _ h9 => h9) dX1_size_1 ?_
  obtain ⟨_, g2, hM⟩ := Option.bind_eq_some_iff.mp hM
  obtain ⟨r3, g3, hM⟩ := Option.bind_eq_some_iff.mp hM
  refine z_goN (kc := 0) (ks := 0) ([.int r3]) (z_callV (pc := 4) (As := []) (rest := []) (n := 0) (ci := 0) C (c_Jx4a65c_size_8abf5 l hl G lo t0 h nx r1 r3 g3) g2 rfl q_120 q_121 q_122 q_23 q_123 ⟨rfl, by decide +kernel, by decide +kernel, by decide +kernel⟩ ⟨Nat.le_of_ble_eq_true rfl, Nat.le_of_ble_eq_true rfl⟩ rfl (Nat.le_of_ble_eq_true rfl) dX1_size_4 ⟨(Nat.zero_le _), (Nat.zero_le _)⟩) rfl (Nat.le_of_ble_eq_true rfl) (Nat.le_of_ble_eq_true rfl) ?_
  cases hM
  exact z_iret (pc := 7) C rfl (Nat.zero_le _) (Nat.zero_le _) dX1_size_7
set_option maxHeartbeats 4000000 in
set_option maxRecDepth 100000 in
theorem c_X1_sizeOut (l : Launch) (hl : l.stackTraces = false) (G : zG) (lo t0 : Nat) (h : zH) (nx : Nat) (a0 : Nat) (o : Int32) (hM : M_X1_sizeOut h a0 = some o) : z_Met l yX1_sizeOut cX1_sizeOut 3 (some .int) 3 64 G lo t0 [.ref a0] h nx (.inr (some (.int o), h, nx)) 0 0 := by
  refine z_of [(0, .ref a0)] (by decide) (Nat.le_of_ble_eq_true rfl) rfl (fun p e s m below meth c C hin => ?_)
  unfold M_X1_sizeOut at hM
  refine z_iconst (v := (0 : Int32)) (pc := 0) C dX1_sizeOut_0 (by decide) ?_
  refine z_istore_n (lv' := [(1, .int (0 : Int32)), (0, .ref a0)]) (pc := 1) C dX1_sizeOut_1 (by decide) rfl ?_
  refine z_iconst (v := (0 : Int32)) (pc := 2) C dX1_sizeOut_2 (by decide) ?_
  refine z_istore_n (lv' := [(2, .int (0 : Int32)), (1, .int (0 : Int32)), (0, .ref a0)]) (pc := 3) C dX1_sizeOut_3 (by decide) rfl ?_
  refine z_sub [2, 1, 0] rfl (zl2 (fun (x1_1 : Int32) (x2_1 : Int32) => [(0, .ref a0), (1, .int x1_1), (2, .int x2_1)]) (fun (x1_1 : Int32) (x2_1 : Int32) => h) (fun (x1_1 : Int32) (x2_1 : Int32) => nx) hM (fun rec1 irec1 x1_1 x2_1 hM => ?_))
  refine z_iload_n (k := 2) (pc := 4) C dX1_sizeOut_4 rfl ?_
  refine z_aload_n (k := 0) (pc := 5) C dX1_sizeOut_5 rfl ?_
  obtain ⟨r2, g2, hM⟩ := Option.bind_eq_some_iff.mp hM
  refine z_getR (pc := 6) (k := 0) C g2 rfl inlX1 (by decide) q_35 (fun _ h9 => h9) dX1_sizeOut_6 ?_
  obtain ⟨_, g3, hM⟩ := Option.bind_eq_some_iff.mp hM
  obtain ⟨r4, g4, hM⟩ := Option.bind_eq_some_iff.mp hM
  refine z_goN (kc := 0) (ks := 0) ([.int r4, .int x2_1]) (z_callV (pc := 9) (As := []) (rest := [.int x2_1]) (n := 0) (ci := 0) C (c_Jx4a65c_size_8abf5 l hl G lo t0 h nx r2 r4 g4) g3 rfl q_120 q_121 q_122 q_23 q_123 ⟨rfl, by decide +kernel, by decide +kernel, by decide +kernel⟩ ⟨Nat.le_of_ble_eq_true rfl, Nat.le_of_ble_eq_true rfl⟩ rfl (Nat.le_of_ble_eq_true rfl) dX1_sizeOut_9 ⟨(Nat.zero_le _), (Nat.zero_le _)⟩) rfl (Nat.le_of_ble_eq_true rfl) (Nat.le_of_ble_eq_true rfl) ?_
  refine z_icmp_ge (pc := 12) (tgt := 41) C dX1_sizeOut_12 (by decide) hM (fun hc12 hM => ?_) (fun hc12 hM => ?_)
  · refine z_iload_n (k := 1) (pc := 41) C dX1_sizeOut_41 rfl ?_
    cases hM
    exact z_iret (pc := 42) C rfl (Nat.zero_le _) (Nat.zero_le _) dX1_sizeOut_42
  · refine z_aload_n (k := 0) (pc := 15) C dX1_sizeOut_15 rfl ?_
    obtain ⟨r5, g5, hM⟩ := Option.bind_eq_some_iff.mp hM
    refine z_getR (pc := 16) (k := 0) C g5 rfl inlX1 (by decide) q_35 (fun _ h9 => h9) dX1_sizeOut_16 ?_
    refine z_iload_n (k := 2) (pc := 19) C dX1_sizeOut_19 rfl ?_
    obtain ⟨_, g6, hM⟩ := Option.bind_eq_some_iff.mp hM
    obtain ⟨r7, g7, hM⟩ := Option.bind_eq_some_iff.mp hM
    refine z_goN (kc := 0) (ks := 0) ([.ref r7]) (z_callV (pc := 20) (As := [.int x2_1]) (rest := []) (n := 1) (ci := 0) C (c_Jx4a65c_get_915e3 l hl G lo t0 h nx r5 x2_1 r7 g7) g6 rfl q_199 q_200 q_201 q_23 q_202 ⟨rfl, by decide +kernel, by decide +kernel, by decide +kernel⟩ ⟨Nat.le_of_ble_eq_true rfl, Nat.le_of_ble_eq_true rfl⟩ rfl (Nat.le_of_ble_eq_true rfl) dX1_sizeOut_20 ⟨(Nat.zero_le _), (Nat.zero_le _)⟩) rfl (Nat.le_of_ble_eq_true rfl) (Nat.le_of_ble_eq_true rfl) ?_
    obtain ⟨_, g8, hM⟩ := Option.bind_eq_some_iff.mp hM
    refine z_cast (pc := 23) C g8 (ci := 1) rfl q_194 dX1_sizeOut_23 ?_
    obtain ⟨r9, g9, hM⟩ := Option.bind_eq_some_iff.mp hM
    refine z_getI (pc := 26) (k := 6) C g9 rfl inlX0 (by decide) q_195 (fun _ h9 => h9) dX1_sizeOut_26 ?_
    refine zj1 0 0 35 (fun (x1_10 : Int32) => [(0, .ref a0), (1, .int x1_10), (2, .int x2_1)]) (fun (x1_10 : Int32) => []) (fun (x1_10 : Int32) => h) (fun (x1_10 : Int32) => nx) hM (fun x1_10 hM => ?_) (fun J10 iJ10 hM => ?_)
    · refine z_iinc (k := 2) (v := (x2_1 + (1 : Int32))) (lv' := [(2, .int (x2_1 + (1 : Int32))), (0, .ref a0), (1, .int x1_10)]) (pc := 35) C dX1_sizeOut_35 rfl (by first | rfl | decide) (by decide) rfl ?_
      refine z_goto (pc := 38) (tgt := 4) C dX1_sizeOut_38 (by decide) ?_
      exact z_sub [1, 2, 0] rfl (irec1 x1_10 (x2_1 + (1 : Int32)) hM)
    refine z_if_eq (pc := 29) (tgt := 35) C dX1_sizeOut_29 (by decide) hM (fun hc11 hM => ?_) (fun hc11 hM => ?_)
    · exact z_sub [0, 1, 2] rfl (iJ10 x1_1 hM)
    · refine z_iinc (k := 1) (v := (x1_1 + (1 : Int32))) (lv' := [(1, .int (x1_1 + (1 : Int32))), (0, .ref a0), (2, .int x2_1)]) (pc := 32) C dX1_sizeOut_32 rfl (by first | rfl | decide) (by decide) rfl ?_
      exact z_sub [1, 0, 2] rfl (iJ10 (x1_1 + (1 : Int32)) hM)
set_option maxHeartbeats 4000000 in
set_option maxRecDepth 100000 in
theorem c_X1_numbered (l : Launch) (hl : l.stackTraces = false) (G : zG) (lo t0 : Nat) (h : zH) (nx : Nat) (a0 : Nat) (x1 : Int32) (o : String ⊕ (Nat)) (hM : M_X1_numbered h a0 x1 = some o) : z_Met l yX1_numbered cX1_numbered 2 (some (.object "MarketAwnings$Awning")) 6 90 G lo t0 [.ref a0, .int x1] h nx (z_eo h o (fun z : Nat => (some (.ref z), h, nx))) (z_mo o 1 0) (z_mo o 6 0) := by
  refine z_of [(0, .ref a0), (1, .int x1)] (by decide) (Nat.le_of_ble_eq_true rfl) rfl (fun p e s m below meth c C hin => ?_)
  unfold M_X1_numbered at hM
  refine z_iload_n (k := 1) (pc := 0) C dX1_numbered_0 rfl ?_
  refine z_if_lt (pc := 1) (tgt := 15) C dX1_numbered_1 (by decide) hM (fun hc9 hM => ?_) (fun hc9 hM => ?_)
  · cases hM
    exact z_throw (pc := 15) (text := "there is no such awning") (names := ["java/lang/RuntimeException", "java/lang/Exception"]) C ne_X1 hl (by decide) (by decide) q_234 q_115 (by decide) ax_X1_50 ax_X1_50_b (by decide) ax_X1_50_g dX1_numbered_15 dX1_numbered_18 dX1_numbered_19 dX1_numbered_21 dX1_numbered_24 (Nat.le_of_ble_eq_true rfl) (Nat.le_of_ble_eq_true rfl) (Nat.le_of_ble_eq_true rfl) (Nat.le_of_ble_eq_true rfl) rfl (Nat.le_of_ble_eq_true rfl) (Nat.le_of_ble_eq_true rfl)
  · refine z_iload_n (k := 1) (pc := 4) C dX1_numbered_4 rfl ?_
    refine z_aload_n (k := 0) (pc := 5) C dX1_numbered_5 rfl ?_
    obtain ⟨r1, g1, hM⟩ := Option.bind_eq_some_iff.mp hM
    refine z_getR (pc := 6) (k := 0) C g1 rfl inlX1 (by decide) q_35 (fun _ h9 => h9) dX1_numbered_6 ?_
    obtain ⟨_, g2, hM⟩ := Option.bind_eq_some_iff.mp hM
    obtain ⟨r3, g3, hM⟩ := Option.bind_eq_some_iff.mp hM
    refine z_goN (kc := 0) (ks := 0) ([.int r3, .int x1]) (z_callV (pc := 9) (As := []) (rest := [.int x1]) (n := 0) (ci := 0) C (c_Jx4a65c_size_8abf5 l hl G lo t0 h nx r1 r3 g3) g2 rfl q_120 q_121 q_122 q_23 q_123 ⟨rfl, by decide +kernel, by decide +kernel, by decide +kernel⟩ ⟨Nat.le_of_ble_eq_true rfl, Nat.le_of_ble_eq_true rfl⟩ rfl (Nat.le_of_ble_eq_true rfl) dX1_numbered_9 ⟨(Nat.zero_le _), (Nat.zero_le _)⟩) rfl (Nat.le_of_ble_eq_true rfl) (Nat.le_of_ble_eq_true rfl) ?_
    refine z_icmp_lt (pc := 12) (tgt := 25) C dX1_numbered_12 (by decide) hM (fun hc8 hM => ?_) (fun hc8 hM => ?_)
    · refine z_aload_n (k := 0) (pc := 25) C dX1_numbered_25 rfl ?_
      obtain ⟨r4, g4, hM⟩ := Option.bind_eq_some_iff.mp hM
      refine z_getR (pc := 26) (k := 0) C g4 rfl inlX1 (by decide) q_35 (fun _ h9 => h9) dX1_numbered_26 ?_
      refine z_iload_n (k := 1) (pc := 29) C dX1_numbered_29 rfl ?_
      obtain ⟨_, g5, hM⟩ := Option.bind_eq_some_iff.mp hM
      obtain ⟨r6, g6, hM⟩ := Option.bind_eq_some_iff.mp hM
      refine z_goN (kc := 0) (ks := 0) ([.ref r6]) (z_callV (pc := 30) (As := [.int x1]) (rest := []) (n := 1) (ci := 0) C (c_Jx4a65c_get_915e3 l hl G lo t0 h nx r4 x1 r6 g6) g5 rfl q_199 q_200 q_201 q_23 q_202 ⟨rfl, by decide +kernel, by decide +kernel, by decide +kernel⟩ ⟨Nat.le_of_ble_eq_true rfl, Nat.le_of_ble_eq_true rfl⟩ rfl (Nat.le_of_ble_eq_true rfl) dX1_numbered_30 ⟨(Nat.zero_le _), (Nat.zero_le _)⟩) rfl (Nat.le_of_ble_eq_true rfl) (Nat.le_of_ble_eq_true rfl) ?_
      obtain ⟨_, g7, hM⟩ := Option.bind_eq_some_iff.mp hM
      refine z_cast (pc := 33) C g7 (ci := 1) rfl q_194 dX1_numbered_33 ?_
      cases hM
      exact z_aret (pc := 36) C (Or.inl ⟨_, rfl⟩) rfl (Nat.zero_le _) (Nat.zero_le _) dX1_numbered_36
    · cases hM
      exact z_throw (pc := 15) (text := "there is no such awning") (names := ["java/lang/RuntimeException", "java/lang/Exception"]) C ne_X1 hl (by decide) (by decide) q_234 q_115 (by decide) ax_X1_50 ax_X1_50_b (by decide) ax_X1_50_g dX1_numbered_15 dX1_numbered_18 dX1_numbered_19 dX1_numbered_21 dX1_numbered_24 (Nat.le_of_ble_eq_true rfl) (Nat.le_of_ble_eq_true rfl) (Nat.le_of_ble_eq_true rfl) (Nat.le_of_ble_eq_true rfl) rfl (Nat.le_of_ble_eq_true rfl) (Nat.le_of_ble_eq_true rfl)
set_option maxHeartbeats 4000000 in
set_option maxRecDepth 100000 in
theorem c_X1_layOver (l : Launch) (hl : l.stackTraces = false) (G : zG) (lo t0 : Nat) (h : zH) (nx : Nat) (a0 : Nat) (a1 : Nat) (o : zH) (hM : M_X1_layOver h a0 a1 = some o) : z_Met l yX1_layOver cX1_layOver 4 none 1 21 G lo t0 [.ref a0, .ref a1] h nx (.inr (none, o, nx)) 0 0 := by
  refine z_of [(0, .ref a0), (1, .ref a1)] (by decide) (Nat.le_of_ble_eq_true rfl) rfl (fun p e s m below meth c C hin => ?_)
  unfold M_X1_layOver at hM
  refine z_aload_n (k := 1) (pc := 0) C dX1_layOver_0 rfl ?_
  obtain ⟨r1, g1, hM⟩ := Option.bind_eq_some_iff.mp hM
  refine z_getI (pc := 1) (k := 1) C g1 rfl inlX0 (by decide) q_219 (fun _ h9 => h9) dX1_layOver_1 ?_
  refine z_istore_n (lv' := [(2, .int r1), (0, .ref a0), (1, .ref a1)]) (pc := 4) C dX1_layOver_4 (by decide) rfl ?_
  refine z_sub [1, 2, 0] rfl (zl2 (fun (x2_2 : Int32) (h_2 : zH) => [(0, .ref a0), (1, .ref a1), (2, .int x2_2)]) (fun (x2_2 : Int32) (h_2 : zH) => h_2) (fun (x2_2 : Int32) (h_2 : zH) => nx) hM (fun rec2 irec2 x2_2 h_2 hM => ?_))
  refine z_iload_n (k := 2) (pc := 5) C dX1_layOver_5 rfl ?_
  refine z_aload_n (k := 1) (pc := 6) C dX1_layOver_6 rfl ?_
  obtain ⟨r3, g3, hM⟩ := Option.bind_eq_some_iff.mp hM
  refine z_getI (pc := 7) (k := 1) C g3 rfl inlX0 (by decide) q_219 (fun _ h9 => h9) dX1_layOver_7 ?_
  refine z_aload_n (k := 1) (pc := 10) C dX1_layOver_10 rfl ?_
  obtain ⟨r4, g4, hM⟩ := Option.bind_eq_some_iff.mp hM
  refine z_getI (pc := 11) (k := 3) C g4 rfl inlX0 (by decide) q_220 (fun _ h9 => h9) dX1_layOver_11 ?_
  refine z_iadd (pc := 14) C dX1_layOver_14 ?_
  refine z_icmp_ge (pc := 15) (tgt := 71) C dX1_layOver_15 (by decide) hM (fun hc16 hM => ?_) (fun hc16 hM => ?_)
  · cases hM
    exact z_vret (pc := 71) C rfl (Nat.zero_le _) (Nat.zero_le _) dX1_layOver_71
  · refine z_aload_n (k := 1) (pc := 18) C dX1_layOver_18 rfl ?_
    obtain ⟨r5, g5, hM⟩ := Option.bind_eq_some_iff.mp hM
    refine z_getI (pc := 19) (k := 0) C g5 rfl inlX0 (by decide) q_221 (fun _ h9 => h9) dX1_layOver_19 ?_
    refine z_istore_n (lv' := [(3, .int r5), (0, .ref a0), (1, .ref a1), (2, .int x2_2)]) (pc := 22) C dX1_layOver_22 (by decide) rfl ?_
    refine z_sub [1, 2, 3, 0] rfl (zl2 (fun (x3_6 : Int32) (h_6 : zH) => [(0, .ref a0), (1, .ref a1), (2, .int x2_2), (3, .int x3_6)]) (fun (x3_6 : Int32) (h_6 : zH) => h_6) (fun (x3_6 : Int32) (h_6 : zH) => nx) hM (fun rec6 irec6 x3_6 h_6 hM => ?_))
    refine z_iload_n (k := 3) (pc := 23) C dX1_layOver_23 rfl ?_
    refine z_aload_n (k := 1) (pc := 24) C dX1_layOver_24 rfl ?_
    obtain ⟨r7, g7, hM⟩ := Option.bind_eq_some_iff.mp hM
    refine z_getI (pc := 25) (k := 0) C g7 rfl inlX0 (by decide) q_221 (fun _ h9 => h9) dX1_layOver_25 ?_
    refine z_aload_n (k := 1) (pc := 28) C dX1_layOver_28 rfl ?_
    obtain ⟨r8, g8, hM⟩ := Option.bind_eq_some_iff.mp hM
    refine z_getI (pc := 29) (k := 2) C g8 rfl inlX0 (by decide) q_222 (fun _ h9 => h9) dX1_layOver_29 ?_
    refine z_iadd (pc := 32) C dX1_layOver_32 ?_
    refine z_icmp_ge (pc := 33) (tgt := 65) C dX1_layOver_33 (by decide) hM (fun hc15 hM => ?_) (fun hc15 hM => ?_)
    · refine z_iinc (k := 2) (v := (x2_2 + (1 : Int32))) (lv' := [(2, .int (x2_2 + (1 : Int32))), (0, .ref a0), (1, .ref a1), (3, .int x3_6)]) (pc := 65) C dX1_layOver_65 rfl (by first | rfl | decide) (by decide) rfl ?_
      refine z_goto (pc := 68) (tgt := 5) C dX1_layOver_68 (by decide) ?_
      exact z_sub [1, 2, 0] rfl (irec2 (x2_2 + (1 : Int32)) h_6 hM)
    · refine z_iload_n (k := 3) (pc := 36) C dX1_layOver_36 rfl ?_
      refine z_iload_n (k := 2) (pc := 37) C dX1_layOver_37 rfl ?_
      obtain ⟨r9, g9, hM⟩ := Option.bind_eq_some_iff.mp hM
      refine z_goN (kc := 0) (ks := 0) ([.int r9]) (z_callSN (pc := 38) (As := [.int x3_6, .int x2_2]) (rest := []) (n := 2) C (c_X4_isCell l hl G lo t0 h_6 nx x3_6 x2_2 r9 g9) C.2.2.2.2.2.2.2.2.1 q_223 q_2 q_224 ⟨by decide +kernel, by decide +kernel, by decide +kernel⟩ ⟨Nat.le_of_ble_eq_true rfl, Nat.le_of_ble_eq_true rfl⟩ rfl (Nat.le_of_ble_eq_true rfl) dX1_layOver_38 ⟨(Nat.zero_le _), (Nat.zero_le _)⟩) rfl (Nat.le_of_ble_eq_true rfl) (Nat.le_of_ble_eq_true rfl) ?_
      refine zj1 0 0 59 (fun (h_10 : zH) => [(0, .ref a0), (1, .ref a1), (2, .int x2_2), (3, .int x3_6)]) (fun (h_10 : zH) => []) (fun (h_10 : zH) => h_10) (fun (h_10 : zH) => nx) hM (fun h_10 hM => ?_) (fun J10 iJ10 hM => ?_)
      · refine z_iinc (k := 3) (v := (x3_6 + (1 : Int32))) (lv' := [(3, .int (x3_6 + (1 : Int32))), (0, .ref a0), (1, .ref a1), (2, .int x2_2)]) (pc := 59) C dX1_layOver_59 rfl (by first | rfl | decide) (by decide) rfl ?_
        refine z_goto (pc := 62) (tgt := 23) C dX1_layOver_62 (by decide) ?_
        exact z_sub [1, 2, 3, 0] rfl (irec6 (x3_6 + (1 : Int32)) h_10 hM)
      refine z_if_eq (pc := 41) (tgt := 59) C dX1_layOver_41 (by decide) hM (fun hc14 hM => ?_) (fun hc14 hM => ?_)
      · exact z_sub [0, 1, 2, 3] rfl (iJ10 h_6 hM)
      · refine z_aload_n (k := 0) (pc := 44) C dX1_layOver_44 rfl ?_
        obtain ⟨r11, g11, hM⟩ := Option.bind_eq_some_iff.mp hM
        refine z_getR (pc := 45) (k := 1) C g11 rfl inlX1 (by decide) q_36 (fun _ h9 => h9) dX1_layOver_45 ?_
        refine z_iload_n (k := 2) (pc := 48) C dX1_layOver_48 rfl ?_
        refine z_bipush (v := (24 : Int32)) (pc := 49) C dX1_layOver_49 (by decide) ?_
        refine z_imul (pc := 51) C dX1_layOver_51 ?_
        refine z_iload_n (k := 3) (pc := 52) C dX1_layOver_52 rfl ?_
        refine z_iadd (pc := 53) C dX1_layOver_53 ?_
        refine z_dup2 (pc := 54) C dX1_layOver_54 rfl rfl ?_
        obtain ⟨r12, g12, hM⟩ := Option.bind_eq_some_iff.mp hM
        refine z_iald (pc := 55) C g12 dX1_layOver_55 ?_
        refine z_iconst (v := (1 : Int32)) (pc := 56) C dX1_layOver_56 (by decide) ?_
        refine z_iadd (pc := 57) C dX1_layOver_57 ?_
        obtain ⟨h_13, g13, hM⟩ := Option.bind_eq_some_iff.mp hM
        refine z_iast (pc := 58) C g13 dX1_layOver_58 ?_
        exact z_sub [0, 1, 2, 3] rfl (iJ10 h_13 hM)
set_option maxHeartbeats 4000000 in
set_option maxRecDepth 100000 in
theorem c_X1_layOut (l : Launch) (hl : l.stackTraces = false) (G : zG) (lo t0 : Nat) (h : zH) (nx : Nat) (a0 : Nat) (o : zH) (hM : M_X1_layOut h a0 = some o) : z_Met l yX1_layOut cX1_layOut 2 none 3 64 G lo t0 [.ref a0] h nx (.inr (none, o, nx)) 0 0 := by
  refine z_of [(0, .ref a0)] (by decide) (Nat.le_of_ble_eq_true rfl) rfl (fun p e s m below meth c C hin => ?_)
  unfold M_X1_layOut at hM
  refine z_aload_n (k := 0) (pc := 0) C dX1_layOut_0 rfl ?_
  obtain ⟨r1, g1, hM⟩ := Option.bind_eq_some_iff.mp hM
  refine z_getR (pc := 1) (k := 1) C g1 rfl inlX1 (by decide) q_36 (fun _ h9 => h9) dX1_layOut_1 ?_
  refine z_iconst (v := (0 : Int32)) (pc := 4) C dX1_layOut_4 (by decide) ?_
  obtain ⟨r2, g2, hM⟩ := Option.bind_eq_some_iff.mp hM
  refine z_goN (kc := 0) (ks := 0) ([]) (z_callS (pc := 5) (As := [.ref r1, .int (0 : Int32)]) (rest := []) (n := 2) C (c_J7_fill_53178 l hl G lo t0 h nx r1 (0 : Int32) r2 g2) q_196 q_197 q_172 q_198 ⟨by decide +kernel, by decide +kernel, by decide +kernel⟩ ⟨Nat.le_of_ble_eq_true rfl, Nat.le_of_ble_eq_true rfl⟩ rfl (Nat.le_of_ble_eq_true rfl) dX1_layOut_5 ⟨(Nat.zero_le _), (Nat.zero_le _)⟩) rfl (Nat.le_of_ble_eq_true rfl) (Nat.le_of_ble_eq_true rfl) ?_
  refine z_iconst (v := (0 : Int32)) (pc := 8) C dX1_layOut_8 (by decide) ?_
  refine z_istore_n (lv' := [(1, .int (0 : Int32)), (0, .ref a0)]) (pc := 9) C dX1_layOut_9 (by decide) rfl ?_
  refine z_sub [1, 0] rfl (zl2 (fun (x1_3 : Int32) (h_3 : zH) => [(0, .ref a0), (1, .int x1_3)]) (fun (x1_3 : Int32) (h_3 : zH) => h_3) (fun (x1_3 : Int32) (h_3 : zH) => nx) hM (fun rec3 irec3 x1_3 h_3 hM => ?_))
  refine z_iload_n (k := 1) (pc := 10) C dX1_layOut_10 rfl ?_
  refine z_aload_n (k := 0) (pc := 11) C dX1_layOut_11 rfl ?_
  obtain ⟨r4, g4, hM⟩ := Option.bind_eq_some_iff.mp hM
  refine z_getR (pc := 12) (k := 0) C g4 rfl inlX1 (by decide) q_35 (fun _ h9 => h9) dX1_layOut_12 ?_
  obtain ⟨_, g5, hM⟩ := Option.bind_eq_some_iff.mp hM
  obtain ⟨r6, g6, hM⟩ := Option.bind_eq_some_iff.mp hM
  refine z_goN (kc := 0) (ks := 0) ([.int r6, .int x1_3]) (z_callV (pc := 15) (As := []) (rest := [.int x1_3]) (n := 0) (ci := 0) C (c_Jx4a65c_size_8abf5 l hl G lo t0 h_3 nx r4 r6 g6) g5 rfl q_120 q_121 q_122 q_23 q_123 ⟨rfl, by decide +kernel, by decide +kernel, by decide +kernel⟩ ⟨Nat.le_of_ble_eq_true rfl, Nat.le_of_ble_eq_true rfl⟩ rfl (Nat.le_of_ble_eq_true rfl) dX1_layOut_15 ⟨(Nat.zero_le _), (Nat.zero_le _)⟩) rfl (Nat.le_of_ble_eq_true rfl) (Nat.le_of_ble_eq_true rfl) ?_
  refine z_icmp_ge (pc := 18) (tgt := 59) C dX1_layOut_18 (by decide) hM (fun hc20 hM => ?_) (fun hc20 hM => ?_)
  · cases hM
    exact z_vret (pc := 59) C rfl (Nat.zero_le _) (Nat.zero_le _) dX1_layOut_59
  · refine z_aload_n (k := 0) (pc := 21) C dX1_layOut_21 rfl ?_
    obtain ⟨r7, g7, hM⟩ := Option.bind_eq_some_iff.mp hM
    refine z_getR (pc := 22) (k := 0) C g7 rfl inlX1 (by decide) q_35 (fun _ h9 => h9) dX1_layOut_22 ?_
    refine z_iload_n (k := 1) (pc := 25) C dX1_layOut_25 rfl ?_
    obtain ⟨_, g8, hM⟩ := Option.bind_eq_some_iff.mp hM
    obtain ⟨r9, g9, hM⟩ := Option.bind_eq_some_iff.mp hM
    refine z_goN (kc := 0) (ks := 0) ([.ref r9]) (z_callV (pc := 26) (As := [.int x1_3]) (rest := []) (n := 1) (ci := 0) C (c_Jx4a65c_get_915e3 l hl G lo t0 h_3 nx r7 x1_3 r9 g9) g8 rfl q_199 q_200 q_201 q_23 q_202 ⟨rfl, by decide +kernel, by decide +kernel, by decide +kernel⟩ ⟨Nat.le_of_ble_eq_true rfl, Nat.le_of_ble_eq_true rfl⟩ rfl (Nat.le_of_ble_eq_true rfl) dX1_layOut_26 ⟨(Nat.zero_le _), (Nat.zero_le _)⟩) rfl (Nat.le_of_ble_eq_true rfl) (Nat.le_of_ble_eq_true rfl) ?_
    obtain ⟨_, g10, hM⟩ := Option.bind_eq_some_iff.mp hM
    refine z_cast (pc := 29) C g10 (ci := 1) rfl q_194 dX1_layOut_29 ?_
    obtain ⟨r11, g11, hM⟩ := Option.bind_eq_some_iff.mp hM
    refine z_getI (pc := 32) (k := 6) C g11 rfl inlX0 (by decide) q_195 (fun _ h9 => h9) dX1_layOut_32 ?_
    refine zj1 0 0 53 (fun (h_12 : zH) => [(0, .ref a0), (1, .int x1_3)]) (fun (h_12 : zH) => []) (fun (h_12 : zH) => h_12) (fun (h_12 : zH) => nx) hM (fun h_12 hM => ?_) (fun J12 iJ12 hM => ?_)
    · refine z_iinc (k := 1) (v := (x1_3 + (1 : Int32))) (lv' := [(1, .int (x1_3 + (1 : Int32))), (0, .ref a0)]) (pc := 53) C dX1_layOut_53 rfl (by first | rfl | decide) (by decide) rfl ?_
      refine z_goto (pc := 56) (tgt := 10) C dX1_layOut_56 (by decide) ?_
      exact z_sub [1, 0] rfl (irec3 (x1_3 + (1 : Int32)) h_12 hM)
    refine z_if_eq (pc := 35) (tgt := 53) C dX1_layOut_35 (by decide) hM (fun hc19 hM => ?_) (fun hc19 hM => ?_)
    · exact z_sub [0, 1] rfl (iJ12 h_3 hM)
    · refine z_aload_n (k := 0) (pc := 38) C dX1_layOut_38 rfl ?_
      refine z_aload_n (k := 0) (pc := 39) C dX1_layOut_39 rfl ?_
      obtain ⟨r13, g13, hM⟩ := Option.bind_eq_some_iff.mp hM
      refine z_getR (pc := 40) (k := 0) C g13 rfl inlX1 (by decide) q_35 (fun _ h9 => h9) dX1_layOut_40 ?_
      refine z_iload_n (k := 1) (pc := 43) C dX1_layOut_43 rfl ?_
      obtain ⟨_, g14, hM⟩ := Option.bind_eq_some_iff.mp hM
      obtain ⟨r15, g15, hM⟩ := Option.bind_eq_some_iff.mp hM
      refine z_goN (kc := 0) (ks := 0) ([.ref r15, .ref a0]) (z_callV (pc := 44) (As := [.int x1_3]) (rest := [.ref a0]) (n := 1) (ci := 0) C (c_Jx4a65c_get_915e3 l hl G lo t0 h_3 nx r13 x1_3 r15 g15) g14 rfl q_199 q_200 q_201 q_23 q_202 ⟨rfl, by decide +kernel, by decide +kernel, by decide +kernel⟩ ⟨Nat.le_of_ble_eq_true rfl, Nat.le_of_ble_eq_true rfl⟩ rfl (Nat.le_of_ble_eq_true rfl) dX1_layOut_44 ⟨(Nat.zero_le _), (Nat.zero_le _)⟩) rfl (Nat.le_of_ble_eq_true rfl) (Nat.le_of_ble_eq_true rfl) ?_
      obtain ⟨_, g16, hM⟩ := Option.bind_eq_some_iff.mp hM
      refine z_cast (pc := 47) C g16 (ci := 1) rfl q_194 dX1_layOut_47 ?_
      obtain ⟨_, g17, hM⟩ := Option.bind_eq_some_iff.mp hM
      obtain ⟨r18, g18, hM⟩ := Option.bind_eq_some_iff.mp hM
      refine z_goN (kc := 0) (ks := 0) ([]) (z_callV (pc := 50) (As := [.ref r15]) (rest := []) (n := 1) (ci := 2) C (c_X1_layOver l hl G lo t0 h_3 nx a0 r15 r18 g18) g17 rfl q_215 q_216 q_217 q_15 q_218 ⟨rfl, by decide +kernel, by decide +kernel, by decide +kernel⟩ ⟨Nat.le_of_ble_eq_true rfl, Nat.le_of_ble_eq_true rfl⟩ rfl (Nat.le_of_ble_eq_true rfl) dX1_layOut_50 ⟨(Nat.zero_le _), (Nat.zero_le _)⟩) rfl (Nat.le_of_ble_eq_true rfl) (Nat.le_of_ble_eq_true rfl) ?_
      exact z_sub [0, 1] rfl (iJ12 r18 hM)
set_option maxHeartbeats 4000000 in
set_option maxRecDepth 100000 in
theorem c_X1_append (l : Launch) (hl : l.stackTraces = false) (G : zG) (lo t0 : Nat) (h : zH) (nx : Nat) (a0 : Nat) (a1 : Nat) (o : zH × Nat) (hM : M_X1_append h nx t0 a0 a1 = some o) : z_Met l yX1_append cX1_append 2 none 5 109 G lo t0 [.ref a0, .ref a1] h nx (.inr (none, o.1, o.2)) 1 10 := by
  refine z_of [(0, .ref a0), (1, .ref a1)] (by decide) (Nat.le_of_ble_eq_true rfl) rfl (fun p e s m below meth c C hin => ?_)
  unfold M_X1_append at hM
  refine z_aload_n (k := 0) (pc := 0) C dX1_append_0 rfl ?_
  obtain ⟨r1, g1, hM⟩ := Option.bind_eq_some_iff.mp hM
  refine z_getR (pc := 1) (k := 0) C g1 rfl inlX1 (by decide) q_35 (fun _ h9 => h9) dX1_append_1 ?_
  refine z_aload_n (k := 1) (pc := 4) C dX1_append_4 rfl ?_
  obtain ⟨_, g2, hM⟩ := Option.bind_eq_some_iff.mp hM
  obtain ⟨r3, g3, hM⟩ := Option.bind_eq_some_iff.mp hM
  refine z_goN (kc := 1) (ks := 10) ([.int r3.1]) (z_callV (pc := 5) (As := [.ref a1]) (rest := []) (n := 1) (ci := 0) C (c_Jx4a65c_add_9ea2d l hl G lo t0 h nx r1 a1 r3 g3) g2 rfl q_141 q_142 q_143 q_23 q_144 ⟨rfl, by decide +kernel, by decide +kernel, by decide +kernel⟩ ⟨Nat.le_of_ble_eq_true rfl, Nat.le_of_ble_eq_true rfl⟩ rfl (Nat.le_of_ble_eq_true rfl) dX1_append_5 ⟨(Nat.le_of_ble_eq_true rfl), (Nat.le_of_ble_eq_true rfl)⟩) rfl (Nat.le_of_ble_eq_true rfl) (Nat.le_of_ble_eq_true rfl) ?_
  refine z_pop (pc := 8) C dX1_append_8 rfl ?_
  refine z_aload_n (k := 0) (pc := 9) C dX1_append_9 rfl ?_
  obtain ⟨_, g4, hM⟩ := Option.bind_eq_some_iff.mp hM
  obtain ⟨r5, g5, hM⟩ := Option.bind_eq_some_iff.mp hM
  refine z_goN (kc := 1) (ks := 10) ([]) (z_callV (pc := 10) (As := []) (rest := []) (n := 0) (ci := 2) C (c_X1_layOut l hl G lo t0 r3.2.1 r3.2.2 a0 r5 g5) g4 rfl q_190 q_191 q_192 q_15 q_193 ⟨rfl, by decide +kernel, by decide +kernel, by decide +kernel⟩ ⟨Nat.le_of_ble_eq_true rfl, Nat.le_of_ble_eq_true rfl⟩ rfl (Nat.le_of_ble_eq_true rfl) dX1_append_10 ⟨(Nat.le_of_ble_eq_true rfl), (Nat.le_of_ble_eq_true rfl)⟩) rfl (Nat.le_of_ble_eq_true rfl) (Nat.le_of_ble_eq_true rfl) ?_
  cases hM
  exact z_vret (pc := 13) C rfl (Nat.le_of_ble_eq_true rfl) (Nat.le_of_ble_eq_true rfl) dX1_append_13
set_option maxHeartbeats 4000000 in
set_option maxRecDepth 100000 in
theorem c_X1_drop (l : Launch) (hl : l.stackTraces = false) (G : zG) (lo t0 : Nat) (h : zH) (nx : Nat) (a0 : Nat) (x1 : Int32) (o : String ⊕ (zH)) (hM : M_X1_drop h a0 x1 = some o) : z_Met l yX1_drop cX1_drop 2 none 6 106 G lo t0 [.ref a0, .int x1] h nx (z_eo h o (fun z : zH => (none, z, nx))) (z_mo o 1 0) (z_mo o 6 0) := by
  refine z_of [(0, .ref a0), (1, .int x1)] (by decide) (Nat.le_of_ble_eq_true rfl) rfl (fun p e s m below meth c C hin => ?_)
  unfold M_X1_drop at hM
  refine z_iload_n (k := 1) (pc := 0) C dX1_drop_0 rfl ?_
  refine z_if_lt (pc := 1) (tgt := 15) C dX1_drop_1 (by decide) hM (fun hc10 hM => ?_) (fun hc10 hM => ?_)
  · cases hM
    exact z_throw (pc := 15) (text := "there is no such awning") (names := ["java/lang/RuntimeException", "java/lang/Exception"]) C ne_X1 hl (by decide) (by decide) q_234 q_115 (by decide) ax_X1_50 ax_X1_50_b (by decide) ax_X1_50_g dX1_drop_15 dX1_drop_18 dX1_drop_19 dX1_drop_21 dX1_drop_24 (Nat.le_of_ble_eq_true rfl) (Nat.le_of_ble_eq_true rfl) (Nat.le_of_ble_eq_true rfl) (Nat.le_of_ble_eq_true rfl) rfl (Nat.le_of_ble_eq_true rfl) (Nat.le_of_ble_eq_true rfl)
  · refine z_iload_n (k := 1) (pc := 4) C dX1_drop_4 rfl ?_
    refine z_aload_n (k := 0) (pc := 5) C dX1_drop_5 rfl ?_
    obtain ⟨r1, g1, hM⟩ := Option.bind_eq_some_iff.mp hM
    refine z_getR (pc := 6) (k := 0) C g1 rfl inlX1 (by decide) q_35 (fun _ h9 => h9) dX1_drop_6 ?_
    obtain ⟨_, g2, hM⟩ := Option.bind_eq_some_iff.mp hM
    obtain ⟨r3, g3, hM⟩ := Option.bind_eq_some_iff.mp hM
    refine z_goN (kc := 0) (ks := 0) ([.int r3, .int x1]) (z_callV (pc := 9) (As := []) (rest := [.int x1]) (n := 0) (ci := 0) C (c_Jx4a65c_size_8abf5 l hl G lo t0 h nx r1 r3 g3) g2 rfl q_120 q_121 q_122 q_23 q_123 ⟨rfl, by decide +kernel, by decide +kernel, by decide +kernel⟩ ⟨Nat.le_of_ble_eq_true rfl, Nat.le_of_ble_eq_true rfl⟩ rfl (Nat.le_of_ble_eq_true rfl) dX1_drop_9 ⟨(Nat.zero_le _), (Nat.zero_le _)⟩) rfl (Nat.le_of_ble_eq_true rfl) (Nat.le_of_ble_eq_true rfl) ?_
    refine z_icmp_lt (pc := 12) (tgt := 25) C dX1_drop_12 (by decide) hM (fun hc9 hM => ?_) (fun hc9 hM => ?_)
    · refine z_aload_n (k := 0) (pc := 25) C dX1_drop_25 rfl ?_
      obtain ⟨r4, g4, hM⟩ := Option.bind_eq_some_iff.mp hM
      refine z_getR (pc := 26) (k := 0) C g4 rfl inlX1 (by decide) q_35 (fun _ h9 => h9) dX1_drop_26 ?_
      refine z_iload_n (k := 1) (pc := 29) C dX1_drop_29 rfl ?_
      obtain ⟨_, g5, hM⟩ := Option.bind_eq_some_iff.mp hM
      obtain ⟨r6, g6, hM⟩ := Option.bind_eq_some_iff.mp hM
      refine z_goN (kc := 0) (ks := 0) ([.ref r6.1]) (z_callV (pc := 30) (As := [.int x1]) (rest := []) (n := 1) (ci := 0) C (c_Jx4a65c_remove_915e3 l hl G lo t0 h nx r4 x1 r6 g6) g5 rfl q_279 q_280 q_281 q_23 q_282 ⟨rfl, by decide +kernel, by decide +kernel, by decide +kernel⟩ ⟨Nat.le_of_ble_eq_true rfl, Nat.le_of_ble_eq_true rfl⟩ rfl (Nat.le_of_ble_eq_true rfl) dX1_drop_30 ⟨(Nat.zero_le _), (Nat.zero_le _)⟩) rfl (Nat.le_of_ble_eq_true rfl) (Nat.le_of_ble_eq_true rfl) ?_
      refine z_pop (pc := 33) C dX1_drop_33 rfl ?_
      refine z_aload_n (k := 0) (pc := 34) C dX1_drop_34 rfl ?_
      obtain ⟨_, g7, hM⟩ := Option.bind_eq_some_iff.mp hM
      obtain ⟨r8, g8, hM⟩ := Option.bind_eq_some_iff.mp hM
      refine z_goN (kc := 0) (ks := 0) ([]) (z_callV (pc := 35) (As := []) (rest := []) (n := 0) (ci := 2) C (c_X1_layOut l hl G lo t0 r6.2 nx a0 r8 g8) g7 rfl q_190 q_191 q_192 q_15 q_193 ⟨rfl, by decide +kernel, by decide +kernel, by decide +kernel⟩ ⟨Nat.le_of_ble_eq_true rfl, Nat.le_of_ble_eq_true rfl⟩ rfl (Nat.le_of_ble_eq_true rfl) dX1_drop_35 ⟨(Nat.zero_le _), (Nat.zero_le _)⟩) rfl (Nat.le_of_ble_eq_true rfl) (Nat.le_of_ble_eq_true rfl) ?_
      cases hM
      exact z_vret (pc := 38) C rfl (Nat.zero_le _) (Nat.zero_le _) dX1_drop_38
    · cases hM
      exact z_throw (pc := 15) (text := "there is no such awning") (names := ["java/lang/RuntimeException", "java/lang/Exception"]) C ne_X1 hl (by decide) (by decide) q_234 q_115 (by decide) ax_X1_50 ax_X1_50_b (by decide) ax_X1_50_g dX1_drop_15 dX1_drop_18 dX1_drop_19 dX1_drop_21 dX1_drop_24 (Nat.le_of_ble_eq_true rfl) (Nat.le_of_ble_eq_true rfl) (Nat.le_of_ble_eq_true rfl) (Nat.le_of_ble_eq_true rfl) rfl (Nat.le_of_ble_eq_true rfl) (Nat.le_of_ble_eq_true rfl)
set_option maxHeartbeats 4000000 in
set_option maxRecDepth 100000 in
theorem c_X1_layersAt (l : Launch) (hl : l.stackTraces = false) (G : zG) (lo t0 : Nat) (h : zH) (nx : Nat) (a0 : Nat) (x1 : Int32) (x2 : Int32) (o : Int32) (hM : M_X1_layersAt h a0 x1 x2 = some o) : z_Met l yX1_layersAt cX1_layersAt 3 (some .int) 1 21 G lo t0 [.ref a0, .int x1, .int x2] h nx (.inr (some (.int o), h, nx)) 0 0 := by
  refine z_of [(0, .ref a0), (1, .int x1), (2, .int x2)] (by decide) (Nat.le_of_ble_eq_true rfl) rfl (fun p e s m below meth c C hin => ?_)
  unfold M_X1_layersAt at hM
  refine z_iload_n (k := 1) (pc := 0) C dX1_layersAt_0 rfl ?_
  refine z_iload_n (k := 2) (pc := 1) C dX1_layersAt_1 rfl ?_
  obtain ⟨r1, g1, hM⟩ := Option.bind_eq_some_iff.mp hM
  refine z_goN (kc := 0) (ks := 0) ([.int r1]) (z_callSN (pc := 2) (As := [.int x1, .int x2]) (rest := []) (n := 2) C (c_X4_isCell l hl G lo t0 h nx x1 x2 r1 g1) C.2.2.2.2.2.2.2.2.1 q_223 q_2 q_224 ⟨by decide +kernel, by decide +kernel, by decide +kernel⟩ ⟨Nat.le_of_ble_eq_true rfl, Nat.le_of_ble_eq_true rfl⟩ rfl (Nat.le_of_ble_eq_true rfl) dX1_layersAt_2 ⟨(Nat.zero_le _), (Nat.zero_le _)⟩) rfl (Nat.le_of_ble_eq_true rfl) (Nat.le_of_ble_eq_true rfl) ?_
  refine z_if_eq (pc := 5) (tgt := 22) C dX1_layersAt_5 (by decide) hM (fun hc4 hM => ?_) (fun hc4 hM => ?_)
  · refine z_iconst (v := (0 : Int32)) (pc := 22) C dX1_layersAt_22 (by decide) ?_
    cases hM
    exact z_iret (pc := 23) C rfl (Nat.zero_le _) (Nat.zero_le _) dX1_layersAt_23
  · refine z_aload_n (k := 0) (pc := 8) C dX1_layersAt_8 rfl ?_
    obtain ⟨r2, g2, hM⟩ := Option.bind_eq_some_iff.mp hM
    refine z_getR (pc := 9) (k := 1) C g2 rfl inlX1 (by decide) q_36 (fun _ h9 => h9) dX1_layersAt_9 ?_
    refine z_iload_n (k := 2) (pc := 12) C dX1_layersAt_12 rfl ?_
    refine z_bipush (v := (24 : Int32)) (pc := 13) C dX1_layersAt_13 (by decide) ?_
    refine z_imul (pc := 15) C dX1_layersAt_15 ?_
    refine z_iload_n (k := 1) (pc := 16) C dX1_layersAt_16 rfl ?_
    refine z_iadd (pc := 17) C dX1_layersAt_17 ?_
    obtain ⟨r3, g3, hM⟩ := Option.bind_eq_some_iff.mp hM
    refine z_iald (pc := 18) C g3 dX1_layersAt_18 ?_
    refine z_goto (pc := 19) (tgt := 23) C dX1_layersAt_19 (by decide) ?_
    cases hM
    exact z_iret (pc := 23) C rfl (Nat.zero_le _) (Nat.zero_le _) dX1_layersAt_23
set_option maxHeartbeats 4000000 in
set_option maxRecDepth 100000 in
theorem c_X1_highestBelow (l : Launch) (hl : l.stackTraces = false) (G : zG) (lo t0 : Nat) (h : zH) (nx : Nat) (a0 : Nat) (x1 : Int32) (x2 : Int32) (x3 : Int32) (o : Int32) (hM : M_X1_highestBelow h a0 x1 x2 x3 = some o) : z_Met l yX1_highestBelow cX1_highestBelow 8 (some .int) 3 64 G lo t0 [.ref a0, .int x1, .int x2, .int x3] h nx (.inr (some (.int o), h, nx)) 0 0 := by
  refine z_of [(0, .ref a0), (1, .int x1), (2, .int x2), (3, .int x3)] (by decide) (Nat.le_of_ble_eq_true rfl) rfl (fun p e s m below meth c C hin => ?_)
  unfold M_X1_highestBelow at hM
  refine z_iconst (v := (-1 : Int32)) (pc := 0) C dX1_highestBelow_0 (by decide) ?_
  refine z_istore (lv' := [(4, .int (-1 : Int32)), (0, .ref a0), (1, .int x1), (2, .int x2), (3, .int x3)]) (pc := 1) C dX1_highestBelow_1 (by decide) rfl ?_
  refine z_iconst (v := (0 : Int32)) (pc := 3) C dX1_highestBelow_3 (by decide) ?_
  refine z_istore (lv' := [(5, .int (0 : Int32)), (4, .int (-1 : Int32)), (0, .ref a0), (1, .int x1), (2, .int x2), (3, .int x3)]) (pc := 4) C dX1_highestBelow_4 (by decide) rfl ?_
  refine z_iconst (v := (0 : Int32)) (pc := 6) C dX1_highestBelow_6 (by decide) ?_
  refine z_istore (lv' := [(6, .int (0 : Int32)), (5, .int (0 : Int32)), (4, .int (-1 : Int32)), (0, .ref a0), (1, .int x1), (2, .int x2), (3, .int x3)]) (pc := 7) C dX1_highestBelow_7 (by decide) rfl ?_
  refine z_sub [3, 4, 5, 6, 2, 1, 0] rfl (zl3 (fun (x4_1 : Int32) (x5_1 : Int32) (x6_1 : Int32) => [(0, .ref a0), (1, .int x1), (2, .int x2), (3, .int x3), (4, .int x4_1), (5, .int x5_1), (6, .int x6_1)]) (fun (x4_1 : Int32) (x5_1 : Int32) (x6_1 : Int32) => h) (fun (x4_1 : Int32) (x5_1 : Int32) (x6_1 : Int32) => nx) hM (fun rec1 irec1 x4_1 x5_1 x6_1 hM => ?_))
  refine z_iload (k := 6) (pc := 9) C dX1_highestBelow_9 rfl ?_
  refine z_aload_n (k := 0) (pc := 11) C dX1_highestBelow_11 rfl ?_
  obtain ⟨r2, g2, hM⟩ := Option.bind_eq_some_iff.mp hM
  refine z_getR (pc := 12) (k := 0) C g2 rfl inlX1 (by decide) q_35 (fun _ h9 => h9) dX1_highestBelow_12 ?_
  obtain ⟨_, g3, hM⟩ := Option.bind_eq_some_iff.mp hM
  obtain ⟨r4, g4, hM⟩ := Option.bind_eq_some_iff.mp hM
  refine z_goN (kc := 0) (ks := 0) ([.int r4, .int x6_1]) (z_callV (pc := 15) (As := []) (rest := [.int x6_1]) (n := 0) (ci := 0) C (c_Jx4a65c_size_8abf5 l hl G lo t0 h nx r2 r4 g4) g3 rfl q_120 q_121 q_122 q_23 q_123 ⟨rfl, by decide +kernel, by decide +kernel, by decide +kernel⟩ ⟨Nat.le_of_ble_eq_true rfl, Nat.le_of_ble_eq_true rfl⟩ rfl (Nat.le_of_ble_eq_true rfl) dX1_highestBelow_15 ⟨(Nat.zero_le _), (Nat.zero_le _)⟩) rfl (Nat.le_of_ble_eq_true rfl) (Nat.le_of_ble_eq_true rfl) ?_
  refine z_icmp_ge (pc := 18) (tgt := 81) C dX1_highestBelow_18 (by decide) hM (fun hc17 hM => ?_) (fun hc17 hM => ?_)
  · refine z_iload (k := 4) (pc := 81) C dX1_highestBelow_81 rfl ?_
    cases hM
    exact z_iret (pc := 83) C rfl (Nat.zero_le _) (Nat.zero_le _) dX1_highestBelow_83
  · refine z_aload_n (k := 0) (pc := 21) C dX1_highestBelow_21 rfl ?_
    obtain ⟨r5, g5, hM⟩ := Option.bind_eq_some_iff.mp hM
    refine z_getR (pc := 22) (k := 0) C g5 rfl inlX1 (by decide) q_35 (fun _ h9 => h9) dX1_highestBelow_22 ?_
    refine z_iload (k := 6) (pc := 25) C dX1_highestBelow_25 rfl ?_
    obtain ⟨_, g6, hM⟩ := Option.bind_eq_some_iff.mp hM
    obtain ⟨r7, g7, hM⟩ := Option.bind_eq_some_iff.mp hM
    refine z_goN (kc := 0) (ks := 0) ([.ref r7]) (z_callV (pc := 27) (As := [.int x6_1]) (rest := []) (n := 1) (ci := 0) C (c_Jx4a65c_get_915e3 l hl G lo t0 h nx r5 x6_1 r7 g7) g6 rfl q_199 q_200 q_201 q_23 q_202 ⟨rfl, by decide +kernel, by decide +kernel, by decide +kernel⟩ ⟨Nat.le_of_ble_eq_true rfl, Nat.le_of_ble_eq_true rfl⟩ rfl (Nat.le_of_ble_eq_true rfl) dX1_highestBelow_27 ⟨(Nat.zero_le _), (Nat.zero_le _)⟩) rfl (Nat.le_of_ble_eq_true rfl) (Nat.le_of_ble_eq_true rfl) ?_
    obtain ⟨_, g8, hM⟩ := Option.bind_eq_some_iff.mp hM
    refine z_cast (pc := 30) C g8 (ci := 1) rfl q_194 dX1_highestBelow_30 ?_
    refine z_astore (lv' := [(7, .ref r7), (0, .ref a0), (1, .int x1), (2, .int x2), (3, .int x3), (4, .int x4_1), (5, .int x5_1), (6, .int x6_1)]) (pc := 33) C dX1_highestBelow_33 (by decide) rfl ?_
    refine z_aload (k := 0) (pc := 35) C dX1_highestBelow_35 rfl ?_
    obtain ⟨r9, g9, hM⟩ := Option.bind_eq_some_iff.mp hM
    refine z_getI (pc := 37) (k := 4) C g9 rfl inlX0 (by decide) q_347 (fun _ h9 => h9) dX1_highestBelow_37 ?_
    refine z_iload_n (k := 2) (pc := 40) C dX1_highestBelow_40 rfl ?_
    refine zj2 0 0 75 (fun (x4_10 : Int32) (x5_10 : Int32) => [(0, .ref a0), (1, .int x1), (2, .int x2), (3, .int x3), (4, .int x4_10), (5, .int x5_10), (6, .int x6_1)]) (fun (x4_10 : Int32) (x5_10 : Int32) => []) (fun (x4_10 : Int32) (x5_10 : Int32) => h) (fun (x4_10 : Int32) (x5_10 : Int32) => nx) hM (fun x4_10 x5_10 hM => ?_) (fun J10 iJ10 hM => ?_)
    · refine z_iinc (k := 6) (v := (x6_1 + (1 : Int32))) (lv' := [(6, .int (x6_1 + (1 : Int32))), (0, .ref a0), (1, .int x1), (2, .int x2), (3, .int x3), (4, .int x4_10), (5, .int x5_10)]) (pc := 75) C dX1_highestBelow_75 rfl (by first | rfl | decide) (by decide) rfl ?_
      refine z_goto (pc := 78) (tgt := 9) C dX1_highestBelow_78 (by decide) ?_
      exact z_sub [1, 2, 3, 4, 5, 6, 0] rfl (irec1 x4_10 x5_10 (x6_1 + (1 : Int32)) hM)
    refine z_icmp_ge (pc := 41) (tgt := 75) C dX1_highestBelow_41 (by decide) hM (fun hc16 hM => ?_) (fun hc16 hM => ?_)
    · exact z_sub [1, 2, 3, 4, 5, 6, 7] rfl (iJ10 x4_1 x5_1 hM)
    · refine z_aload (k := 0) (pc := 44) C dX1_highestBelow_44 rfl ?_
      obtain ⟨r11, g11, hM⟩ := Option.bind_eq_some_iff.mp hM
      refine z_getI (pc := 46) (k := 4) C g11 rfl inlX0 (by decide) q_347 (fun _ h9 => h9) dX1_highestBelow_46 ?_
      refine z_iload (k := 6) (pc := 49) C dX1_highestBelow_49 rfl ?_
      refine z_icmp_le (pc := 51) (tgt := 75) C dX1_highestBelow_51 (by decide) hM (fun hc15 hM => ?_) (fun hc15 hM => ?_)
      · exact z_sub [1, 2, 3, 4, 5, 6, 7] rfl (iJ10 x4_1 x5_1 hM)
      · refine z_aload (k := 0) (pc := 54) C dX1_highestBelow_54 rfl ?_
        refine z_iload_n (k := 3) (pc := 56) C dX1_highestBelow_56 rfl ?_
        refine z_iload_n (k := 4) (pc := 57) C dX1_highestBelow_57 rfl ?_
        obtain ⟨r12, g12, hM⟩ := Option.bind_eq_some_iff.mp hM
        refine z_goN (kc := 0) (ks := 0) ([.int r12]) (z_callV (pc := 58) (As := [.int x2, .int x3]) (rest := []) (n := 2) (ci := 1) C (c_X0_covers l hl G lo t0 h nx r7 x2 x3 r12 g12) g8 rfl q_348 q_349 q_350 q_107 q_351 ⟨rfl, by decide +kernel, by decide +kernel, by decide +kernel⟩ ⟨Nat.le_of_ble_eq_true rfl, Nat.le_of_ble_eq_true rfl⟩ rfl (Nat.le_of_ble_eq_true rfl) dX1_highestBelow_58 ⟨(Nat.zero_le _), (Nat.zero_le _)⟩) rfl (Nat.le_of_ble_eq_true rfl) (Nat.le_of_ble_eq_true rfl) ?_
        refine z_if_eq (pc := 61) (tgt := 75) C dX1_highestBelow_61 (by decide) hM (fun hc14 hM => ?_) (fun hc14 hM => ?_)
        · exact z_sub [1, 2, 3, 4, 5, 6, 7] rfl (iJ10 x4_1 x5_1 hM)
        · refine z_iload (k := 7) (pc := 64) C dX1_highestBelow_64 rfl ?_
          refine z_istore (lv' := [(4, .int x6_1), (7, .ref r7), (0, .ref a0), (1, .int x1), (2, .int x2), (3, .int x3), (5, .int x5_1), (6, .int x6_1)]) (pc := 66) C dX1_highestBelow_66 (by decide) rfl ?_
          refine z_aload (k := 1) (pc := 68) C dX1_highestBelow_68 rfl ?_
          obtain ⟨r13, g13, hM⟩ := Option.bind_eq_some_iff.mp hM
          refine z_getI (pc := 70) (k := 4) C g13 rfl inlX0 (by decide) q_347 (fun _ h9 => h9) dX1_highestBelow_70 ?_
          refine z_istore (lv' := [(5, .int r13), (4, .int x6_1), (7, .ref r7), (0, .ref a0), (1, .int x1), (2, .int x2), (3, .int x3), (6, .int x6_1)]) (pc := 73) C dX1_highestBelow_73 (by decide) rfl ?_
          exact z_sub [3, 4, 5, 6, 1, 0, 7] rfl (iJ10 x6_1 r13 hM)
set_option maxHeartbeats 4000000 in
set_option maxRecDepth 100000 in
theorem c_X1_cellsWithLayers (l : Launch) (hl : l.stackTraces = false) (G : zG) (lo t0 : Nat) (h : zH) (nx : Nat) (a0 : Nat) (x1 : Int32) (o : Int32) (hM : M_X1_cellsWithLayers h a0 x1 = some o) : z_Met l yX1_cellsWithLayers cX1_cellsWithLayers 4 (some .int) 0 0 G lo t0 [.ref a0, .int x1] h nx (.inr (some (.int o), h, nx)) 0 0 := by
  refine z_of [(0, .ref a0), (1, .int x1)] (by decide) (Nat.le_of_ble_eq_true rfl) rfl (fun p e s m below meth c C hin => ?_)
  unfold M_X1_cellsWithLayers at hM
  refine z_iconst (v := (0 : Int32)) (pc := 0) C dX1_cellsWithLayers_0 (by decide) ?_
  refine z_istore_n (lv' := [(2, .int (0 : Int32)), (0, .ref a0), (1, .int x1)]) (pc := 1) C dX1_cellsWithLayers_1 (by decide) rfl ?_
  refine z_iconst (v := (0 : Int32)) (pc := 2) C dX1_cellsWithLayers_2 (by decide) ?_
  refine z_istore_n (lv' := [(3, .int (0 : Int32)), (2, .int (0 : Int32)), (0, .ref a0), (1, .int x1)]) (pc := 3) C dX1_cellsWithLayers_3 (by decide) rfl ?_
  refine z_sub [2, 3, 1, 0] rfl (zl2 (fun (x2_1 : Int32) (x3_1 : Int32) => [(0, .ref a0), (1, .int x1), (2, .int x2_1), (3, .int x3_1)]) (fun (x2_1 : Int32) (x3_1 : Int32) => h) (fun (x2_1 : Int32) (x3_1 : Int32) => nx) hM (fun rec1 irec1 x2_1 x3_1 hM => ?_))
  refine z_iload_n (k := 3) (pc := 4) C dX1_cellsWithLayers_4 rfl ?_
  refine z_sipush (v := (576 : Int32)) (pc := 5) C dX1_cellsWithLayers_5 (by decide) ?_
  refine z_icmp_ge (pc := 8) (tgt := 30) C dX1_cellsWithLayers_8 (by decide) hM (fun hc6 hM => ?_) (fun hc6 hM => ?_)
  · refine z_iload_n (k := 2) (pc := 30) C dX1_cellsWithLayers_30 rfl ?_
    cases hM
    exact z_iret (pc := 31) C rfl (Nat.zero_le _) (Nat.zero_le _) dX1_cellsWithLayers_31
  · refine z_aload_n (k := 0) (pc := 11) C dX1_cellsWithLayers_11 rfl ?_
    obtain ⟨r2, g2, hM⟩ := Option.bind_eq_some_iff.mp hM
    refine z_getR (pc := 12) (k := 1) C g2 rfl inlX1 (by decide) q_36 (fun _ h9 => h9) dX1_cellsWithLayers_12 ?_
    refine z_iload_n (k := 3) (pc := 15) C dX1_cellsWithLayers_15 rfl ?_
    obtain ⟨r3, g3, hM⟩ := Option.bind_eq_some_iff.mp hM
    refine z_iald (pc := 16) C g3 dX1_cellsWithLayers_16 ?_
    refine z_iload_n (k := 1) (pc := 17) C dX1_cellsWithLayers_17 rfl ?_
    refine zj1 0 0 24 (fun (x2_4 : Int32) => [(0, .ref a0), (1, .int x1), (2, .int x2_4), (3, .int x3_1)]) (fun (x2_4 : Int32) => []) (fun (x2_4 : Int32) => h) (fun (x2_4 : Int32) => nx) hM (fun x2_4 hM => ?_) (fun J4 iJ4 hM => ?_)
    · refine z_iinc (k := 3) (v := (x3_1 + (1 : Int32))) (lv' := [(3, .int (x3_1 + (1 : Int32))), (0, .ref a0), (1, .int x1), (2, .int x2_4)]) (pc := 24) C dX1_cellsWithLayers_24 rfl (by first | rfl | decide) (by decide) rfl ?_
      refine z_goto (pc := 27) (tgt := 4) C dX1_cellsWithLayers_27 (by decide) ?_
      exact z_sub [1, 2, 3, 0] rfl (irec1 x2_4 (x3_1 + (1 : Int32)) hM)
    refine z_icmp_lt (pc := 18) (tgt := 24) C dX1_cellsWithLayers_18 (by decide) hM (fun hc5 hM => ?_) (fun hc5 hM => ?_)
    · exact z_sub [0, 1, 2, 3] rfl (iJ4 x2_1 hM)
    · refine z_iinc (k := 2) (v := (x2_1 + (1 : Int32))) (lv' := [(2, .int (x2_1 + (1 : Int32))), (0, .ref a0), (1, .int x1), (3, .int x3_1)]) (pc := 21) C dX1_cellsWithLayers_21 rfl (by first | rfl | decide) (by decide) rfl ?_
      exact z_sub [1, 2, 0, 3] rfl (iJ4 (x2_1 + (1 : Int32)) hM)
set_option maxHeartbeats 4000000 in
set_option maxRecDepth 100000 in
theorem c_X1_covered (l : Launch) (hl : l.stackTraces = false) (G : zG) (lo t0 : Nat) (h : zH) (nx : Nat) (a0 : Nat) (o : Int32) (hM : M_X1_covered h a0 = some o) : z_Met l yX1_covered cX1_covered 1 (some .int) 1 23 G lo t0 [.ref a0] h nx (.inr (some (.int o), h, nx)) 0 0 := by
  refine z_of [(0, .ref a0)] (by decide) (Nat.le_of_ble_eq_true rfl) rfl (fun p e s m below meth c C hin => ?_)
  unfold M_X1_covered at hM
  refine z_aload_n (k := 0) (pc := 0) C dX1_covered_0 rfl ?_
  refine z_iconst (v := (1 : Int32)) (pc := 1) C dX1_covered_1 (by decide) ?_
  obtain ⟨_, g1, hM⟩ := Option.bind_eq_some_iff.mp hM
  obtain ⟨r2, g2, hM⟩ := Option.bind_eq_some_iff.mp hM
  refine z_goN (kc := 0) (ks := 0) ([.int r2]) (z_callV (pc := 2) (As := [.int (1 : Int32)]) (rest := []) (n := 1) (ci := 2) C (c_X1_cellsWithLayers l hl G lo t0 h nx a0 (1 : Int32) r2 g2) g1 rfl q_248 q_249 q_250 q_15 q_251 ⟨rfl, by decide +kernel, by decide +kernel, by decide +kernel⟩ ⟨Nat.le_of_ble_eq_true rfl, Nat.le_of_ble_eq_true rfl⟩ rfl (Nat.le_of_ble_eq_true rfl) dX1_covered_2 ⟨(Nat.zero_le _), (Nat.zero_le _)⟩) rfl (Nat.le_of_ble_eq_true rfl) (Nat.le_of_ble_eq_true rfl) ?_
  cases hM
  exact z_iret (pc := 5) C rfl (Nat.zero_le _) (Nat.zero_le _) dX1_covered_5
set_option maxHeartbeats 4000000 in
set_option maxRecDepth 100000 in
theorem c_X1_coveredOnlyBy (l : Launch) (hl : l.stackTraces = false) (G : zG) (lo t0 : Nat) (h : zH) (nx : Nat) (a0 : Nat) (a1 : Nat) (o : Int32) (hM : M_X1_coveredOnlyBy h a0 a1 = some o) : z_Met l yX1_coveredOnlyBy cX1_coveredOnlyBy 5 (some .int) 2 43 G lo t0 [.ref a0, .ref a1] h nx (.inr (some (.int o), h, nx)) 0 0 := by
  refine z_of [(0, .ref a0), (1, .ref a1)] (by decide) (Nat.le_of_ble_eq_true rfl) rfl (fun p e s m below meth c C hin => ?_)
  unfold M_X1_coveredOnlyBy at hM
  refine z_aload_n (k := 1) (pc := 0) C dX1_coveredOnlyBy_0 rfl ?_
  obtain ⟨r1, g1, hM⟩ := Option.bind_eq_some_iff.mp hM
  refine z_getI (pc := 1) (k := 6) C g1 rfl inlX0 (by decide) q_195 (fun _ h9 => h9) dX1_coveredOnlyBy_1 ?_
  refine z_if_ne (pc := 4) (tgt := 9) C dX1_coveredOnlyBy_4 (by decide) hM (fun hc16 hM => ?_) (fun hc16 hM => ?_)
  · refine z_iconst (v := (0 : Int32)) (pc := 7) C dX1_coveredOnlyBy_7 (by decide) ?_
    cases hM
    exact z_iret (pc := 8) C rfl (Nat.zero_le _) (Nat.zero_le _) dX1_coveredOnlyBy_8
  · refine z_iconst (v := (0 : Int32)) (pc := 9) C dX1_coveredOnlyBy_9 (by decide) ?_
    refine z_istore_n (lv' := [(2, .int (0 : Int32)), (0, .ref a0), (1, .ref a1)]) (pc := 10) C dX1_coveredOnlyBy_10 (by decide) rfl ?_
    refine z_aload_n (k := 2) (pc := 11) C dX1_coveredOnlyBy_11 rfl ?_
    obtain ⟨r2, g2, hM⟩ := Option.bind_eq_some_iff.mp hM
    refine z_getI (pc := 12) (k := 1) C g2 rfl inlX0 (by decide) q_219 (fun _ h9 => h9) dX1_coveredOnlyBy_12 ?_
    refine z_istore_n (lv' := [(3, .int r2), (2, .int (0 : Int32)), (0, .ref a0), (1, .ref a1)]) (pc := 15) C dX1_coveredOnlyBy_15 (by decide) rfl ?_
    refine z_sub [2, 3, 1, 0] rfl (zl2 (fun (x2_3 : Int32) (x3_3 : Int32) => [(0, .ref a0), (1, .ref a1), (2, .int x2_3), (3, .int x3_3)]) (fun (x2_3 : Int32) (x3_3 : Int32) => h) (fun (x2_3 : Int32) (x3_3 : Int32) => nx) hM (fun rec3 irec3 x2_3 x3_3 hM => ?_))
    refine z_iload_n (k := 3) (pc := 16) C dX1_coveredOnlyBy_16 rfl ?_
    refine z_aload_n (k := 1) (pc := 17) C dX1_coveredOnlyBy_17 rfl ?_
    obtain ⟨r4, g4, hM⟩ := Option.bind_eq_some_iff.mp hM
    refine z_getI (pc := 18) (k := 1) C g4 rfl inlX0 (by decide) q_219 (fun _ h9 => h9) dX1_coveredOnlyBy_18 ?_
    refine z_aload_n (k := 1) (pc := 21) C dX1_coveredOnlyBy_21 rfl ?_
    obtain ⟨r5, g5, hM⟩ := Option.bind_eq_some_iff.mp hM
    refine z_getI (pc := 22) (k := 3) C g5 rfl inlX0 (by decide) q_220 (fun _ h9 => h9) dX1_coveredOnlyBy_22 ?_
    refine z_iadd (pc := 25) C dX1_coveredOnlyBy_25 ?_
    refine z_icmp_ge (pc := 26) (tgt := 75) C dX1_coveredOnlyBy_26 (by decide) hM (fun hc15 hM => ?_) (fun hc15 hM => ?_)
    · refine z_iload_n (k := 2) (pc := 75) C dX1_coveredOnlyBy_75 rfl ?_
      cases hM
      exact z_iret (pc := 76) C rfl (Nat.zero_le _) (Nat.zero_le _) dX1_coveredOnlyBy_76
    · refine z_aload_n (k := 1) (pc := 29) C dX1_coveredOnlyBy_29 rfl ?_
      obtain ⟨r6, g6, hM⟩ := Option.bind_eq_some_iff.mp hM
      refine z_getI (pc := 30) (k := 0) C g6 rfl inlX0 (by decide) q_221 (fun _ h9 => h9) dX1_coveredOnlyBy_30 ?_
      refine z_istore (lv' := [(4, .int r6), (0, .ref a0), (1, .ref a1), (2, .int x2_3), (3, .int x3_3)]) (pc := 33) C dX1_coveredOnlyBy_33 (by decide) rfl ?_
      refine z_sub [1, 2, 3, 4, 0] rfl (zl2 (fun (x2_7 : Int32) (x4_7 : Int32) => [(0, .ref a0), (1, .ref a1), (2, .int x2_7), (3, .int x3_3), (4, .int x4_7)]) (fun (x2_7 : Int32) (x4_7 : Int32) => h) (fun (x2_7 : Int32) (x4_7 : Int32) => nx) hM (fun rec7 irec7 x2_7 x4_7 hM => ?_))
      refine z_iload (k := 4) (pc := 35) C dX1_coveredOnlyBy_35 rfl ?_
      refine z_aload_n (k := 1) (pc := 37) C dX1_coveredOnlyBy_37 rfl ?_
      obtain ⟨r8, g8, hM⟩ := Option.bind_eq_some_iff.mp hM
      refine z_getI (pc := 38) (k := 0) C g8 rfl inlX0 (by decide) q_221 (fun _ h9 => h9) dX1_coveredOnlyBy_38 ?_
      refine z_aload_n (k := 1) (pc := 41) C dX1_coveredOnlyBy_41 rfl ?_
      obtain ⟨r9, g9, hM⟩ := Option.bind_eq_some_iff.mp hM
      refine z_getI (pc := 42) (k := 2) C g9 rfl inlX0 (by decide) q_222 (fun _ h9 => h9) dX1_coveredOnlyBy_42 ?_
      refine z_iadd (pc := 45) C dX1_coveredOnlyBy_45 ?_
      refine z_icmp_ge (pc := 46) (tgt := 69) C dX1_coveredOnlyBy_46 (by decide) hM (fun hc14 hM => ?_) (fun hc14 hM => ?_)
      · refine z_iinc (k := 3) (v := (x3_3 + (1 : Int32))) (lv' := [(3, .int (x3_3 + (1 : Int32))), (0, .ref a0), (1, .ref a1), (2, .int x2_7), (4, .int x4_7)]) (pc := 69) C dX1_coveredOnlyBy_69 rfl (by first | rfl | decide) (by decide) rfl ?_
        refine z_goto (pc := 72) (tgt := 16) C dX1_coveredOnlyBy_72 (by decide) ?_
        exact z_sub [1, 2, 3, 0] rfl (irec3 x2_7 (x3_3 + (1 : Int32)) hM)
      · refine z_aload_n (k := 0) (pc := 49) C dX1_coveredOnlyBy_49 rfl ?_
        refine z_iload (k := 4) (pc := 50) C dX1_coveredOnlyBy_50 rfl ?_
        refine z_iload_n (k := 3) (pc := 52) C dX1_coveredOnlyBy_52 rfl ?_
        obtain ⟨_, g10, hM⟩ := Option.bind_eq_some_iff.mp hM
        obtain ⟨r11, g11, hM⟩ := Option.bind_eq_some_iff.mp hM
        refine z_goN (kc := 0) (ks := 0) ([.int r11]) (z_callV (pc := 53) (As := [.int x4_7, .int x3_3]) (rest := []) (n := 2) (ci := 2) C (c_X1_layersAt l hl G lo t0 h nx a0 x4_7 x3_3 r11 g11) g10 rfl q_418 q_419 q_420 q_15 q_421 ⟨rfl, by decide +kernel, by decide +kernel, by decide +kernel⟩ ⟨Nat.le_of_ble_eq_true rfl, Nat.le_of_ble_eq_true rfl⟩ rfl (Nat.le_of_ble_eq_true rfl) dX1_coveredOnlyBy_53 ⟨(Nat.zero_le _), (Nat.zero_le _)⟩) rfl (Nat.le_of_ble_eq_true rfl) (Nat.le_of_ble_eq_true rfl) ?_
        refine z_iconst (v := (1 : Int32)) (pc := 56) C dX1_coveredOnlyBy_56 (by decide) ?_
        refine zj1 0 0 63 (fun (x2_12 : Int32) => [(0, .ref a0), (1, .ref a1), (2, .int x2_12), (3, .int x3_3), (4, .int x4_7)]) (fun (x2_12 : Int32) => []) (fun (x2_12 : Int32) => h) (fun (x2_12 : Int32) => nx) hM (fun x2_12 hM => ?_) (fun J12 iJ12 hM => ?_)
        · refine z_iinc (k := 4) (v := (x4_7 + (1 : Int32))) (lv' := [(4, .int (x4_7 + (1 : Int32))), (0, .ref a0), (1, .ref a1), (2, .int x2_12), (3, .int x3_3)]) (pc := 63) C dX1_coveredOnlyBy_63 rfl (by first | rfl | decide) (by decide) rfl ?_
          refine z_goto (pc := 66) (tgt := 35) C dX1_coveredOnlyBy_66 (by decide) ?_
          exact z_sub [1, 2, 3, 4, 0] rfl (irec7 x2_12 (x4_7 + (1 : Int32)) hM)
        refine z_icmp_ne (pc := 57) (tgt := 63) C dX1_coveredOnlyBy_57 (by decide) hM (fun hc13 hM => ?_) (fun hc13 hM => ?_)
        · refine z_iinc (k := 2) (v := (x2_7 + (1 : Int32))) (lv' := [(2, .int (x2_7 + (1 : Int32))), (0, .ref a0), (1, .ref a1), (3, .int x3_3), (4, .int x4_7)]) (pc := 60) C dX1_coveredOnlyBy_60 rfl (by first | rfl | decide) (by decide) rfl ?_
          exact z_sub [1, 2, 0, 3, 4] rfl (iJ12 (x2_7 + (1 : Int32)) hM)
        · exact z_sub [0, 1, 2, 3, 4] rfl (iJ12 x2_7 hM)
set_option maxHeartbeats 4000000 in
set_option maxRecDepth 100000 in
theorem c_X1_openAt (l : Launch) (hl : l.stackTraces = false) (G : zG) (lo t0 : Nat) (h : zH) (nx : Nat) (a0 : Nat) (x1 : Int32) (x2 : Int32) (o : Int32) (hM : M_X1_openAt h a0 x1 x2 = some o) : z_Met l yX1_openAt cX1_openAt 3 (some .int) 2 43 G lo t0 [.ref a0, .int x1, .int x2] h nx (.inr (some (.int o), h, nx)) 0 0 := by
  refine z_of [(0, .ref a0), (1, .int x1), (2, .int x2)] (by decide) (Nat.le_of_ble_eq_true rfl) rfl (fun p e s m below meth c C hin => ?_)
  unfold M_X1_openAt at hM
  refine z_aload_n (k := 0) (pc := 0) C dX1_openAt_0 rfl ?_
  refine z_iload_n (k := 1) (pc := 1) C dX1_openAt_1 rfl ?_
  refine z_iload_n (k := 2) (pc := 2) C dX1_openAt_2 rfl ?_
  obtain ⟨_, g1, hM⟩ := Option.bind_eq_some_iff.mp hM
  obtain ⟨r2, g2, hM⟩ := Option.bind_eq_some_iff.mp hM
  refine z_goN (kc := 0) (ks := 0) ([.int r2]) (z_callV (pc := 3) (As := [.int x1, .int x2]) (rest := []) (n := 2) (ci := 2) C (c_X1_layersAt l hl G lo t0 h nx a0 x1 x2 r2 g2) g1 rfl q_418 q_419 q_420 q_15 q_421 ⟨rfl, by decide +kernel, by decide +kernel, by decide +kernel⟩ ⟨Nat.le_of_ble_eq_true rfl, Nat.le_of_ble_eq_true rfl⟩ rfl (Nat.le_of_ble_eq_true rfl) dX1_openAt_3 ⟨(Nat.zero_le _), (Nat.zero_le _)⟩) rfl (Nat.le_of_ble_eq_true rfl) (Nat.le_of_ble_eq_true rfl) ?_
  refine z_if_ne (pc := 6) (tgt := 13) C dX1_openAt_6 (by decide) hM (fun hc3 hM => ?_) (fun hc3 hM => ?_)
  · refine z_iconst (v := (1 : Int32)) (pc := 9) C dX1_openAt_9 (by decide) ?_
    refine z_goto (pc := 10) (tgt := 14) C dX1_openAt_10 (by decide) ?_
    cases hM
    exact z_iret (pc := 14) C rfl (Nat.zero_le _) (Nat.zero_le _) dX1_openAt_14
  · refine z_iconst (v := (0 : Int32)) (pc := 13) C dX1_openAt_13 (by decide) ?_
    cases hM
    exact z_iret (pc := 14) C rfl (Nat.zero_le _) (Nat.zero_le _) dX1_openAt_14
set_option maxHeartbeats 4000000 in
set_option maxRecDepth 100000 in
theorem c_X1_openSides (l : Launch) (hl : l.stackTraces = false) (G : zG) (lo t0 : Nat) (h : zH) (nx : Nat) (a0 : Nat) (x1 : Int32) (x2 : Int32) (o : Int32) (hM : M_X1_openSides h a0 x1 x2 = some o) : z_Met l yX1_openSides cX1_openSides 3 (some .int) 3 65 G lo t0 [.ref a0, .int x1, .int x2] h nx (.inr (some (.int o), h, nx)) 0 0 := by
  refine z_of [(0, .ref a0), (1, .int x1), (2, .int x2)] (by decide) (Nat.le_of_ble_eq_true rfl) rfl (fun p e s m below meth c C hin => ?_)
  unfold M_X1_openSides at hM
  refine z_aload_n (k := 0) (pc := 0) C dX1_openSides_0 rfl ?_
  refine z_iload_n (k := 1) (pc := 1) C dX1_openSides_1 rfl ?_
  refine z_iconst (v := (1 : Int32)) (pc := 2) C dX1_openSides_2 (by decide) ?_
  refine z_isub (pc := 3) C dX1_openSides_3 ?_
  refine z_iload_n (k := 2) (pc := 4) C dX1_openSides_4 rfl ?_
  obtain ⟨_, g1, hM⟩ := Option.bind_eq_some_iff.mp hM
  obtain ⟨r2, g2, hM⟩ := Option.bind_eq_some_iff.mp hM
  refine z_goN (kc := 0) (ks := 0) ([.int r2]) (z_callV (pc := 5) (As := [.int (x1 - (1 : Int32)), .int x2]) (rest := []) (n := 2) (ci := 2) C (c_X1_openAt l hl G lo t0 h nx a0 (x1 - (1 : Int32)) x2 r2 g2) g1 rfl q_426 q_427 q_428 q_15 q_429 ⟨rfl, by decide +kernel, by decide +kernel, by decide +kernel⟩ ⟨Nat.le_of_ble_eq_true rfl, Nat.le_of_ble_eq_true rfl⟩ rfl (Nat.le_of_ble_eq_true rfl) dX1_openSides_5 ⟨(Nat.zero_le _), (Nat.zero_le _)⟩) rfl (Nat.le_of_ble_eq_true rfl) (Nat.le_of_ble_eq_true rfl) ?_
  refine z_aload_n (k := 0) (pc := 8) C dX1_openSides_8 rfl ?_
  refine z_iload_n (k := 1) (pc := 9) C dX1_openSides_9 rfl ?_
  refine z_iload_n (k := 2) (pc := 10) C dX1_openSides_10 rfl ?_
  refine z_iconst (v := (1 : Int32)) (pc := 11) C dX1_openSides_11 (by decide) ?_
  refine z_isub (pc := 12) C dX1_openSides_12 ?_
  obtain ⟨r3, g3, hM⟩ := Option.bind_eq_some_iff.mp hM
  refine z_goN (kc := 0) (ks := 0) ([.int r3, .int r2]) (z_callV (pc := 13) (As := [.int x1, .int (x2 - (1 : Int32))]) (rest := [.int r2]) (n := 2) (ci := 2) C (c_X1_openAt l hl G lo t0 h nx a0 x1 (x2 - (1 : Int32)) r3 g3) g1 rfl q_426 q_427 q_428 q_15 q_429 ⟨rfl, by decide +kernel, by decide +kernel, by decide +kernel⟩ ⟨Nat.le_of_ble_eq_true rfl, Nat.le_of_ble_eq_true rfl⟩ rfl (Nat.le_of_ble_eq_true rfl) dX1_openSides_13 ⟨(Nat.zero_le _), (Nat.zero_le _)⟩) rfl (Nat.le_of_ble_eq_true rfl) (Nat.le_of_ble_eq_true rfl) ?_
  refine z_iadd (pc := 16) C dX1_openSides_16 ?_
  refine z_aload_n (k := 0) (pc := 17) C dX1_openSides_17 rfl ?_
  refine z_iload_n (k := 1) (pc := 18) C dX1_openSides_18 rfl ?_
  refine z_iconst (v := (1 : Int32)) (pc := 19) C dX1_openSides_19 (by decide) ?_
  refine z_iadd (pc := 20) C dX1_openSides_20 ?_
  refine z_iload_n (k := 2) (pc := 21) C dX1_openSides_21 rfl ?_
  obtain ⟨r4, g4, hM⟩ := Option.bind_eq_some_iff.mp hM
  refine z_goN (kc := 0) (ks := 0) ([.int r4, .int (r2 + r3)]) (z_callV (pc := 22) (As := [.int (x1 + (1 : Int32)), .int x2]) (rest := [.int (r2 + r3)]) (n := 2) (ci := 2) C (c_X1_openAt l hl G lo t0 h nx a0 (x1 + (1 : Int32)) x2 r4 g4) g1 rfl q_426 q_427 q_428 q_15 q_429 ⟨rfl, by decide +kernel, by decide +kernel, by decide +kernel⟩ ⟨Nat.le_of_ble_eq_true rfl, Nat.le_of_ble_eq_true rfl⟩ rfl (Nat.le_of_ble_eq_true rfl) dX1_openSides_22 ⟨(Nat.zero_le _), (Nat.zero_le _)⟩) rfl (Nat.le_of_ble_eq_true rfl) (Nat.le_of_ble_eq_true rfl) ?_
  refine z_iadd (pc := 25) C dX1_openSides_25 ?_
  refine z_aload_n (k := 0) (pc := 26) C dX1_openSides_26 rfl ?_
  refine z_iload_n (k := 1) (pc := 27) C dX1_openSides_27 rfl ?_
  refine z_iload_n (k := 2) (pc := 28) C dX1_openSides_28 rfl ?_
  refine z_iconst (v := (1 : Int32)) (pc := 29) C dX1_openSides_29 (by decide) ?_
  refine z_iadd (pc := 30) C dX1_openSides_30 ?_
  obtain ⟨r5, g5, hM⟩ := Option.bind_eq_some_iff.mp hM
  refine z_goN (kc := 0) (ks := 0) ([.int r5, .int ((r2 + r3) + r4)]) (z_callV (pc := 31) (As := [.int x1, .int (x2 + (1 : Int32))]) (rest := [.int ((r2 + r3) + r4)]) (n := 2) (ci := 2) C (c_X1_openAt l hl G lo t0 h nx a0 x1 (x2 + (1 : Int32)) r5 g5) g1 rfl q_426 q_427 q_428 q_15 q_429 ⟨rfl, by decide +kernel, by decide +kernel, by decide +kernel⟩ ⟨Nat.le_of_ble_eq_true rfl, Nat.le_of_ble_eq_true rfl⟩ rfl (Nat.le_of_ble_eq_true rfl) dX1_openSides_31 ⟨(Nat.zero_le _), (Nat.zero_le _)⟩) rfl (Nat.le_of_ble_eq_true rfl) (Nat.le_of_ble_eq_true rfl) ?_
  refine z_iadd (pc := 34) C dX1_openSides_34 ?_
  cases hM
  exact z_iret (pc := 35) C rfl (Nat.zero_le _) (Nat.zero_le _) dX1_openSides_35
set_option maxHeartbeats 4000000 in
set_option maxRecDepth 100000 in
theorem c_X1_outline (l : Launch) (hl : l.stackTraces = false) (G : zG) (lo t0 : Nat) (h : zH) (nx : Nat) (a0 : Nat) (o : Int32) (hM : M_X1_outline h a0 = some o) : z_Met l yX1_outline cX1_outline 4 (some .int) 4 87 G lo t0 [.ref a0] h nx (.inr (some (.int o), h, nx)) 0 0 := by
  refine z_of [(0, .ref a0)] (by decide) (Nat.le_of_ble_eq_true rfl) rfl (fun p e s m below meth c C hin => ?_)
  unfold M_X1_outline at hM
  refine z_iconst (v := (0 : Int32)) (pc := 0) C dX1_outline_0 (by decide) ?_
  refine z_istore_n (lv' := [(1, .int (0 : Int32)), (0, .ref a0)]) (pc := 1) C dX1_outline_1 (by decide) rfl ?_
  refine z_iconst (v := (0 : Int32)) (pc := 2) C dX1_outline_2 (by decide) ?_
  refine z_istore_n (lv' := [(2, .int (0 : Int32)), (1, .int (0 : Int32)), (0, .ref a0)]) (pc := 3) C dX1_outline_3 (by decide) rfl ?_
  refine z_sub [2, 1, 0] rfl (zl2 (fun (x1_1 : Int32) (x2_1 : Int32) => [(0, .ref a0), (1, .int x1_1), (2, .int x2_1)]) (fun (x1_1 : Int32) (x2_1 : Int32) => h) (fun (x1_1 : Int32) (x2_1 : Int32) => nx) hM (fun rec1 irec1 x1_1 x2_1 hM => ?_))
  refine z_iload_n (k := 2) (pc := 4) C dX1_outline_4 rfl ?_
  refine z_bipush (v := (24 : Int32)) (pc := 5) C dX1_outline_5 (by decide) ?_
  refine z_icmp_ge (pc := 7) (tgt := 48) C dX1_outline_7 (by decide) hM (fun hc9 hM => ?_) (fun hc9 hM => ?_)
  · refine z_iload_n (k := 1) (pc := 48) C dX1_outline_48 rfl ?_
    cases hM
    exact z_iret (pc := 49) C rfl (Nat.zero_le _) (Nat.zero_le _) dX1_outline_49
  · refine z_iconst (v := (0 : Int32)) (pc := 10) C dX1_outline_10 (by decide) ?_
    refine z_istore_n (lv' := [(3, .int (0 : Int32)), (0, .ref a0), (1, .int x1_1), (2, .int x2_1)]) (pc := 11) C dX1_outline_11 (by decide) rfl ?_
    refine z_sub [1, 2, 3, 0] rfl (zl2 (fun (x1_2 : Int32) (x3_2 : Int32) => [(0, .ref a0), (1, .int x1_2), (2, .int x2_1), (3, .int x3_2)]) (fun (x1_2 : Int32) (x3_2 : Int32) => h) (fun (x1_2 : Int32) (x3_2 : Int32) => nx) hM (fun rec2 irec2 x1_2 x3_2 hM => ?_))
    refine z_iload_n (k := 3) (pc := 12) C dX1_outline_12 rfl ?_
    refine z_bipush (v := (24 : Int32)) (pc := 13) C dX1_outline_13 (by decide) ?_
    refine z_icmp_ge (pc := 15) (tgt := 42) C dX1_outline_15 (by decide) hM (fun hc8 hM => ?_) (fun hc8 hM => ?_)
    · refine z_iinc (k := 2) (v := (x2_1 + (1 : Int32))) (lv' := [(2, .int (x2_1 + (1 : Int32))), (0, .ref a0), (1, .int x1_2), (3, .int x3_2)]) (pc := 42) C dX1_outline_42 rfl (by first | rfl | decide) (by decide) rfl ?_
      refine z_goto (pc := 45) (tgt := 4) C dX1_outline_45 (by decide) ?_
      exact z_sub [1, 2, 0] rfl (irec1 x1_2 (x2_1 + (1 : Int32)) hM)
    · refine z_aload_n (k := 0) (pc := 18) C dX1_outline_18 rfl ?_
      refine z_iload_n (k := 3) (pc := 19) C dX1_outline_19 rfl ?_
      refine z_iload_n (k := 2) (pc := 20) C dX1_outline_20 rfl ?_
      obtain ⟨_, g3, hM⟩ := Option.bind_eq_some_iff.mp hM
      obtain ⟨r4, g4, hM⟩ := Option.bind_eq_some_iff.mp hM
      refine z_goN (kc := 0) (ks := 0) ([.int r4]) (z_callV (pc := 21) (As := [.int x3_2, .int x2_1]) (rest := []) (n := 2) (ci := 2) C (c_X1_layersAt l hl G lo t0 h nx a0 x3_2 x2_1 r4 g4) g3 rfl q_418 q_419 q_420 q_15 q_421 ⟨rfl, by decide +kernel, by decide +kernel, by decide +kernel⟩ ⟨Nat.le_of_ble_eq_true rfl, Nat.le_of_ble_eq_true rfl⟩ rfl (Nat.le_of_ble_eq_true rfl) dX1_outline_21 ⟨(Nat.zero_le _), (Nat.zero_le _)⟩) rfl (Nat.le_of_ble_eq_true rfl) (Nat.le_of_ble_eq_true rfl) ?_
      refine zj1 0 0 36 (fun (x1_5 : Int32) => [(0, .ref a0), (1, .int x1_5), (2, .int x2_1), (3, .int x3_2)]) (fun (x1_5 : Int32) => []) (fun (x1_5 : Int32) => h) (fun (x1_5 : Int32) => nx) hM (fun x1_5 hM => ?_) (fun J5 iJ5 hM => ?_)
      · refine z_iinc (k := 3) (v := (x3_2 + (1 : Int32))) (lv' := [(3, .int (x3_2 + (1 : Int32))), (0, .ref a0), (1, .int x1_5), (2, .int x2_1)]) (pc := 36) C dX1_outline_36 rfl (by first | rfl | decide) (by decide) rfl ?_
        refine z_goto (pc := 39) (tgt := 12) C dX1_outline_39 (by decide) ?_
        exact z_sub [1, 2, 3, 0] rfl (irec2 x1_5 (x3_2 + (1 : Int32)) hM)
      refine z_if_le (pc := 24) (tgt := 36) C dX1_outline_24 (by decide) hM (fun hc7 hM => ?_) (fun hc7 hM => ?_)
      · exact z_sub [0, 1, 2, 3] rfl (iJ5 x1_2 hM)
      · refine z_iload_n (k := 1) (pc := 27) C dX1_outline_27 rfl ?_
        refine z_aload_n (k := 0) (pc := 28) C dX1_outline_28 rfl ?_
        refine z_iload_n (k := 3) (pc := 29) C dX1_outline_29 rfl ?_
        refine z_iload_n (k := 2) (pc := 30) C dX1_outline_30 rfl ?_
        obtain ⟨r6, g6, hM⟩ := Option.bind_eq_some_iff.mp hM
        refine z_goN (kc := 0) (ks := 0) ([.int r6, .int x1_2]) (z_callV (pc := 31) (As := [.int x3_2, .int x2_1]) (rest := [.int x1_2]) (n := 2) (ci := 2) C (c_X1_openSides l hl G lo t0 h nx a0 x3_2 x2_1 r6 g6) g3 rfl q_422 q_423 q_424 q_15 q_425 ⟨rfl, by decide +kernel, by decide +kernel, by decide +kernel⟩ ⟨Nat.le_of_ble_eq_true rfl, Nat.le_of_ble_eq_true rfl⟩ rfl (Nat.le_of_ble_eq_true rfl) dX1_outline_31 ⟨(Nat.zero_le _), (Nat.zero_le _)⟩) rfl (Nat.le_of_ble_eq_true rfl) (Nat.le_of_ble_eq_true rfl) ?_
        refine z_iadd (pc := 34) C dX1_outline_34 ?_
        refine z_istore_n (lv' := [(1, .int (x1_2 + r6)), (0, .ref a0), (2, .int x2_1), (3, .int x3_2)]) (pc := 35) C dX1_outline_35 (by decide) rfl ?_
        exact z_sub [1, 0, 2, 3] rfl (iJ5 (x1_2 + r6) hM)
set_option maxHeartbeats 4000000 in
set_option maxRecDepth 100000 in
theorem c_X1_reach (l : Launch) (hl : l.stackTraces = false) (G : zG) (lo t0 : Nat) (h : zH) (nx : Nat) (a0 : Nat) (x1 : Int32) (x2 : Int32) (o : zH) (hM : M_X1_reach h a0 x1 x2 = some o) : z_Met l yX1_reach cX1_reach 4 none 2 43 G lo t0 [.ref a0, .int x1, .int x2] h nx (.inr (none, o, nx)) 0 0 := by
  refine z_of [(0, .ref a0), (1, .int x1), (2, .int x2)] (by decide) (Nat.le_of_ble_eq_true rfl) rfl (fun p e s m below meth c C hin => ?_)
  unfold M_X1_reach at hM
  refine z_aload_n (k := 0) (pc := 0) C dX1_reach_0 rfl ?_
  refine z_iload_n (k := 1) (pc := 1) C dX1_reach_1 rfl ?_
  refine z_iload_n (k := 2) (pc := 2) C dX1_reach_2 rfl ?_
  obtain ⟨_, g1, hM⟩ := Option.bind_eq_some_iff.mp hM
  obtain ⟨r2, g2, hM⟩ := Option.bind_eq_some_iff.mp hM
  refine z_goN (kc := 0) (ks := 0) ([.int r2]) (z_callV (pc := 3) (As := [.int x1, .int x2]) (rest := []) (n := 2) (ci := 2) C (c_X1_layersAt l hl G lo t0 h nx a0 x1 x2 r2 g2) g1 rfl q_418 q_419 q_420 q_15 q_421 ⟨rfl, by decide +kernel, by decide +kernel, by decide +kernel⟩ ⟨Nat.le_of_ble_eq_true rfl, Nat.le_of_ble_eq_true rfl⟩ rfl (Nat.le_of_ble_eq_true rfl) dX1_reach_3 ⟨(Nat.zero_le _), (Nat.zero_le _)⟩) rfl (Nat.le_of_ble_eq_true rfl) (Nat.le_of_ble_eq_true rfl) ?_
  refine z_if_eq (pc := 6) (tgt := 17) C dX1_reach_6 (by decide) hM (fun hc19 hM => ?_) (fun hc19 hM => ?_)
  · cases hM
    exact z_vret (pc := 17) C rfl (Nat.zero_le _) (Nat.zero_le _) dX1_reach_17
  · refine z_iload_n (k := 1) (pc := 9) C dX1_reach_9 rfl ?_
    refine z_iload_n (k := 2) (pc := 10) C dX1_reach_10 rfl ?_
    obtain ⟨r3, g3, hM⟩ := Option.bind_eq_some_iff.mp hM
    refine z_goN (kc := 0) (ks := 0) ([.int r3]) (z_callSN (pc := 11) (As := [.int x1, .int x2]) (rest := []) (n := 2) C (c_X4_isCell l hl G lo t0 h nx x1 x2 r3 g3) C.2.2.2.2.2.2.2.2.1 q_223 q_2 q_224 ⟨by decide +kernel, by decide +kernel, by decide +kernel⟩ ⟨Nat.le_of_ble_eq_true rfl, Nat.le_of_ble_eq_true rfl⟩ rfl (Nat.le_of_ble_eq_true rfl) dX1_reach_11 ⟨(Nat.zero_le _), (Nat.zero_le _)⟩) rfl (Nat.le_of_ble_eq_true rfl) (Nat.le_of_ble_eq_true rfl) ?_
    refine z_if_ne (pc := 14) (tgt := 18) C dX1_reach_14 (by decide) hM (fun hc18 hM => ?_) (fun hc18 hM => ?_)
    · cases hM
      exact z_vret (pc := 17) C rfl (Nat.zero_le _) (Nat.zero_le _) dX1_reach_17
    · refine z_iload_n (k := 2) (pc := 18) C dX1_reach_18 rfl ?_
      refine z_bipush (v := (24 : Int32)) (pc := 19) C dX1_reach_19 (by decide) ?_
      refine z_imul (pc := 21) C dX1_reach_21 ?_
      refine z_iload_n (k := 1) (pc := 22) C dX1_reach_22 rfl ?_
      refine z_iadd (pc := 23) C dX1_reach_23 ?_
      refine z_istore_n (lv' := [(3, .int ((x2 * (24 : Int32)) + x1)), (0, .ref a0), (1, .int x1), (2, .int x2)]) (pc := 24) C dX1_reach_24 (by decide) rfl ?_
      refine z_aload_n (k := 1) (pc := 25) C dX1_reach_25 rfl ?_
      obtain ⟨r4, g4, hM⟩ := Option.bind_eq_some_iff.mp hM
      refine z_getR (pc := 26) (k := 2) C g4 rfl inlX1 (by decide) q_37 (fun _ h9 => h9) dX1_reach_26 ?_
      refine z_iload_n (k := 0) (pc := 29) C dX1_reach_29 rfl ?_
      obtain ⟨r5, g5, hM⟩ := Option.bind_eq_some_iff.mp hM
      refine z_iald (pc := 30) C g5 dX1_reach_30 ?_
      refine z_if_ne (pc := 31) (tgt := 78) C dX1_reach_31 (by decide) hM (fun hc17 hM => ?_) (fun hc17 hM => ?_)
      · refine z_aload_n (k := 1) (pc := 34) C dX1_reach_34 rfl ?_
        obtain ⟨r6, g6, hM⟩ := Option.bind_eq_some_iff.mp hM
        refine z_getI (pc := 35) (k := 4) C g6 rfl inlX1 (by decide) q_39 (fun _ h9 => h9) dX1_reach_35 ?_
        refine z_if_lt (pc := 38) (tgt := 78) C dX1_reach_38 (by decide) hM (fun hc16 hM => ?_) (fun hc16 hM => ?_)
        · cases hM
          exact z_vret (pc := 78) C rfl (Nat.zero_le _) (Nat.zero_le _) dX1_reach_78
        · refine z_aload_n (k := 1) (pc := 41) C dX1_reach_41 rfl ?_
          obtain ⟨r7, g7, hM⟩ := Option.bind_eq_some_iff.mp hM
          refine z_getI (pc := 42) (k := 4) C g7 rfl inlX1 (by decide) q_39 (fun _ h9 => h9) dX1_reach_42 ?_
          refine z_sipush (v := (576 : Int32)) (pc := 45) C dX1_reach_45 (by decide) ?_
          refine z_icmp_ge (pc := 48) (tgt := 78) C dX1_reach_48 (by decide) hM (fun hc15 hM => ?_) (fun hc15 hM => ?_)
          · cases hM
            exact z_vret (pc := 78) C rfl (Nat.zero_le _) (Nat.zero_le _) dX1_reach_78
          · refine z_aload_n (k := 1) (pc := 51) C dX1_reach_51 rfl ?_
            obtain ⟨r8, g8, hM⟩ := Option.bind_eq_some_iff.mp hM
            refine z_getR (pc := 52) (k := 2) C g8 rfl inlX1 (by decide) q_37 (fun _ h9 => h9) dX1_reach_52 ?_
            refine z_iload_n (k := 0) (pc := 55) C dX1_reach_55 rfl ?_
            refine z_iconst (v := (1 : Int32)) (pc := 56) C dX1_reach_56 (by decide) ?_
            obtain ⟨h_9, g9, hM⟩ := Option.bind_eq_some_iff.mp hM
            refine z_iast (pc := 57) C g9 dX1_reach_57 ?_
            refine z_aload_n (k := 1) (pc := 58) C dX1_reach_58 rfl ?_
            obtain ⟨r10, g10, hM⟩ := Option.bind_eq_some_iff.mp hM
            refine z_getR (pc := 59) (k := 3) C g10 rfl inlX1 (by decide) q_38 (fun _ h9 => h9) dX1_reach_59 ?_
            refine z_aload_n (k := 1) (pc := 62) C dX1_reach_62 rfl ?_
            obtain ⟨r11, g11, hM⟩ := Option.bind_eq_some_iff.mp hM
            refine z_getI (pc := 63) (k := 4) C g11 rfl inlX1 (by decide) q_39 (fun _ h9 => h9) dX1_reach_63 ?_
            refine z_iload_n (k := 0) (pc := 66) C dX1_reach_66 rfl ?_
            obtain ⟨h_12, g12, hM⟩ := Option.bind_eq_some_iff.mp hM
            refine z_iast (pc := 67) C g12 dX1_reach_67 ?_
            refine z_aload_n (k := 1) (pc := 68) C dX1_reach_68 rfl ?_
            refine z_dup (pc := 69) C dX1_reach_69 rfl ?_
            obtain ⟨r13, g13, hM⟩ := Option.bind_eq_some_iff.mp hM
            refine z_getI (pc := 70) (k := 4) C g13 rfl inlX1 (by decide) q_39 (fun _ h9 => h9) dX1_reach_70 ?_
            refine z_iconst (v := (1 : Int32)) (pc := 73) C dX1_reach_73 (by decide) ?_
            refine z_iadd (pc := 74) C dX1_reach_74 ?_
            obtain ⟨h_14, g14, hM⟩ := Option.bind_eq_some_iff.mp hM
            refine z_put (pc := 75) (k := 4) C g14 rfl inlX1 tyX1 tyX1_ok nmX1 (by decide) q_39 (fun _ h9 => h9) rfl (tyX1_ok 4 (by decide)) rfl rfl dX1_reach_75 ?_
            cases hM
            exact z_vret (pc := 78) C rfl (Nat.zero_le _) (Nat.zero_le _) dX1_reach_78
      · cases hM
        exact z_vret (pc := 78) C rfl (Nat.zero_le _) (Nat.zero_le _) dX1_reach_78
set_option maxHeartbeats 4000000 in
set_option maxRecDepth 100000 in
theorem c_X1_reachAllFromQueue (l : Launch) (hl : l.stackTraces = false) (G : zG) (lo t0 : Nat) (h : zH) (nx : Nat) (a0 : Nat) (o : zH) (hM : M_X1_reachAllFromQueue h a0 = some o) : z_Met l yX1_reachAllFromQueue cX1_reachAllFromQueue 4 none 3 66 G lo t0 [.ref a0] h nx (.inr (none, o, nx)) 0 0 := by
  refine z_of [(0, .ref a0)] (by decide) (Nat.le_of_ble_eq_true rfl) rfl (fun p e s m below meth c C hin => ?_)
  unfold M_X1_reachAllFromQueue at hM
  refine z_iconst (v := (0 : Int32)) (pc := 0) C dX1_reachAllFromQueue_0 (by decide) ?_
  refine z_istore_n (lv' := [(1, .int (0 : Int32)), (0, .ref a0)]) (pc := 1) C dX1_reachAllFromQueue_1 (by decide) rfl ?_
  refine z_sub [1, 0] rfl (zl2 (fun (x1_1 : Int32) (h_1 : zH) => [(0, .ref a0), (1, .int x1_1)]) (fun (x1_1 : Int32) (h_1 : zH) => h_1) (fun (x1_1 : Int32) (h_1 : zH) => nx) hM (fun rec1 irec1 x1_1 h_1 hM => ?_))
  refine z_iload_n (k := 1) (pc := 2) C dX1_reachAllFromQueue_2 rfl ?_
  refine z_aload_n (k := 0) (pc := 3) C dX1_reachAllFromQueue_3 rfl ?_
  obtain ⟨r2, g2, hM⟩ := Option.bind_eq_some_iff.mp hM
  refine z_getI (pc := 4) (k := 4) C g2 rfl inlX1 (by decide) q_39 (fun _ h9 => h9) dX1_reachAllFromQueue_4 ?_
  refine z_icmp_ge (pc := 7) (tgt := 75) C dX1_reachAllFromQueue_7 (by decide) hM (fun hc16 hM => ?_) (fun hc16 hM => ?_)
  · cases hM
    exact z_vret (pc := 75) C rfl (Nat.zero_le _) (Nat.zero_le _) dX1_reachAllFromQueue_75
  · refine z_iload_n (k := 1) (pc := 10) C dX1_reachAllFromQueue_10 rfl ?_
    refine z_sipush (v := (576 : Int32)) (pc := 11) C dX1_reachAllFromQueue_11 (by decide) ?_
    refine z_icmp_ge (pc := 14) (tgt := 75) C dX1_reachAllFromQueue_14 (by decide) hM (fun hc15 hM => ?_) (fun hc15 hM => ?_)
    · cases hM
      exact z_vret (pc := 75) C rfl (Nat.zero_le _) (Nat.zero_le _) dX1_reachAllFromQueue_75
    · refine z_aload_n (k := 0) (pc := 17) C dX1_reachAllFromQueue_17 rfl ?_
      obtain ⟨r3, g3, hM⟩ := Option.bind_eq_some_iff.mp hM
      refine z_getR (pc := 18) (k := 3) C g3 rfl inlX1 (by decide) q_38 (fun _ h9 => h9) dX1_reachAllFromQueue_18 ?_
      refine z_iload_n (k := 1) (pc := 21) C dX1_reachAllFromQueue_21 rfl ?_
      obtain ⟨r4, g4, hM⟩ := Option.bind_eq_some_iff.mp hM
      refine z_iald (pc := 22) C g4 dX1_reachAllFromQueue_22 ?_
      refine z_bipush (v := (24 : Int32)) (pc := 23) C dX1_reachAllFromQueue_23 (by decide) ?_
      refine z_irem (pc := 25) C dX1_reachAllFromQueue_25 (by decide) ?_
      refine z_istore_n (lv' := [(2, .int (r4 - r4 / (24 : Int32) * (24 : Int32))), (0, .ref a0), (1, .int x1_1)]) (pc := 26) C dX1_reachAllFromQueue_26 (by decide) rfl ?_
      refine z_aload_n (k := 1) (pc := 27) C dX1_reachAllFromQueue_27 rfl ?_
      obtain ⟨r5, g5, hM⟩ := Option.bind_eq_some_iff.mp hM
      refine z_getR (pc := 28) (k := 3) C g5 rfl inlX1 (by decide) q_38 (fun _ h9 => h9) dX1_reachAllFromQueue_28 ?_
      refine z_iload_n (k := 2) (pc := 31) C dX1_reachAllFromQueue_31 rfl ?_
      obtain ⟨r6, g6, hM⟩ := Option.bind_eq_some_iff.mp hM
      refine z_iald (pc := 32) C g6 dX1_reachAllFromQueue_32 ?_
      refine z_bipush (v := (24 : Int32)) (pc := 33) C dX1_reachAllFromQueue_33 (by decide) ?_
      refine z_idiv (pc := 35) C dX1_reachAllFromQueue_35 (by decide) ?_
      refine z_istore_n (lv' := [(3, .int (r6 / (24 : Int32))), (2, .int (r4 - r4 / (24 : Int32) * (24 : Int32))), (0, .ref a0), (1, .int x1_1)]) (pc := 36) C dX1_reachAllFromQueue_36 (by decide) rfl ?_
      refine z_aload_n (k := 2) (pc := 37) C dX1_reachAllFromQueue_37 rfl ?_
      refine z_iload_n (k := 1) (pc := 38) C dX1_reachAllFromQueue_38 rfl ?_
      refine z_iconst (v := (1 : Int32)) (pc := 39) C dX1_reachAllFromQueue_39 (by decide) ?_
      refine z_isub (pc := 40) C dX1_reachAllFromQueue_40 ?_
      refine z_iload_n (k := 0) (pc := 41) C dX1_reachAllFromQueue_41 rfl ?_
      obtain ⟨_, g7, hM⟩ := Option.bind_eq_some_iff.mp hM
      obtain ⟨r8, g8, hM⟩ := Option.bind_eq_some_iff.mp hM
      refine z_goN (kc := 0) (ks := 0) ([]) (z_callV (pc := 42) (As := [.int ((r4 - r4 / (24 : Int32) * (24 : Int32)) - (1 : Int32)), .int (r6 / (24 : Int32))]) (rest := []) (n := 2) (ci := 2) C (c_X1_reach l hl G lo t0 h_1 nx a0 ((r4 - r4 / (24 : Int32) * (24 : Int32)) - (1 : Int32)) (r6 / (24 : Int32)) r8 g8) g7 rfl q_434 q_435 q_436 q_15 q_437 ⟨rfl, by decide +kernel, by decide +kernel, by decide +kernel⟩ ⟨Nat.le_of_ble_eq_true rfl, Nat.le_of_ble_eq_true rfl⟩ rfl (Nat.le_of_ble_eq_true rfl) dX1_reachAllFromQueue_42 ⟨(Nat.zero_le _), (Nat.zero_le _)⟩) rfl (Nat.le_of_ble_eq_true rfl) (Nat.le_of_ble_eq_true rfl) ?_
      refine z_aload_n (k := 2) (pc := 45) C dX1_reachAllFromQueue_45 rfl ?_
      refine z_iload_n (k := 1) (pc := 46) C dX1_reachAllFromQueue_46 rfl ?_
      refine z_iload_n (k := 0) (pc := 47) C dX1_reachAllFromQueue_47 rfl ?_
      refine z_iconst (v := (1 : Int32)) (pc := 48) C dX1_reachAllFromQueue_48 (by decide) ?_
      refine z_isub (pc := 49) C dX1_reachAllFromQueue_49 ?_
      obtain ⟨_, g9, hM⟩ := Option.bind_eq_some_iff.mp hM
      obtain ⟨r10, g10, hM⟩ := Option.bind_eq_some_iff.mp hM
      refine z_goN (kc := 0) (ks := 0) ([]) (z_callV (pc := 50) (As := [.int (r4 - r4 / (24 : Int32) * (24 : Int32)), .int ((r6 / (24 : Int32)) - (1 : Int32))]) (rest := []) (n := 2) (ci := 2) C (c_X1_reach l hl G lo t0 r8 nx a0 (r4 - r4 / (24 : Int32) * (24 : Int32)) ((r6 / (24 : Int32)) - (1 : Int32)) r10 g10) g9 rfl q_434 q_435 q_436 q_15 q_437 ⟨rfl, by decide +kernel, by decide +kernel, by decide +kernel⟩ ⟨Nat.le_of_ble_eq_true rfl, Nat.le_of_ble_eq_true rfl⟩ rfl (Nat.le_of_ble_eq_true rfl) dX1_reachAllFromQueue_50 ⟨(Nat.zero_le _), (Nat.zero_le _)⟩) rfl (Nat.le_of_ble_eq_true rfl) (Nat.le_of_ble_eq_true rfl) ?_
      refine z_aload_n (k := 2) (pc := 53) C dX1_reachAllFromQueue_53 rfl ?_
      refine z_iload_n (k := 1) (pc := 54) C dX1_reachAllFromQueue_54 rfl ?_
      refine z_iconst (v := (1 : Int32)) (pc := 55) C dX1_reachAllFromQueue_55 (by decide) ?_
      refine z_iadd (pc := 56) C dX1_reachAllFromQueue_56 ?_
      refine z_iload_n (k := 0) (pc := 57) C dX1_reachAllFromQueue_57 rfl ?_
      obtain ⟨_, g11, hM⟩ := Option.bind_eq_some_iff.mp hM
      obtain ⟨r12, g12, hM⟩ := Option.bind_eq_some_iff.mp hM
      refine z_goN (kc := 0) (ks := 0) ([]) (z_callV (pc := 58) (As := [.int ((r4 - r4 / (24 : Int32) * (24 : Int32)) + (1 : Int32)), .int (r6 / (24 : Int32))]) (rest := []) (n := 2) (ci := 2) C (c_X1_reach l hl G lo t0 r10 nx a0 ((r4 - r4 / (24 : Int32) * (24 : Int32)) + (1 : Int32)) (r6 / (24 : Int32)) r12 g12) g11 rfl q_434 q_435 q_436 q_15 q_437 ⟨rfl, by decide +kernel, by decide +kernel, by decide +kernel⟩ ⟨Nat.le_of_ble_eq_true rfl, Nat.le_of_ble_eq_true rfl⟩ rfl (Nat.le_of_ble_eq_true rfl) dX1_reachAllFromQueue_58 ⟨(Nat.zero_le _), (Nat.zero_le _)⟩) rfl (Nat.le_of_ble_eq_true rfl) (Nat.le_of_ble_eq_true rfl) ?_
      refine z_aload_n (k := 2) (pc := 61) C dX1_reachAllFromQueue_61 rfl ?_
      refine z_iload_n (k := 1) (pc := 62) C dX1_reachAllFromQueue_62 rfl ?_
      refine z_iload_n (k := 0) (pc := 63) C dX1_reachAllFromQueue_63 rfl ?_
      refine z_iconst (v := (1 : Int32)) (pc := 64) C dX1_reachAllFromQueue_64 (by decide) ?_
      refine z_iadd (pc := 65) C dX1_reachAllFromQueue_65 ?_
      obtain ⟨_, g13, hM⟩ := Option.bind_eq_some_iff.mp hM
      obtain ⟨r14, g14, hM⟩ := Option.bind_eq_some_iff.mp hM
      refine z_goN (kc := 0) (ks := 0) ([]) (z_callV (pc := 66) (As := [.int (r4 - r4 / (24 : Int32) * (24 : Int32)), .int ((r6 / (24 : Int32)) + (1 : Int32))]) (rest := []) (n := 2) (ci := 2) C (c_X1_reach l hl G lo t0 r12 nx a0 (r4 - r4 / (24 : Int32) * (24 : Int32)) ((r6 / (24 : Int32)) + (1 : Int32)) r14 g14) g13 rfl q_434 q_435 q_436 q_15 q_437 ⟨rfl, by decide +kernel, by decide +kernel, by decide +kernel⟩ ⟨Nat.le_of_ble_eq_true rfl, Nat.le_of_ble_eq_true rfl⟩ rfl (Nat.le_of_ble_eq_true rfl) dX1_reachAllFromQueue_66 ⟨(Nat.zero_le _), (Nat.zero_le _)⟩) rfl (Nat.le_of_ble_eq_true rfl) (Nat.le_of_ble_eq_true rfl) ?_
      refine z_iinc (k := 3) (v := (x1_1 + (1 : Int32))) (lv' := [(1, .int (x1_1 + (1 : Int32))), (3, .int (r6 / (24 : Int32))), (2, .int (r4 - r4 / (24 : Int32) * (24 : Int32))), (0, .ref a0)]) (pc := 69) C dX1_reachAllFromQueue_69 rfl (by first | rfl | decide) (by decide) rfl ?_
      refine z_goto (pc := 72) (tgt := 2) C dX1_reachAllFromQueue_72 (by decide) ?_
      exact z_sub [3, 0] rfl (irec1 (x1_1 + (1 : Int32)) r14 hM)
set_option maxHeartbeats 4000000 in
set_option maxRecDepth 100000 in
theorem c_X1_parts (l : Launch) (hl : l.stackTraces = false) (G : zG) (lo t0 : Nat) (h : zH) (nx : Nat) (a0 : Nat) (o : Int32 × zH) (hM : M_X1_parts h a0 = some o) : z_Met l yX1_parts cX1_parts 4 (some .int) 4 89 G lo t0 [.ref a0] h nx (.inr (some (.int o.1), o.2, nx)) 0 0 := by
  refine z_of [(0, .ref a0)] (by decide) (Nat.le_of_ble_eq_true rfl) rfl (fun p e s m below meth c C hin => ?_)
  unfold M_X1_parts at hM
  refine z_aload_n (k := 0) (pc := 0) C dX1_parts_0 rfl ?_
  obtain ⟨r1, g1, hM⟩ := Option.bind_eq_some_iff.mp hM
  refine z_getR (pc := 1) (k := 2) C g1 rfl inlX1 (by decide) q_37 (fun _ h9 => h9) dX1_parts_1 ?_
  refine z_iconst (v := (0 : Int32)) (pc := 4) C dX1_parts_4 (by decide) ?_
  obtain ⟨r2, g2, hM⟩ := Option.bind_eq_some_iff.mp hM
  refine z_goN (kc := 0) (ks := 0) ([]) (z_callS (pc := 5) (As := [.ref r1, .int (0 : Int32)]) (rest := []) (n := 2) C (c_J7_fill_53178 l hl G lo t0 h nx r1 (0 : Int32) r2 g2) q_196 q_197 q_172 q_198 ⟨by decide +kernel, by decide +kernel, by decide +kernel⟩ ⟨Nat.le_of_ble_eq_true rfl, Nat.le_of_ble_eq_true rfl⟩ rfl (Nat.le_of_ble_eq_true rfl) dX1_parts_5 ⟨(Nat.zero_le _), (Nat.zero_le _)⟩) rfl (Nat.le_of_ble_eq_true rfl) (Nat.le_of_ble_eq_true rfl) ?_
  refine z_iconst (v := (0 : Int32)) (pc := 8) C dX1_parts_8 (by decide) ?_
  refine z_istore_n (lv' := [(1, .int (0 : Int32)), (0, .ref a0)]) (pc := 9) C dX1_parts_9 (by decide) rfl ?_
  refine z_iconst (v := (0 : Int32)) (pc := 10) C dX1_parts_10 (by decide) ?_
  refine z_istore_n (lv' := [(2, .int (0 : Int32)), (1, .int (0 : Int32)), (0, .ref a0)]) (pc := 11) C dX1_parts_11 (by decide) rfl ?_
  refine z_sub [2, 1, 0] rfl (zl3 (fun (x1_3 : Int32) (x2_3 : Int32) (h_3 : zH) => [(0, .ref a0), (1, .int x1_3), (2, .int x2_3)]) (fun (x1_3 : Int32) (x2_3 : Int32) (h_3 : zH) => h_3) (fun (x1_3 : Int32) (x2_3 : Int32) (h_3 : zH) => nx) hM (fun rec3 irec3 x1_3 x2_3 h_3 hM => ?_))
  refine z_iload_n (k := 2) (pc := 12) C dX1_parts_12 rfl ?_
  refine z_bipush (v := (24 : Int32)) (pc := 13) C dX1_parts_13 (by decide) ?_
  refine z_icmp_ge (pc := 15) (tgt := 63) C dX1_parts_15 (by decide) hM (fun hc14 hM => ?_) (fun hc14 hM => ?_)
  · refine z_iload_n (k := 1) (pc := 63) C dX1_parts_63 rfl ?_
    cases hM
    exact z_iret (pc := 64) C rfl (Nat.zero_le _) (Nat.zero_le _) dX1_parts_64
  · refine z_iconst (v := (0 : Int32)) (pc := 18) C dX1_parts_18 (by decide) ?_
    refine z_istore_n (lv' := [(3, .int (0 : Int32)), (0, .ref a0), (1, .int x1_3), (2, .int x2_3)]) (pc := 19) C dX1_parts_19 (by decide) rfl ?_
    refine z_sub [1, 2, 3, 0] rfl (zl3 (fun (x1_4 : Int32) (x3_4 : Int32) (h_4 : zH) => [(0, .ref a0), (1, .int x1_4), (2, .int x2_3), (3, .int x3_4)]) (fun (x1_4 : Int32) (x3_4 : Int32) (h_4 : zH) => h_4) (fun (x1_4 : Int32) (x3_4 : Int32) (h_4 : zH) => nx) hM (fun rec4 irec4 x1_4 x3_4 h_4 hM => ?_))
    refine z_iload_n (k := 3) (pc := 20) C dX1_parts_20 rfl ?_
    refine z_bipush (v := (24 : Int32)) (pc := 21) C dX1_parts_21 (by decide) ?_
    refine z_icmp_ge (pc := 23) (tgt := 57) C dX1_parts_23 (by decide) hM (fun hc13 hM => ?_) (fun hc13 hM => ?_)
    · refine z_iinc (k := 2) (v := (x2_3 + (1 : Int32))) (lv' := [(2, .int (x2_3 + (1 : Int32))), (0, .ref a0), (1, .int x1_4), (3, .int x3_4)]) (pc := 57) C dX1_parts_57 rfl (by first | rfl | decide) (by decide) rfl ?_
      refine z_goto (pc := 60) (tgt := 12) C dX1_parts_60 (by decide) ?_
      exact z_sub [1, 2, 0] rfl (irec3 x1_4 (x2_3 + (1 : Int32)) h_4 hM)
    · refine z_aload_n (k := 0) (pc := 26) C dX1_parts_26 rfl ?_
      refine z_iconst (v := (0 : Int32)) (pc := 27) C dX1_parts_27 (by decide) ?_
      obtain ⟨h_5, g5, hM⟩ := Option.bind_eq_some_iff.mp hM
      refine z_put (pc := 28) (k := 4) C g5 rfl inlX1 tyX1 tyX1_ok nmX1 (by decide) q_39 (fun _ h9 => h9) rfl (tyX1_ok 4 (by decide)) rfl rfl dX1_parts_28 ?_
      refine z_aload_n (k := 0) (pc := 31) C dX1_parts_31 rfl ?_
      refine z_iload_n (k := 3) (pc := 32) C dX1_parts_32 rfl ?_
      refine z_iload_n (k := 2) (pc := 33) C dX1_parts_33 rfl ?_
      obtain ⟨_, g6, hM⟩ := Option.bind_eq_some_iff.mp hM
      obtain ⟨r7, g7, hM⟩ := Option.bind_eq_some_iff.mp hM
      refine z_goN (kc := 0) (ks := 0) ([]) (z_callV (pc := 34) (As := [.int x3_4, .int x2_3]) (rest := []) (n := 2) (ci := 2) C (c_X1_reach l hl G lo t0 h_5 nx a0 x3_4 x2_3 r7 g7) g6 rfl q_434 q_435 q_436 q_15 q_437 ⟨rfl, by decide +kernel, by decide +kernel, by decide +kernel⟩ ⟨Nat.le_of_ble_eq_true rfl, Nat.le_of_ble_eq_true rfl⟩ rfl (Nat.le_of_ble_eq_true rfl) dX1_parts_34 ⟨(Nat.zero_le _), (Nat.zero_le _)⟩) rfl (Nat.le_of_ble_eq_true rfl) (Nat.le_of_ble_eq_true rfl) ?_
      refine z_aload_n (k := 0) (pc := 37) C dX1_parts_37 rfl ?_
      obtain ⟨r8, g8, hM⟩ := Option.bind_eq_some_iff.mp hM
      refine z_getI (pc := 38) (k := 4) C g8 rfl inlX1 (by decide) q_39 (fun _ h9 => h9) dX1_parts_38 ?_
      refine zj2 0 0 51 (fun (x1_9 : Int32) (h_9 : zH) => [(0, .ref a0), (1, .int x1_9), (2, .int x2_3), (3, .int x3_4)]) (fun (x1_9 : Int32) (h_9 : zH) => []) (fun (x1_9 : Int32) (h_9 : zH) => h_9) (fun (x1_9 : Int32) (h_9 : zH) => nx) hM (fun x1_9 h_9 hM => ?_) (fun J9 iJ9 hM => ?_)
      · refine z_iinc (k := 3) (v := (x3_4 + (1 : Int32))) (lv' := [(3, .int (x3_4 + (1 : Int32))), (0, .ref a0), (1, .int x1_9), (2, .int x2_3)]) (pc := 51) C dX1_parts_51 rfl (by first | rfl | decide) (by decide) rfl ?_
        refine z_goto (pc := 54) (tgt := 20) C dX1_parts_54 (by decide) ?_
        exact z_sub [1, 2, 3, 0] rfl (irec4 x1_9 (x3_4 + (1 : Int32)) h_9 hM)
      refine z_if_le (pc := 41) (tgt := 51) C dX1_parts_41 (by decide) hM (fun hc12 hM => ?_) (fun hc12 hM => ?_)
      · exact z_sub [0, 1, 2, 3] rfl (iJ9 x1_4 r7 hM)
      · refine z_iinc (k := 1) (v := (x1_4 + (1 : Int32))) (lv' := [(1, .int (x1_4 + (1 : Int32))), (0, .ref a0), (2, .int x2_3), (3, .int x3_4)]) (pc := 44) C dX1_parts_44 rfl (by first | rfl | decide) (by decide) rfl ?_
        refine z_aload_n (k := 1) (pc := 47) C dX1_parts_47 rfl ?_
        obtain ⟨_, g10, hM⟩ := Option.bind_eq_some_iff.mp hM
        obtain ⟨r11, g11, hM⟩ := Option.bind_eq_some_iff.mp hM
        refine z_goN (kc := 0) (ks := 0) ([]) (z_callV (pc := 48) (As := []) (rest := []) (n := 0) (ci := 2) C (c_X1_reachAllFromQueue l hl G lo t0 r7 nx a0 r11 g11) g10 rfl q_438 q_439 q_440 q_15 q_441 ⟨rfl, by decide +kernel, by decide +kernel, by decide +kernel⟩ ⟨Nat.le_of_ble_eq_true rfl, Nat.le_of_ble_eq_true rfl⟩ rfl (Nat.le_of_ble_eq_true rfl) dX1_parts_48 ⟨(Nat.zero_le _), (Nat.zero_le _)⟩) rfl (Nat.le_of_ble_eq_true rfl) (Nat.le_of_ble_eq_true rfl) ?_
        exact z_sub [1, 0, 2, 3] rfl (iJ9 (x1_4 + (1 : Int32)) r11 hM)
set_option maxHeartbeats 4000000 in
set_option maxRecDepth 100000 in
theorem c_X1_coveredInColumn (l : Launch) (hl : l.stackTraces = false) (G : zG) (lo t0 : Nat) (h : zH) (nx : Nat) (a0 : Nat) (x1 : Int32) (o : Int32) (hM : M_X1_coveredInColumn h a0 x1 = some o) : z_Met l yX1_coveredInColumn cX1_coveredInColumn 4 (some .int) 2 43 G lo t0 [.ref a0, .int x1] h nx (.inr (some (.int o), h, nx)) 0 0 := by
  refine z_of [(0, .ref a0), (1, .int x1)] (by decide) (Nat.le_of_ble_eq_true rfl) rfl (fun p e s m below meth c C hin => ?_)
  unfold M_X1_coveredInColumn at hM
  refine z_iconst (v := (0 : Int32)) (pc := 0) C dX1_coveredInColumn_0 (by decide) ?_
  refine z_istore_n (lv' := [(2, .int (0 : Int32)), (0, .ref a0), (1, .int x1)]) (pc := 1) C dX1_coveredInColumn_1 (by decide) rfl ?_
  refine z_iconst (v := (0 : Int32)) (pc := 2) C dX1_coveredInColumn_2 (by decide) ?_
  refine z_istore_n (lv' := [(3, .int (0 : Int32)), (2, .int (0 : Int32)), (0, .ref a0), (1, .int x1)]) (pc := 3) C dX1_coveredInColumn_3 (by decide) rfl ?_
  refine z_sub [2, 3, 1, 0] rfl (zl2 (fun (x2_1 : Int32) (x3_1 : Int32) => [(0, .ref a0), (1, .int x1), (2, .int x2_1), (3, .int x3_1)]) (fun (x2_1 : Int32) (x3_1 : Int32) => h) (fun (x2_1 : Int32) (x3_1 : Int32) => nx) hM (fun rec1 irec1 x2_1 x3_1 hM => ?_))
  refine z_iload_n (k := 3) (pc := 4) C dX1_coveredInColumn_4 rfl ?_
  refine z_bipush (v := (24 : Int32)) (pc := 5) C dX1_coveredInColumn_5 (by decide) ?_
  refine z_icmp_ge (pc := 7) (tgt := 28) C dX1_coveredInColumn_7 (by decide) hM (fun hc6 hM => ?_) (fun hc6 hM => ?_)
  · refine z_iload_n (k := 2) (pc := 28) C dX1_coveredInColumn_28 rfl ?_
    cases hM
    exact z_iret (pc := 29) C rfl (Nat.zero_le _) (Nat.zero_le _) dX1_coveredInColumn_29
  · refine z_aload_n (k := 0) (pc := 10) C dX1_coveredInColumn_10 rfl ?_
    refine z_iload_n (k := 1) (pc := 11) C dX1_coveredInColumn_11 rfl ?_
    refine z_iload_n (k := 3) (pc := 12) C dX1_coveredInColumn_12 rfl ?_
    obtain ⟨_, g2, hM⟩ := Option.bind_eq_some_iff.mp hM
    obtain ⟨r3, g3, hM⟩ := Option.bind_eq_some_iff.mp hM
    refine z_goN (kc := 0) (ks := 0) ([.int r3]) (z_callV (pc := 13) (As := [.int x1, .int x3_1]) (rest := []) (n := 2) (ci := 2) C (c_X1_layersAt l hl G lo t0 h nx a0 x1 x3_1 r3 g3) g2 rfl q_418 q_419 q_420 q_15 q_421 ⟨rfl, by decide +kernel, by decide +kernel, by decide +kernel⟩ ⟨Nat.le_of_ble_eq_true rfl, Nat.le_of_ble_eq_true rfl⟩ rfl (Nat.le_of_ble_eq_true rfl) dX1_coveredInColumn_13 ⟨(Nat.zero_le _), (Nat.zero_le _)⟩) rfl (Nat.le_of_ble_eq_true rfl) (Nat.le_of_ble_eq_true rfl) ?_
    refine zj1 0 0 22 (fun (x2_4 : Int32) => [(0, .ref a0), (1, .int x1), (2, .int x2_4), (3, .int x3_1)]) (fun (x2_4 : Int32) => []) (fun (x2_4 : Int32) => h) (fun (x2_4 : Int32) => nx) hM (fun x2_4 hM => ?_) (fun J4 iJ4 hM => ?_)
    · refine z_iinc (k := 3) (v := (x3_1 + (1 : Int32))) (lv' := [(3, .int (x3_1 + (1 : Int32))), (0, .ref a0), (1, .int x1), (2, .int x2_4)]) (pc := 22) C dX1_coveredInColumn_22 rfl (by first | rfl | decide) (by decide) rfl ?_
      refine z_goto (pc := 25) (tgt := 4) C dX1_coveredInColumn_25 (by decide) ?_
      exact z_sub [1, 2, 3, 0] rfl (irec1 x2_4 (x3_1 + (1 : Int32)) hM)
    refine z_if_le (pc := 16) (tgt := 22) C dX1_coveredInColumn_16 (by decide) hM (fun hc5 hM => ?_) (fun hc5 hM => ?_)
    · exact z_sub [0, 1, 2, 3] rfl (iJ4 x2_1 hM)
    · refine z_iinc (k := 2) (v := (x2_1 + (1 : Int32))) (lv' := [(2, .int (x2_1 + (1 : Int32))), (0, .ref a0), (1, .int x1), (3, .int x3_1)]) (pc := 19) C dX1_coveredInColumn_19 rfl (by first | rfl | decide) (by decide) rfl ?_
      exact z_sub [1, 2, 0, 3] rfl (iJ4 (x2_1 + (1 : Int32)) hM)
set_option maxHeartbeats 4000000 in
set_option maxRecDepth 100000 in
theorem c_X1_runsInColumn (l : Launch) (hl : l.stackTraces = false) (G : zG) (lo t0 : Nat) (h : zH) (nx : Nat) (a0 : Nat) (x1 : Int32) (o : Int32) (hM : M_X1_runsInColumn h a0 x1 = some o) : z_Met l yX1_runsInColumn cX1_runsInColumn 4 (some .int) 2 43 G lo t0 [.ref a0, .int x1] h nx (.inr (some (.int o), h, nx)) 0 0 := by
  refine z_of [(0, .ref a0), (1, .int x1)] (by decide) (Nat.le_of_ble_eq_true rfl) rfl (fun p e s m below meth c C hin => ?_)
  unfold M_X1_runsInColumn at hM
  refine z_iconst (v := (0 : Int32)) (pc := 0) C dX1_runsInColumn_0 (by decide) ?_
  refine z_istore_n (lv' := [(2, .int (0 : Int32)), (0, .ref a0), (1, .int x1)]) (pc := 1) C dX1_runsInColumn_1 (by decide) rfl ?_
  refine z_iconst (v := (0 : Int32)) (pc := 2) C dX1_runsInColumn_2 (by decide) ?_
  refine z_istore_n (lv' := [(3, .int (0 : Int32)), (2, .int (0 : Int32)), (0, .ref a0), (1, .int x1)]) (pc := 3) C dX1_runsInColumn_3 (by decide) rfl ?_
  refine z_sub [2, 3, 1, 0] rfl (zl2 (fun (x2_1 : Int32) (x3_1 : Int32) => [(0, .ref a0), (1, .int x1), (2, .int x2_1), (3, .int x3_1)]) (fun (x2_1 : Int32) (x3_1 : Int32) => h) (fun (x2_1 : Int32) (x3_1 : Int32) => nx) hM (fun rec1 irec1 x2_1 x3_1 hM => ?_))
  refine z_iload_n (k := 3) (pc := 4) C dX1_runsInColumn_4 rfl ?_
  refine z_bipush (v := (24 : Int32)) (pc := 5) C dX1_runsInColumn_5 (by decide) ?_
  refine z_icmp_ge (pc := 7) (tgt := 39) C dX1_runsInColumn_7 (by decide) hM (fun hc8 hM => ?_) (fun hc8 hM => ?_)
  · refine z_iload_n (k := 2) (pc := 39) C dX1_runsInColumn_39 rfl ?_
    cases hM
    exact z_iret (pc := 40) C rfl (Nat.zero_le _) (Nat.zero_le _) dX1_runsInColumn_40
  · refine z_aload_n (k := 0) (pc := 10) C dX1_runsInColumn_10 rfl ?_
    refine z_iload_n (k := 1) (pc := 11) C dX1_runsInColumn_11 rfl ?_
    refine z_iload_n (k := 3) (pc := 12) C dX1_runsInColumn_12 rfl ?_
    obtain ⟨_, g2, hM⟩ := Option.bind_eq_some_iff.mp hM
    obtain ⟨r3, g3, hM⟩ := Option.bind_eq_some_iff.mp hM
    refine z_goN (kc := 0) (ks := 0) ([.int r3]) (z_callV (pc := 13) (As := [.int x1, .int x3_1]) (rest := []) (n := 2) (ci := 2) C (c_X1_layersAt l hl G lo t0 h nx a0 x1 x3_1 r3 g3) g2 rfl q_418 q_419 q_420 q_15 q_421 ⟨rfl, by decide +kernel, by decide +kernel, by decide +kernel⟩ ⟨Nat.le_of_ble_eq_true rfl, Nat.le_of_ble_eq_true rfl⟩ rfl (Nat.le_of_ble_eq_true rfl) dX1_runsInColumn_13 ⟨(Nat.zero_le _), (Nat.zero_le _)⟩) rfl (Nat.le_of_ble_eq_true rfl) (Nat.le_of_ble_eq_true rfl) ?_
    refine zj1 0 0 33 (fun (x2_4 : Int32) => [(0, .ref a0), (1, .int x1), (2, .int x2_4), (3, .int x3_1)]) (fun (x2_4 : Int32) => []) (fun (x2_4 : Int32) => h) (fun (x2_4 : Int32) => nx) hM (fun x2_4 hM => ?_) (fun J4 iJ4 hM => ?_)
    · refine z_iinc (k := 3) (v := (x3_1 + (1 : Int32))) (lv' := [(3, .int (x3_1 + (1 : Int32))), (0, .ref a0), (1, .int x1), (2, .int x2_4)]) (pc := 33) C dX1_runsInColumn_33 rfl (by first | rfl | decide) (by decide) rfl ?_
      refine z_goto (pc := 36) (tgt := 4) C dX1_runsInColumn_36 (by decide) ?_
      exact z_sub [1, 2, 3, 0] rfl (irec1 x2_4 (x3_1 + (1 : Int32)) hM)
    refine z_if_le (pc := 16) (tgt := 33) C dX1_runsInColumn_16 (by decide) hM (fun hc7 hM => ?_) (fun hc7 hM => ?_)
    · exact z_sub [0, 1, 2, 3] rfl (iJ4 x2_1 hM)
    · refine z_aload_n (k := 0) (pc := 19) C dX1_runsInColumn_19 rfl ?_
      refine z_iload_n (k := 1) (pc := 20) C dX1_runsInColumn_20 rfl ?_
      refine z_iload_n (k := 3) (pc := 21) C dX1_runsInColumn_21 rfl ?_
      refine z_iconst (v := (1 : Int32)) (pc := 22) C dX1_runsInColumn_22 (by decide) ?_
      refine z_isub (pc := 23) C dX1_runsInColumn_23 ?_
      obtain ⟨r5, g5, hM⟩ := Option.bind_eq_some_iff.mp hM
      refine z_goN (kc := 0) (ks := 0) ([.int r5]) (z_callV (pc := 24) (As := [.int x1, .int (x3_1 - (1 : Int32))]) (rest := []) (n := 2) (ci := 2) C (c_X1_layersAt l hl G lo t0 h nx a0 x1 (x3_1 - (1 : Int32)) r5 g5) g2 rfl q_418 q_419 q_420 q_15 q_421 ⟨rfl, by decide +kernel, by decide +kernel, by decide +kernel⟩ ⟨Nat.le_of_ble_eq_true rfl, Nat.le_of_ble_eq_true rfl⟩ rfl (Nat.le_of_ble_eq_true rfl) dX1_runsInColumn_24 ⟨(Nat.zero_le _), (Nat.zero_le _)⟩) rfl (Nat.le_of_ble_eq_true rfl) (Nat.le_of_ble_eq_true rfl) ?_
      refine z_if_ne (pc := 27) (tgt := 33) C dX1_runsInColumn_27 (by decide) hM (fun hc6 hM => ?_) (fun hc6 hM => ?_)
      · refine z_iinc (k := 2) (v := (x2_1 + (1 : Int32))) (lv' := [(2, .int (x2_1 + (1 : Int32))), (0, .ref a0), (1, .int x1), (3, .int x3_1)]) (pc := 30) C dX1_runsInColumn_30 rfl (by first | rfl | decide) (by decide) rfl ?_
        exact z_sub [1, 2, 0, 3] rfl (iJ4 (x2_1 + (1 : Int32)) hM)
      · exact z_sub [0, 1, 2, 3] rfl (iJ4 x2_1 hM)
set_option maxHeartbeats 4000000 in
set_option maxRecDepth 100000 in
theorem c_X1_longestRunInColumn (l : Launch) (hl : l.stackTraces = false) (G : zG) (lo t0 : Nat) (h : zH) (nx : Nat) (a0 : Nat) (x1 : Int32) (o : Int32) (hM : M_X1_longestRunInColumn h a0 x1 = some o) : z_Met l yX1_longestRunInColumn cX1_longestRunInColumn 5 (some .int) 2 43 G lo t0 [.ref a0, .int x1] h nx (.inr (some (.int o), h, nx)) 0 0 := by
  refine z_of [(0, .ref a0), (1, .int x1)] (by decide) (Nat.le_of_ble_eq_true rfl) rfl (fun p e s m below meth c C hin => ?_)
  unfold M_X1_longestRunInColumn at hM
  refine z_iconst (v := (0 : Int32)) (pc := 0) C dX1_longestRunInColumn_0 (by decide) ?_
  refine z_istore_n (lv' := [(2, .int (0 : Int32)), (0, .ref a0), (1, .int x1)]) (pc := 1) C dX1_longestRunInColumn_1 (by decide) rfl ?_
  refine z_iconst (v := (0 : Int32)) (pc := 2) C dX1_longestRunInColumn_2 (by decide) ?_
  refine z_istore_n (lv' := [(3, .int (0 : Int32)), (2, .int (0 : Int32)), (0, .ref a0), (1, .int x1)]) (pc := 3) C dX1_longestRunInColumn_3 (by decide) rfl ?_
  refine z_iconst (v := (0 : Int32)) (pc := 4) C dX1_longestRunInColumn_4 (by decide) ?_
  refine z_istore (lv' := [(4, .int (0 : Int32)), (3, .int (0 : Int32)), (2, .int (0 : Int32)), (0, .ref a0), (1, .int x1)]) (pc := 5) C dX1_longestRunInColumn_5 (by decide) rfl ?_
  refine z_sub [3, 4, 2, 1, 0] rfl (zl3 (fun (x2_1 : Int32) (x3_1 : Int32) (x4_1 : Int32) => [(0, .ref a0), (1, .int x1), (2, .int x2_1), (3, .int x3_1), (4, .int x4_1)]) (fun (x2_1 : Int32) (x3_1 : Int32) (x4_1 : Int32) => h) (fun (x2_1 : Int32) (x3_1 : Int32) (x4_1 : Int32) => nx) hM (fun rec1 irec1 x2_1 x3_1 x4_1 hM => ?_))
  refine z_iload (k := 4) (pc := 7) C dX1_longestRunInColumn_7 rfl ?_
  refine z_bipush (v := (24 : Int32)) (pc := 9) C dX1_longestRunInColumn_9 (by decide) ?_
  refine z_icmp_ge (pc := 11) (tgt := 44) C dX1_longestRunInColumn_11 (by decide) hM (fun hc6 hM => ?_) (fun hc6 hM => ?_)
  · refine z_iload_n (k := 2) (pc := 44) C dX1_longestRunInColumn_44 rfl ?_
    cases hM
    exact z_iret (pc := 45) C rfl (Nat.zero_le _) (Nat.zero_le _) dX1_longestRunInColumn_45
  · refine z_aload_n (k := 0) (pc := 14) C dX1_longestRunInColumn_14 rfl ?_
    refine z_iload_n (k := 1) (pc := 15) C dX1_longestRunInColumn_15 rfl ?_
    refine z_iload (k := 4) (pc := 16) C dX1_longestRunInColumn_16 rfl ?_
    obtain ⟨_, g2, hM⟩ := Option.bind_eq_some_iff.mp hM
    obtain ⟨r3, g3, hM⟩ := Option.bind_eq_some_iff.mp hM
    refine z_goN (kc := 0) (ks := 0) ([.int r3]) (z_callV (pc := 18) (As := [.int x1, .int x4_1]) (rest := []) (n := 2) (ci := 2) C (c_X1_layersAt l hl G lo t0 h nx a0 x1 x4_1 r3 g3) g2 rfl q_418 q_419 q_420 q_15 q_421 ⟨rfl, by decide +kernel, by decide +kernel, by decide +kernel⟩ ⟨Nat.le_of_ble_eq_true rfl, Nat.le_of_ble_eq_true rfl⟩ rfl (Nat.le_of_ble_eq_true rfl) dX1_longestRunInColumn_18 ⟨(Nat.zero_le _), (Nat.zero_le _)⟩) rfl (Nat.le_of_ble_eq_true rfl) (Nat.le_of_ble_eq_true rfl) ?_
    refine zj1 0 0 31 (fun (s0_4 : Int32) => [(0, .ref a0), (1, .int x1), (2, .int x2_1), (4, .int x4_1)]) (fun (s0_4 : Int32) => [.int s0_4]) (fun (s0_4 : Int32) => h) (fun (s0_4 : Int32) => nx) hM (fun s0_4 hM => ?_) (fun J4 iJ4 hM => ?_)
    · refine z_istore_n (lv' := [(3, .int s0_4), (0, .ref a0), (1, .int x1), (2, .int x2_1), (4, .int x4_1)]) (pc := 31) C dX1_longestRunInColumn_31 (by decide) rfl ?_
      refine z_iload_n (k := 3) (pc := 32) C dX1_longestRunInColumn_32 rfl ?_
      refine z_iload_n (k := 0) (pc := 33) C dX1_longestRunInColumn_33 rfl ?_
      refine z_max (pc := 34) C q_498 q_4 q_5 q_6 (Nat.le_of_ble_eq_true rfl) (Nat.le_of_ble_eq_true rfl) (Nat.zero_le _) (Nat.zero_le _) dX1_longestRunInColumn_34 ?_
      refine z_istore_n (lv' := [(2, .int (if x2_1 < s0_4 then s0_4 else x2_1)), (3, .int s0_4), (0, .ref a0), (1, .int x1), (4, .int x4_1)]) (pc := 37) C dX1_longestRunInColumn_37 (by decide) rfl ?_
      refine z_iinc (k := 4) (v := (x4_1 + (1 : Int32))) (lv' := [(4, .int (x4_1 + (1 : Int32))), (2, .int (if x2_1 < s0_4 then s0_4 else x2_1)), (3, .int s0_4), (0, .ref a0), (1, .int x1)]) (pc := 38) C dX1_longestRunInColumn_38 rfl (by first | rfl | decide) (by decide) rfl ?_
      refine z_goto (pc := 41) (tgt := 7) C dX1_longestRunInColumn_41 (by decide) ?_
      exact z_sub [3, 4, 1, 2, 0] rfl (irec1 (if x2_1 < s0_4 then s0_4 else x2_1) s0_4 (x4_1 + (1 : Int32)) hM)
    refine z_if_le (pc := 21) (tgt := 30) C dX1_longestRunInColumn_21 (by decide) hM (fun hc5 hM => ?_) (fun hc5 hM => ?_)
    · refine z_iconst (v := (0 : Int32)) (pc := 30) C dX1_longestRunInColumn_30 (by decide) ?_
      exact z_sub [0, 1, 2, 4] rfl (iJ4 (0 : Int32) hM)
    · refine z_iload_n (k := 3) (pc := 24) C dX1_longestRunInColumn_24 rfl ?_
      refine z_iconst (v := (1 : Int32)) (pc := 25) C dX1_longestRunInColumn_25 (by decide) ?_
      refine z_iadd (pc := 26) C dX1_longestRunInColumn_26 ?_
      refine z_goto (pc := 27) (tgt := 31) C dX1_longestRunInColumn_27 (by decide) ?_
      exact z_sub [0, 1, 2, 4] rfl (iJ4 (x3_1 + (1 : Int32)) hM)
set_option maxHeartbeats 4000000 in
set_option maxRecDepth 100000 in
theorem c_X1_mostLayersInColumn (l : Launch) (hl : l.stackTraces = false) (G : zG) (lo t0 : Nat) (h : zH) (nx : Nat) (a0 : Nat) (x1 : Int32) (o : Int32) (hM : M_X1_mostLayersInColumn h a0 x1 = some o) : z_Met l yX1_mostLayersInColumn cX1_mostLayersInColumn 4 (some .int) 2 43 G lo t0 [.ref a0, .int x1] h nx (.inr (some (.int o), h, nx)) 0 0 := by
  refine z_of [(0, .ref a0), (1, .int x1)] (by decide) (Nat.le_of_ble_eq_true rfl) rfl (fun p e s m below meth c C hin => ?_)
  unfold M_X1_mostLayersInColumn at hM
  refine z_iconst (v := (0 : Int32)) (pc := 0) C dX1_mostLayersInColumn_0 (by decide) ?_
  refine z_istore_n (lv' := [(2, .int (0 : Int32)), (0, .ref a0), (1, .int x1)]) (pc := 1) C dX1_mostLayersInColumn_1 (by decide) rfl ?_
  refine z_iconst (v := (0 : Int32)) (pc := 2) C dX1_mostLayersInColumn_2 (by decide) ?_
  refine z_istore_n (lv' := [(3, .int (0 : Int32)), (2, .int (0 : Int32)), (0, .ref a0), (1, .int x1)]) (pc := 3) C dX1_mostLayersInColumn_3 (by decide) rfl ?_
  refine z_sub [2, 3, 1, 0] rfl (zl2 (fun (x2_1 : Int32) (x3_1 : Int32) => [(0, .ref a0), (1, .int x1), (2, .int x2_1), (3, .int x3_1)]) (fun (x2_1 : Int32) (x3_1 : Int32) => h) (fun (x2_1 : Int32) (x3_1 : Int32) => nx) hM (fun rec1 irec1 x2_1 x3_1 hM => ?_))
  refine z_iload_n (k := 3) (pc := 4) C dX1_mostLayersInColumn_4 rfl ?_
  refine z_bipush (v := (24 : Int32)) (pc := 5) C dX1_mostLayersInColumn_5 (by decide) ?_
  refine z_icmp_ge (pc := 7) (tgt := 27) C dX1_mostLayersInColumn_7 (by decide) hM (fun hc4 hM => ?_) (fun hc4 hM => ?_)
  · refine z_iload_n (k := 2) (pc := 27) C dX1_mostLayersInColumn_27 rfl ?_
    cases hM
    exact z_iret (pc := 28) C rfl (Nat.zero_le _) (Nat.zero_le _) dX1_mostLayersInColumn_28
  · refine z_iload_n (k := 2) (pc := 10) C dX1_mostLayersInColumn_10 rfl ?_
    refine z_aload_n (k := 0) (pc := 11) C dX1_mostLayersInColumn_11 rfl ?_
    refine z_iload_n (k := 1) (pc := 12) C dX1_mostLayersInColumn_12 rfl ?_
    refine z_iload_n (k := 3) (pc := 13) C dX1_mostLayersInColumn_13 rfl ?_
    obtain ⟨_, g2, hM⟩ := Option.bind_eq_some_iff.mp hM
    obtain ⟨r3, g3, hM⟩ := Option.bind_eq_some_iff.mp hM
    refine z_goN (kc := 0) (ks := 0) ([.int r3, .int x2_1]) (z_callV (pc := 14) (As := [.int x1, .int x3_1]) (rest := [.int x2_1]) (n := 2) (ci := 2) C (c_X1_layersAt l hl G lo t0 h nx a0 x1 x3_1 r3 g3) g2 rfl q_418 q_419 q_420 q_15 q_421 ⟨rfl, by decide +kernel, by decide +kernel, by decide +kernel⟩ ⟨Nat.le_of_ble_eq_true rfl, Nat.le_of_ble_eq_true rfl⟩ rfl (Nat.le_of_ble_eq_true rfl) dX1_mostLayersInColumn_14 ⟨(Nat.zero_le _), (Nat.zero_le _)⟩) rfl (Nat.le_of_ble_eq_true rfl) (Nat.le_of_ble_eq_true rfl) ?_
    refine z_max (pc := 17) C q_498 q_4 q_5 q_6 (Nat.le_of_ble_eq_true rfl) (Nat.le_of_ble_eq_true rfl) (Nat.zero_le _) (Nat.zero_le _) dX1_mostLayersInColumn_17 ?_
    refine z_istore_n (lv' := [(2, .int (if x2_1 < r3 then r3 else x2_1)), (0, .ref a0), (1, .int x1), (3, .int x3_1)]) (pc := 20) C dX1_mostLayersInColumn_20 (by decide) rfl ?_
    refine z_iinc (k := 3) (v := (x3_1 + (1 : Int32))) (lv' := [(3, .int (x3_1 + (1 : Int32))), (2, .int (if x2_1 < r3 then r3 else x2_1)), (0, .ref a0), (1, .int x1)]) (pc := 21) C dX1_mostLayersInColumn_21 rfl (by first | rfl | decide) (by decide) rfl ?_
    refine z_goto (pc := 24) (tgt := 4) C dX1_mostLayersInColumn_24 (by decide) ?_
    exact z_sub [2, 3, 1, 0] rfl (irec1 (if x2_1 < r3 then r3 else x2_1) (x3_1 + (1 : Int32)) hM)
