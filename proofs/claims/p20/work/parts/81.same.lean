/-! by program (wip/p20/seg.py): isSame up to the means -/
noncomputable def M_same {Om : Type} (T0 : zH → Nat → Nat → Nat → Int32 → Option Om) (h : zH) (nx t0 : Nat) (a0 : Nat) (a1 : Nat) : Option Om := (z_gR (z_up h nx (zI 11 (fun _ => 0))) a0 6 0).bind fun r1 => (z_al (z_up h nx (zI 11 (fun _ => 0))) r1).bind fun r2 => (z_sI (z_up h nx (zI 11 (fun _ => 0))) nx (0 : Int32) r2).bind fun h_3 => (z_sI h_3 nx (1 : Int32) (0 : Int32)).bind fun h_4 => (z_gR h_4 a0 6 1).bind fun r5 => (z_al h_4 r5).bind fun r6 => (z_sI h_4 nx (2 : Int32) r6).bind fun h_7 => (z_ck h_7 a0 6).bind fun _ => (M_X5_covered h_7 a0).bind fun r9 => (z_sI h_7 nx (3 : Int32) r9).bind fun h_10 => (z_ck h_10 a0 6).bind fun _ => (M_X5_outline h_10 a0).bind fun r12 => (z_sI h_10 nx (4 : Int32) r12).bind fun h_13 => (z_ck h_13 a0 6).bind fun _ => (M_X5_parts h_13 (nx + 1) a0).bind fun r15 => (z_sI r15.2.1 nx (5 : Int32) r15.1).bind fun h_16 => (z_sI h_16 nx (6 : Int32) (0 : Int32)).bind fun h_17 => (z_gI h_17 a0 6 3).bind fun r18 => (z_sI h_17 nx (7 : Int32) r18).bind fun h_19 => (z_sI h_19 nx (8 : Int32) (0 : Int32)).bind fun h_20 => (z_gI h_20 a0 6 4).bind fun r21 => (z_sI h_20 nx (9 : Int32) r21).bind fun h_22 => (z_sI h_22 nx (10 : Int32) (0 : Int32)).bind fun h_23 => wl2 (fun rec24 (x3_24 : Int32) (h_24 : zH) => (if (24 : Int32) ≤ x3_24 then wl2 (fun rec25 (x3_25 : Int32) (h_25 : zH) => (z_gR h_25 a0 6 0).bind fun r26 => (z_al h_25 r26).bind fun r27 => (if r27 ≤ x3_25 then wl3 (fun rec28 (x3_28 : Int32) (x4_28 : Int32) (h_28 : zH) => (z_gR h_28 a0 6 1).bind fun r29 => (z_al h_28 r29).bind fun r30 => (if r30 ≤ x4_28 then wl2 (fun rec31 (x4_31 : Int32) (h_31 : zH) => (if (11 : Int32) ≤ x4_31 then (T0 h_31 r15.2.2 a0 a1 x3_28) else (z_ck h_31 a1 5).bind fun _ => z_tn (M_X4_count h_31 a1 x4_31) fun r33 => (z_aI r33.2 nx x4_31).bind fun r34 => (if r33.1 = r34 then (rec31 (x4_31 + (1 : Int32)) r33.2) else none))) 700 (0 : Int32) h_28 else (z_gR h_28 a0 6 1).bind fun r37 => (z_aD h_28 r37 x4_28).bind fun r38 => (z_aI h_28 nx (10 : Int32)).bind fun r39 => (z_aI h_28 r38 (0 : Int32)).bind fun r40 => (z_aI h_28 r38 (1 : Int32)).bind fun r41 => (z_ck h_28 a0 6).bind fun _ => (M_X5_isCovered h_28 a0 r40 r41).bind fun r43 => jn4 (fun (b0_44 : Nat) (s1_44 : Int32) (s2_44 : Int32) (s3_44 : Int32) => (z_sI h_28 b0_44 s1_44 (s2_44 + s3_44)).bind fun h_45 => (z_aI h_45 r38 (2 : Int32)).bind fun r46 => (z_ck h_45 a1 5).bind fun _ => z_tn (M_X4_told h_45 a1 x4_28 (0 : Int32)) fun r48 => (z_aI h_45 r38 (0 : Int32)).bind fun r49 => (if r48 = r49 then z_tn (M_X4_told h_45 a1 x4_28 (1 : Int32)) fun r50 => (z_aI h_45 r38 (1 : Int32)).bind fun r51 => (if r50 = r51 then z_tn (M_X4_told h_45 a1 x4_28 (2 : Int32)) fun r52 => (z_aI h_45 r38 (2 : Int32)).bind fun r53 => (if r52 = r53 then z_tn (M_X4_told h_45 a1 x4_28 (3 : Int32)) fun r54 => (z_aI h_45 r38 (0 : Int32)).bind fun r55 => (z_aI h_45 r38 (1 : Int32)).bind fun r56 => (z_ck h_45 a0 6).bind fun _ => (M_X5_lying h_45 a0 r55 r56).bind fun r58 => (if r54 = r58 then (rec28 (x3_28 + r46) (x4_28 + (1 : Int32)) h_45) else none) else none) else none) else none)) fun J44 => (if r43 = 0 then (J44 nx (10 : Int32) r39 (1 : Int32)) else (J44 nx (10 : Int32) r39 (0 : Int32))))) 700 (0 : Int32) (0 : Int32) h_25 else (z_aI h_25 nx (1 : Int32)).bind fun r65 => (z_gR h_25 a0 6 0).bind fun r66 => (z_aD h_25 r66 x3_25).bind fun r67 => (z_aI h_25 r67 (6 : Int32)).bind fun r68 => (z_sI h_25 nx (1 : Int32) (r65 + r68)).bind fun h_69 => wl1 (fun rec70 (x4_70 : Int32) => (if (7 : Int32) ≤ x4_70 then (z_ck h_69 a1 5).bind fun _ => z_tn (M_X4_about h_69 a1 x3_25 (7 : Int32)) fun r72 => (z_ck h_69 a0 6).bind fun _ => (M_X5_own h_69 a0 x3_25).bind fun r74 => (if r72 = r74 then z_tn (M_X4_about h_69 a1 x3_25 (8 : Int32)) fun r75 => (z_gR h_69 a0 6 0).bind fun r76 => (z_aD h_69 r76 x3_25).bind fun r77 => (z_aI h_69 r77 (7 : Int32)).bind fun r78 => (if r75 = r78 then (z_gI h_69 a0 6 3).bind fun r79 => (z_gR h_69 a0 6 0).bind fun r80 => (z_al h_69 r80).bind fun r81 => (if r81 = 0 then none else z_tn (M_X4_share h_69 a1 x3_25 ((x3_25 + r79) - (x3_25 + r79) / r81 * r81)) fun r83 => (M_X5_shared h_69 a0 x3_25 ((x3_25 + r79) - (x3_25 + r79) / r81 * r81)).bind fun r84 => (if r83 = r84 then (rec25 (x3_25 + (1 : Int32)) h_69) else none)) else none) else none) else (z_ck h_69 a1 5).bind fun _ => z_tn (M_X4_about h_69 a1 x3_25 x4_70) fun r89 => (z_gR h_69 a0 6 0).bind fun r90 => (z_aD h_69 r90 x3_25).bind fun r91 => (z_aI h_69 r91 x4_70).bind fun r92 => (if r89 = r92 then (rec70 (x4_70 + (1 : Int32))) else none))) 700 (0 : Int32))) 700 (0 : Int32) h_24 else wl7 (fun rec96 (x4_96 : Int32) (x5_96 : Int32) (x6_96 : Int32) (x7_96 : Int32) (x8_96 : Int32) (x9_96 : Int32) (h_96 : zH) => (if (24 : Int32) ≤ x9_96 then (z_ck h_96 a1 5).bind fun _ => z_tn (M_X4_cord h_96 a1 x3_24 (0 : Int32)) fun r98 => (if r98 = x4_96 then z_tn (M_X4_cord h_96 a1 x3_24 (1 : Int32)) fun r99 => (if r99 = x5_96 then z_tn (M_X4_cord h_96 a1 x3_24 (2 : Int32)) fun r100 => (if r100 = x6_96 then z_tn (M_X4_cord h_96 a1 x3_24 (3 : Int32)) fun r101 => (if r101 = x8_96 then (rec24 (x3_24 + (1 : Int32)) h_96) else none) else none) else none) else none) else (z_ck h_96 a0 6).bind fun _ => (M_X5_lying h_96 a0 x3_24 x9_96).bind fun r107 => (z_aI h_96 nx (6 : Int32)).bind fun r108 => jn4 (fun (b0_109 : Nat) (s1_109 : Int32) (s2_109 : Int32) (s3_109 : Int32) => (z_sI h_96 b0_109 s1_109 (s2_109 + s3_109)).bind fun h_110 => (z_aI h_110 nx (8 : Int32)).bind fun r111 => (z_gR h_110 a0 6 2).bind fun r112 => (z_aD h_110 r112 x3_24).bind fun r113 => (z_aI h_110 r113 x9_96).bind fun r114 => (z_sI h_110 nx (8 : Int32) (r111 + r114)).bind fun h_115 => (z_ck h_115 a1 5).bind fun _ => z_tn (M_X4_cell h_115 a1 x3_24 x9_96 (0 : Int32)) fun r117 => (if r117 = r107 then z_tn (M_X4_cell h_115 a1 x3_24 x9_96 (1 : Int32)) fun r118 => (z_ck h_115 a0 6).bind fun _ => (M_X5_highest h_115 a0 x3_24 x9_96 (10 : Int32)).bind fun r120 => (if r118 = r120 then z_tn (M_X4_cell h_115 a1 x3_24 x9_96 (2 : Int32)) fun r121 => (z_gR h_115 a0 6 2).bind fun r122 => (z_aD h_115 r122 x3_24).bind fun r123 => (z_aI h_115 r123 x9_96).bind fun r124 => (if r121 = r124 then jn1 (fun (s0_125 : Int32) => jn2 (fun (s0_126 : Int32) (s1_126 : Int32) => jn2 (fun (s0_127 : Int32) (s1_127 : Int32) => (rec96 (s0_126 + s1_126) (s0_127 + s1_127) (if x6_96 < s0_125 then s0_125 else x6_96) s0_125 (if x8_96 < r107 then r107 else x8_96) (x9_96 + (1 : Int32)) h_115)) fun J127 => (if s0_125 = (1 : Int32) then (J127 x5_96 (1 : Int32)) else (J127 x5_96 (0 : Int32)))) fun J126 => (if r107 ≤ 0 then (J126 x4_96 (0 : Int32)) else (J126 x4_96 (1 : Int32)))) fun J125 => (if r107 ≤ 0 then (J125 (0 : Int32)) else (J125 (x7_96 + (1 : Int32)))) else none) else none) else none)) fun J109 => (if r107 ≤ (1 : Int32) then (J109 nx (6 : Int32) r108 (0 : Int32)) else (J109 nx (6 : Int32) r108 (1 : Int32))))) 700 (0 : Int32) (0 : Int32) (0 : Int32) (0 : Int32) (0 : Int32) (0 : Int32) h_24)) 700 (0 : Int32) h_23
set_option maxHeartbeats 8000000 in
set_option maxRecDepth 100000 in
theorem w_same {p : Program} {l : Launch} (hl : l.stackTraces = false) {e : Env} {s : State} {m : MethodId} {below : List Frame} {meth : Method} {c : Code} {G : zG} {lo t0 : Nat} {args : Array Value} {Q : State → Prop} {Om : Type} (h : zH) (nx : Nat) (a0 : Nat) (a1 : Nat) (T0 : zH → Nat → Nat → Nat → Int32 → Option Om) (o : Om) (C : z_Cx p l s m args meth c cX5_isSame 11 yX5_isSame.cls (some .boolean) G lo t0) (K0 : ∀ (h1 : zH) (n1 : Nat) (b0 : Nat) (b1 : Nat) (y3 : Int32), T0 h1 n1 b0 b1 y3 = some o → z_R p l e (z_rm 8 137 28 713) s m args below meth c G lo 11 28 713 Q 629 [(0, .ref b0), (1, .ref b1), (3, .int y3)] [] h1 n1) (hM : M_same T0 h nx t0 a0 a1 = some o) : z_R p l e (z_rm 8 137 28 713) s m args below meth c G lo 11 0 0 Q 0 [(0, .ref a0), (1, .ref a1)] [] h nx := by
  unfold M_same at hM
  refine z_bipush (v := (11 : Int32)) (pc := 0) C dX5_isSame_0 (by decide) ?_
  refine z_newI (pc := 2) (n' := 11) C q_25 (by decide) (by decide) (by decide) (Nat.le_of_ble_eq_true rfl) (Nat.le_of_ble_eq_true rfl) dX5_isSame_2 ?_
  refine z_dup (pc := 4) C dX5_isSame_4 rfl ?_
  refine z_iconst (v := (0 : Int32)) (pc := 5) C dX5_isSame_5 (by decide) ?_
  refine z_aload_n (k := 0) (pc := 6) C dX5_isSame_6 rfl ?_
  obtain ⟨r1, g1, hM⟩ := Option.bind_eq_some_iff.mp hM
  refine z_getR (pc := 7) (k := 0) C g1 rfl inlX5 (by decide) q_76 (fun _ h9 => h9) dX5_isSame_7 ?_
  obtain ⟨r2, g2, hM⟩ := Option.bind_eq_some_iff.mp hM
  refine z_alen (pc := 10) C g2 dX5_isSame_10 ?_
  obtain ⟨h_3, g3, hM⟩ := Option.bind_eq_some_iff.mp hM
  refine z_iast (pc := 11) C g3 dX5_isSame_11 ?_
  refine z_dup (pc := 12) C dX5_isSame_12 rfl ?_
  refine z_iconst (v := (1 : Int32)) (pc := 13) C dX5_isSame_13 (by decide) ?_
  refine z_iconst (v := (0 : Int32)) (pc := 14) C dX5_isSame_14 (by decide) ?_
  obtain ⟨h_4, g4, hM⟩ := Option.bind_eq_some_iff.mp hM
  refine z_iast (pc := 15) C g4 dX5_isSame_15 ?_
  refine z_dup (pc := 16) C dX5_isSame_16 rfl ?_
  refine z_iconst (v := (2 : Int32)) (pc := 17) C dX5_isSame_17 (by decide) ?_
  refine z_aload_n (k := 0) (pc := 18) C dX5_isSame_18 rfl ?_
  obtain ⟨r5, g5, hM⟩ := Option.bind_eq_some_iff.mp hM
  refine z_getR (pc := 19) (k := 1) C g5 rfl inlX5 (by decide) q_77 (fun _ h9 => h9) dX5_isSame_19 ?_
  obtain ⟨r6, g6, hM⟩ := Option.bind_eq_some_iff.mp hM
  refine z_alen (pc := 22) C g6 dX5_isSame_22 ?_
  obtain ⟨h_7, g7, hM⟩ := Option.bind_eq_some_iff.mp hM
  refine z_iast (pc := 23) C g7 dX5_isSame_23 ?_
  refine z_dup (pc := 24) C dX5_isSame_24 rfl ?_
  refine z_iconst (v := (3 : Int32)) (pc := 25) C dX5_isSame_25 (by decide) ?_
  refine z_aload_n (k := 0) (pc := 26) C dX5_isSame_26 rfl ?_
  obtain ⟨_, g8, hM⟩ := Option.bind_eq_some_iff.mp hM
  obtain ⟨r9, g9, hM⟩ := Option.bind_eq_some_iff.mp hM
  refine z_goN (kc := 1) (ks := 11) ([.int r9, .int (3 : Int32), .ref nx, .ref nx]) (z_callV (pc := 27) (As := []) (rest := [.int (3 : Int32), .ref nx, .ref nx]) (n := 0) (ci := 6) C (c_X5_covered l hl G lo t0 h_7 (nx + 1) a0 r9 g9) g8 rfl q_527 q_253 q_254 q_71 q_255 ⟨rfl, by decide +kernel, by decide +kernel, by decide +kernel⟩ ⟨Nat.le_of_ble_eq_true rfl, Nat.le_of_ble_eq_true rfl⟩ rfl (Nat.le_of_ble_eq_true rfl) dX5_isSame_27 ⟨(Nat.le_of_ble_eq_true rfl), (Nat.le_of_ble_eq_true rfl)⟩) rfl (Nat.le_of_ble_eq_true rfl) (Nat.le_of_ble_eq_true rfl) ?_
  obtain ⟨h_10, g10, hM⟩ := Option.bind_eq_some_iff.mp hM
  refine z_iast (pc := 30) C g10 dX5_isSame_30 ?_
  refine z_dup (pc := 31) C dX5_isSame_31 rfl ?_
  refine z_iconst (v := (4 : Int32)) (pc := 32) C dX5_isSame_32 (by decide) ?_
  refine z_aload_n (k := 0) (pc := 33) C dX5_isSame_33 rfl ?_
  obtain ⟨_, g11, hM⟩ := Option.bind_eq_some_iff.mp hM
  obtain ⟨r12, g12, hM⟩ := Option.bind_eq_some_iff.mp hM
  refine z_goN (kc := 1) (ks := 11) ([.int r12, .int (4 : Int32), .ref nx, .ref nx]) (z_callV (pc := 34) (As := []) (rest := [.int (4 : Int32), .ref nx, .ref nx]) (n := 0) (ci := 6) C (c_X5_outline l hl G lo t0 h_10 (nx + 1) a0 r12 g12) g11 rfl q_528 q_529 q_530 q_71 q_531 ⟨rfl, by decide +kernel, by decide +kernel, by decide +kernel⟩ ⟨Nat.le_of_ble_eq_true rfl, Nat.le_of_ble_eq_true rfl⟩ rfl (Nat.le_of_ble_eq_true rfl) dX5_isSame_34 ⟨(Nat.le_of_ble_eq_true rfl), (Nat.le_of_ble_eq_true rfl)⟩) rfl (Nat.le_of_ble_eq_true rfl) (Nat.le_of_ble_eq_true rfl) ?_
  obtain ⟨h_13, g13, hM⟩ := Option.bind_eq_some_iff.mp hM
  refine z_iast (pc := 37) C g13 dX5_isSame_37 ?_
  refine z_dup (pc := 38) C dX5_isSame_38 rfl ?_
  refine z_iconst (v := (5 : Int32)) (pc := 39) C dX5_isSame_39 (by decide) ?_
  refine z_aload_n (k := 0) (pc := 40) C dX5_isSame_40 rfl ?_
  obtain ⟨_, g14, hM⟩ := Option.bind_eq_some_iff.mp hM
  obtain ⟨r15, g15, hM⟩ := Option.bind_eq_some_iff.mp hM
  refine z_goN (kc := 28) (ks := 713) ([.int r15.1, .int (5 : Int32), .ref nx, .ref nx]) (z_callV (pc := 41) (As := []) (rest := [.int (5 : Int32), .ref nx, .ref nx]) (n := 0) (ci := 6) C (c_X5_parts l hl G lo t0 h_13 (nx + 1) a0 r15 g15) g14 rfl q_532 q_533 q_534 q_71 q_535 ⟨rfl, by decide +kernel, by decide +kernel, by decide +kernel⟩ ⟨Nat.le_of_ble_eq_true rfl, Nat.le_of_ble_eq_true rfl⟩ rfl (Nat.le_of_ble_eq_true rfl) dX5_isSame_41 ⟨(Nat.le_of_ble_eq_true rfl), (Nat.le_of_ble_eq_true rfl)⟩) rfl (Nat.le_of_ble_eq_true rfl) (Nat.le_of_ble_eq_true rfl) ?_
  obtain ⟨h_16, g16, hM⟩ := Option.bind_eq_some_iff.mp hM
  refine z_iast (pc := 44) C g16 dX5_isSame_44 ?_
  refine z_dup (pc := 45) C dX5_isSame_45 rfl ?_
  refine z_bipush (v := (6 : Int32)) (pc := 46) C dX5_isSame_46 (by decide) ?_
  refine z_iconst (v := (0 : Int32)) (pc := 48) C dX5_isSame_48 (by decide) ?_
  obtain ⟨h_17, g17, hM⟩ := Option.bind_eq_some_iff.mp hM
  refine z_iast (pc := 49) C g17 dX5_isSame_49 ?_
  refine z_dup (pc := 50) C dX5_isSame_50 rfl ?_
  refine z_bipush (v := (7 : Int32)) (pc := 51) C dX5_isSame_51 (by decide) ?_
  refine z_aload_n (k := 0) (pc := 53) C dX5_isSame_53 rfl ?_
  obtain ⟨r18, g18, hM⟩ := Option.bind_eq_some_iff.mp hM
  refine z_getI (pc := 54) (k := 3) C g18 rfl inlX5 (by decide) q_394 (fun _ h9 => h9) dX5_isSame_54 ?_
  obtain ⟨h_19, g19, hM⟩ := Option.bind_eq_some_iff.mp hM
  refine z_iast (pc := 57) C g19 dX5_isSame_57 ?_
  refine z_dup (pc := 58) C dX5_isSame_58 rfl ?_
  refine z_bipush (v := (8 : Int32)) (pc := 59) C dX5_isSame_59 (by decide) ?_
  refine z_iconst (v := (0 : Int32)) (pc := 61) C dX5_isSame_61 (by decide) ?_
  obtain ⟨h_20, g20, hM⟩ := Option.bind_eq_some_iff.mp hM
  refine z_iast (pc := 62) C g20 dX5_isSame_62 ?_
  refine z_dup (pc := 63) C dX5_isSame_63 rfl ?_
  refine z_bipush (v := (9 : Int32)) (pc := 64) C dX5_isSame_64 (by decide) ?_
  refine z_aload_n (k := 0) (pc := 66) C dX5_isSame_66 rfl ?_
  obtain ⟨r21, g21, hM⟩ := Option.bind_eq_some_iff.mp hM
  refine z_getI (pc := 67) (k := 4) C g21 rfl inlX5 (by decide) q_393 (fun _ h9 => h9) dX5_isSame_67 ?_
  obtain ⟨h_22, g22, hM⟩ := Option.bind_eq_some_iff.mp hM
  refine z_iast (pc := 70) C g22 dX5_isSame_70 ?_
  refine z_dup (pc := 71) C dX5_isSame_71 rfl ?_
  refine z_bipush (v := (10 : Int32)) (pc := 72) C dX5_isSame_72 (by decide) ?_
  refine z_iconst (v := (0 : Int32)) (pc := 74) C dX5_isSame_74 (by decide) ?_
  obtain ⟨h_23, g23, hM⟩ := Option.bind_eq_some_iff.mp hM
  refine z_iast (pc := 75) C g23 dX5_isSame_75 ?_
  refine z_astore_n (lv' := [(2, .ref nx), (0, .ref a0), (1, .ref a1)]) (pc := 76) C dX5_isSame_76 (by decide) rfl ?_
  refine z_iconst (v := (0 : Int32)) (pc := 77) C dX5_isSame_77 (by decide) ?_
  refine z_istore_n (lv' := [(3, .int (0 : Int32)), (2, .ref nx), (0, .ref a0), (1, .ref a1)]) (pc := 78) C dX5_isSame_78 (by decide) rfl ?_
  refine z_sub [2, 3, 1, 0] rfl (zl2 (fun (x3_24 : Int32) (h_24 : zH) => [(0, .ref a0), (1, .ref a1), (2, .ref nx), (3, .int x3_24)]) (fun (x3_24 : Int32) (h_24 : zH) => h_24) (fun (x3_24 : Int32) (h_24 : zH) => r15.2.2) hM (fun rec24 irec24 x3_24 h_24 hM => ?_))
  refine z_iload_n (k := 3) (pc := 79) C dX5_isSame_79 rfl ?_
  refine z_bipush (v := (24 : Int32)) (pc := 80) C dX5_isSame_80 (by decide) ?_
  refine z_icmp_ge (pc := 82) (tgt := 330) C dX5_isSame_82 (by decide) hM (fun hc136 hM => ?_) (fun hc136 hM => ?_)
  · refine z_iconst (v := (0 : Int32)) (pc := 330) C dX5_isSame_330 (by decide) ?_
    refine z_istore_n (lv' := [(3, .int (0 : Int32)), (0, .ref a0), (1, .ref a1), (2, .ref nx)]) (pc := 331) C dX5_isSame_331 (by decide) rfl ?_
    refine z_sub [1, 2, 3, 0] rfl (zl2 (fun (x3_25 : Int32) (h_25 : zH) => [(0, .ref a0), (1, .ref a1), (2, .ref nx), (3, .int x3_25)]) (fun (x3_25 : Int32) (h_25 : zH) => h_25) (fun (x3_25 : Int32) (h_25 : zH) => r15.2.2) hM (fun rec25 irec25 x3_25 h_25 hM => ?_))
    refine z_iload_n (k := 3) (pc := 332) C dX5_isSame_332 rfl ?_
    refine z_aload_n (k := 0) (pc := 333) C dX5_isSame_333 rfl ?_
    obtain ⟨r26, g26, hM⟩ := Option.bind_eq_some_iff.mp hM
    refine z_getR (pc := 334) (k := 0) C g26 rfl inlX5 (by decide) q_76 (fun _ h9 => h9) dX5_isSame_334 ?_
    obtain ⟨r27, g27, hM⟩ := Option.bind_eq_some_iff.mp hM
    refine z_alen (pc := 337) C g27 dX5_isSame_337 ?_
    refine z_icmp_ge (pc := 338) (tgt := 468) C dX5_isSame_338 (by decide) hM (fun hc95 hM => ?_) (fun hc95 hM => ?_)
    · refine z_iconst (v := (0 : Int32)) (pc := 468) C dX5_isSame_468 (by decide) ?_
      refine z_istore_n (lv' := [(3, .int (0 : Int32)), (0, .ref a0), (1, .ref a1), (2, .ref nx)]) (pc := 469) C dX5_isSame_469 (by decide) rfl ?_
      refine z_iconst (v := (0 : Int32)) (pc := 470) C dX5_isSame_470 (by decide) ?_
      refine z_istore (lv' := [(4, .int (0 : Int32)), (3, .int (0 : Int32)), (0, .ref a0), (1, .ref a1), (2, .ref nx)]) (pc := 471) C dX5_isSame_471 (by decide) rfl ?_
      refine z_sub [2, 3, 4, 1, 0] rfl (zl3 (fun (x3_28 : Int32) (x4_28 : Int32) (h_28 : zH) => [(0, .ref a0), (1, .ref a1), (2, .ref nx), (3, .int x3_28), (4, .int x4_28)]) (fun (x3_28 : Int32) (x4_28 : Int32) (h_28 : zH) => h_28) (fun (x3_28 : Int32) (x4_28 : Int32) (h_28 : zH) => r15.2.2) hM (fun rec28 irec28 x3_28 x4_28 h_28 hM => ?_))
      refine z_iload (k := 4) (pc := 473) C dX5_isSame_473 rfl ?_
      refine z_aload_n (k := 0) (pc := 475) C dX5_isSame_475 rfl ?_
      obtain ⟨r29, g29, hM⟩ := Option.bind_eq_some_iff.mp hM
      refine z_getR (pc := 476) (k := 1) C g29 rfl inlX5 (by decide) q_77 (fun _ h9 => h9) dX5_isSame_476 ?_
      obtain ⟨r30, g30, hM⟩ := Option.bind_eq_some_iff.mp hM
      refine z_alen (pc := 479) C g30 dX5_isSame_479 ?_
      refine z_icmp_ge (pc := 480) (tgt := 598) C dX5_isSame_480 (by decide) hM (fun hc64 hM => ?_) (fun hc64 hM => ?_)
      · refine z_iconst (v := (0 : Int32)) (pc := 598) C dX5_isSame_598 (by decide) ?_
        refine z_istore (lv' := [(4, .int (0 : Int32)), (0, .ref a0), (1, .ref a1), (2, .ref nx), (3, .int x3_28)]) (pc := 599) C dX5_isSame_599 (by decide) rfl ?_
        refine z_sub [1, 2, 3, 4, 0] rfl (zl2 (fun (x4_31 : Int32) (h_31 : zH) => [(0, .ref a0), (1, .ref a1), (2, .ref nx), (3, .int x3_28), (4, .int x4_31)]) (fun (x4_31 : Int32) (h_31 : zH) => h_31) (fun (x4_31 : Int32) (h_31 : zH) => r15.2.2) hM (fun rec31 irec31 x4_31 h_31 hM => ?_))
        refine z_iload (k := 4) (pc := 601) C dX5_isSame_601 rfl ?_
        refine z_bipush (v := (11 : Int32)) (pc := 603) C dX5_isSame_603 (by decide) ?_
        refine z_icmp_ge (pc := 605) (tgt := 629) C dX5_isSame_605 (by decide) hM (fun hc36 hM => ?_) (fun hc36 hM => ?_)
        · exact z_sub [0, 1, 3] rfl (K0 h_31 r15.2.2 a0 a1 x3_28 hM)
        · refine z_aload_n (k := 1) (pc := 608) C dX5_isSame_608 rfl ?_
          refine z_iload (k := 4) (pc := 609) C dX5_isSame_609 rfl ?_
          obtain ⟨_, g32, hM⟩ := Option.bind_eq_some_iff.mp hM
          obtain ⟨r33, g33, hM⟩ := z_tn_c hM
          refine z_goN (kc := 28) (ks := 713) ([.int r33.1]) (z_callV (pc := 611) (As := [.int x4_31]) (rest := []) (n := 1) (ci := 5) C (c_X4_count l hl G lo t0 h_31 r15.2.2 a1 x4_31 (.inr r33) g33) g32 rfl q_549 q_404 q_405 q_2 q_406 ⟨rfl, by decide +kernel, by decide +kernel, by decide +kernel⟩ ⟨Nat.le_of_ble_eq_true rfl, Nat.le_of_ble_eq_true rfl⟩ rfl (Nat.le_of_ble_eq_true rfl) dX5_isSame_611 ⟨(Nat.le_of_ble_eq_true rfl), (Nat.le_of_ble_eq_true rfl)⟩) rfl (Nat.le_of_ble_eq_true rfl) (Nat.le_of_ble_eq_true rfl) ?_
          refine z_aload_n (k := 2) (pc := 614) C dX5_isSame_614 rfl ?_
          refine z_iload (k := 4) (pc := 615) C dX5_isSame_615 rfl ?_
          obtain ⟨r34, g34, hM⟩ := Option.bind_eq_some_iff.mp hM
          refine z_iald (pc := 617) C g34 dX5_isSame_617 ?_
          refine z_icmp_eq (pc := 618) (tgt := 623) C dX5_isSame_618 (by decide) hM (fun hc35 hM => ?_) (fun hc35 hM => ?_)
          · refine z_iinc (k := 4) (v := (x4_31 + (1 : Int32))) (lv' := [(4, .int (x4_31 + (1 : Int32))), (0, .ref a0), (1, .ref a1), (2, .ref nx), (3, .int x3_28)]) (pc := 623) C dX5_isSame_623 rfl (by first | rfl | decide) (by decide) rfl ?_
            refine z_goto (pc := 626) (tgt := 601) C dX5_isSame_626 (by decide) ?_
            exact z_sub [1, 2, 3, 4, 0] rfl (irec31 (x4_31 + (1 : Int32)) r33.2 hM)
          · cases hM
      · refine z_aload_n (k := 0) (pc := 483) C dX5_isSame_483 rfl ?_
        obtain ⟨r37, g37, hM⟩ := Option.bind_eq_some_iff.mp hM
        refine z_getR (pc := 484) (k := 1) C g37 rfl inlX5 (by decide) q_77 (fun _ h9 => h9) dX5_isSame_484 ?_
        refine z_iload (k := 4) (pc := 487) C dX5_isSame_487 rfl ?_
        obtain ⟨r38, g38, hM⟩ := Option.bind_eq_some_iff.mp hM
        refine z_aaldD (pc := 489) C g38 dX5_isSame_489 ?_
        refine z_astore (lv' := [(5, .ref r38), (0, .ref a0), (1, .ref a1), (2, .ref nx), (3, .int x3_28), (4, .int x4_28)]) (pc := 490) C dX5_isSame_490 (by decide) rfl ?_
        refine z_aload_n (k := 3) (pc := 492) C dX5_isSame_492 rfl ?_
        refine z_bipush (v := (10 : Int32)) (pc := 493) C dX5_isSame_493 (by decide) ?_
        refine z_dup2 (pc := 495) C dX5_isSame_495 rfl rfl ?_
        obtain ⟨r39, g39, hM⟩ := Option.bind_eq_some_iff.mp hM
        refine z_iald (pc := 496) C g39 dX5_isSame_496 ?_
        refine z_aload_n (k := 1) (pc := 497) C dX5_isSame_497 rfl ?_
        refine z_aload (k := 0) (pc := 498) C dX5_isSame_498 rfl ?_
        refine z_iconst (v := (0 : Int32)) (pc := 500) C dX5_isSame_500 (by decide) ?_
        obtain ⟨r40, g40, hM⟩ := Option.bind_eq_some_iff.mp hM
        refine z_iald (pc := 501) C g40 dX5_isSame_501 ?_
        refine z_aload (k := 0) (pc := 502) C dX5_isSame_502 rfl ?_
        refine z_iconst (v := (1 : Int32)) (pc := 504) C dX5_isSame_504 (by decide) ?_
        obtain ⟨r41, g41, hM⟩ := Option.bind_eq_some_iff.mp hM
        refine z_iald (pc := 505) C g41 dX5_isSame_505 ?_
        obtain ⟨_, g42, hM⟩ := Option.bind_eq_some_iff.mp hM
        obtain ⟨r43, g43, hM⟩ := Option.bind_eq_some_iff.mp hM
        refine z_goN (kc := 28) (ks := 713) ([.int r43, .int r39, .int (10 : Int32), .ref nx]) (z_callV (pc := 506) (As := [.int r40, .int r41]) (rest := [.int r39, .int (10 : Int32), .ref nx]) (n := 2) (ci := 6) C (c_X5_isCovered l hl G lo t0 h_28 r15.2.2 a0 r40 r41 r43 g43) g42 rfl q_256 q_257 q_258 q_71 q_259 ⟨rfl, by decide +kernel, by decide +kernel, by decide +kernel⟩ ⟨Nat.le_of_ble_eq_true rfl, Nat.le_of_ble_eq_true rfl⟩ rfl (Nat.le_of_ble_eq_true rfl) dX5_isSame_506 ⟨(Nat.le_of_ble_eq_true rfl), (Nat.le_of_ble_eq_true rfl)⟩) rfl (Nat.le_of_ble_eq_true rfl) (Nat.le_of_ble_eq_true rfl) ?_
        refine zj4 28 713 517 (fun (b0_44 : Nat) (s1_44 : Int32) (s2_44 : Int32) (s3_44 : Int32) => [(0, .ref a0), (1, .ref a1), (2, .ref nx), (3, .int x3_28), (4, .int x4_28), (5, .ref r38)]) (fun (b0_44 : Nat) (s1_44 : Int32) (s2_44 : Int32) (s3_44 : Int32) => [.int s3_44, .int s2_44, .int s1_44, .ref b0_44]) (fun (b0_44 : Nat) (s1_44 : Int32) (s2_44 : Int32) (s3_44 : Int32) => h_28) (fun (b0_44 : Nat) (s1_44 : Int32) (s2_44 : Int32) (s3_44 : Int32) => r15.2.2) hM (fun b0_44 s1_44 s2_44 s3_44 hM => ?_) (fun J44 iJ44 hM => ?_)
        · refine z_iadd (pc := 517) C dX5_isSame_517 ?_
          obtain ⟨h_45, g45, hM⟩ := Option.bind_eq_some_iff.mp hM
          refine z_iast (pc := 518) C g45 dX5_isSame_518 ?_
          refine z_iload_n (k := 3) (pc := 519) C dX5_isSame_519 rfl ?_
          refine z_aload (k := 5) (pc := 520) C dX5_isSame_520 rfl ?_
          refine z_iconst (v := (2 : Int32)) (pc := 522) C dX5_isSame_522 (by decide) ?_
          obtain ⟨r46, g46, hM⟩ := Option.bind_eq_some_iff.mp hM
          refine z_iald (pc := 523) C g46 dX5_isSame_523 ?_
          refine z_iadd (pc := 524) C dX5_isSame_524 ?_
          refine z_istore_n (lv' := [(3, .int (x3_28 + r46)), (0, .ref a0), (1, .ref a1), (2, .ref nx), (4, .int x4_28), (5, .ref r38)]) (pc := 525) C dX5_isSame_525 (by decide) rfl ?_
          refine z_aload_n (k := 2) (pc := 526) C dX5_isSame_526 rfl ?_
          refine z_iload (k := 4) (pc := 527) C dX5_isSame_527 rfl ?_
          refine z_iconst (v := (0 : Int32)) (pc := 529) C dX5_isSame_529 (by decide) ?_
          obtain ⟨_, g47, hM⟩ := Option.bind_eq_some_iff.mp hM
          obtain ⟨r48, g48, hM⟩ := z_tn_c hM
          refine z_goN (kc := 28) (ks := 713) ([.int r48]) (z_callV (pc := 530) (As := [.int x4_28, .int (0 : Int32)]) (rest := []) (n := 2) (ci := 5) C (c_X4_told l hl G lo t0 h_45 r15.2.2 a1 x4_28 (0 : Int32) (.inr r48) g48) g47 rfl q_548 q_466 q_467 q_2 q_468 ⟨rfl, by decide +kernel, by decide +kernel, by decide +kernel⟩ ⟨Nat.le_of_ble_eq_true rfl, Nat.le_of_ble_eq_true rfl⟩ rfl (Nat.le_of_ble_eq_true rfl) dX5_isSame_530 ⟨(Nat.le_of_ble_eq_true rfl), (Nat.le_of_ble_eq_true rfl)⟩) rfl (Nat.le_of_ble_eq_true rfl) (Nat.le_of_ble_eq_true rfl) ?_
          refine z_aload (k := 5) (pc := 533) C dX5_isSame_533 rfl ?_
          refine z_iconst (v := (0 : Int32)) (pc := 535) C dX5_isSame_535 (by decide) ?_
          obtain ⟨r49, g49, hM⟩ := Option.bind_eq_some_iff.mp hM
          refine z_iald (pc := 536) C g49 dX5_isSame_536 ?_
          refine z_icmp_ne (pc := 537) (tgt := 590) C dX5_isSame_537 (by decide) hM (fun hc62 hM => ?_) (fun hc62 hM => ?_)
          · refine z_aload_n (k := 2) (pc := 540) C dX5_isSame_540 rfl ?_
            refine z_iload (k := 4) (pc := 541) C dX5_isSame_541 rfl ?_
            refine z_iconst (v := (1 : Int32)) (pc := 543) C dX5_isSame_543 (by decide) ?_
            obtain ⟨r50, g50, hM⟩ := z_tn_c hM
            refine z_goN (kc := 28) (ks := 713) ([.int r50]) (z_callV (pc := 544) (As := [.int x4_28, .int (1 : Int32)]) (rest := []) (n := 2) (ci := 5) C (c_X4_told l hl G lo t0 h_45 r15.2.2 a1 x4_28 (1 : Int32) (.inr r50) g50) g47 rfl q_548 q_466 q_467 q_2 q_468 ⟨rfl, by decide +kernel, by decide +kernel, by decide +kernel⟩ ⟨Nat.le_of_ble_eq_true rfl, Nat.le_of_ble_eq_true rfl⟩ rfl (Nat.le_of_ble_eq_true rfl) dX5_isSame_544 ⟨(Nat.le_of_ble_eq_true rfl), (Nat.le_of_ble_eq_true rfl)⟩) rfl (Nat.le_of_ble_eq_true rfl) (Nat.le_of_ble_eq_true rfl) ?_
            refine z_aload (k := 5) (pc := 547) C dX5_isSame_547 rfl ?_
            refine z_iconst (v := (1 : Int32)) (pc := 549) C dX5_isSame_549 (by decide) ?_
            obtain ⟨r51, g51, hM⟩ := Option.bind_eq_some_iff.mp hM
            refine z_iald (pc := 550) C g51 dX5_isSame_550 ?_
            refine z_icmp_ne (pc := 551) (tgt := 590) C dX5_isSame_551 (by decide) hM (fun hc61 hM => ?_) (fun hc61 hM => ?_)
            · refine z_aload_n (k := 2) (pc := 554) C dX5_isSame_554 rfl ?_
              refine z_iload (k := 4) (pc := 555) C dX5_isSame_555 rfl ?_
              refine z_iconst (v := (2 : Int32)) (pc := 557) C dX5_isSame_557 (by decide) ?_
              obtain ⟨r52, g52, hM⟩ := z_tn_c hM
              refine z_goN (kc := 28) (ks := 713) ([.int r52]) (z_callV (pc := 558) (As := [.int x4_28, .int (2 : Int32)]) (rest := []) (n := 2) (ci := 5) C (c_X4_told l hl G lo t0 h_45 r15.2.2 a1 x4_28 (2 : Int32) (.inr r52) g52) g47 rfl q_548 q_466 q_467 q_2 q_468 ⟨rfl, by decide +kernel, by decide +kernel, by decide +kernel⟩ ⟨Nat.le_of_ble_eq_true rfl, Nat.le_of_ble_eq_true rfl⟩ rfl (Nat.le_of_ble_eq_true rfl) dX5_isSame_558 ⟨(Nat.le_of_ble_eq_true rfl), (Nat.le_of_ble_eq_true rfl)⟩) rfl (Nat.le_of_ble_eq_true rfl) (Nat.le_of_ble_eq_true rfl) ?_
              refine z_aload (k := 5) (pc := 561) C dX5_isSame_561 rfl ?_
              refine z_iconst (v := (2 : Int32)) (pc := 563) C dX5_isSame_563 (by decide) ?_
              obtain ⟨r53, g53, hM⟩ := Option.bind_eq_some_iff.mp hM
              refine z_iald (pc := 564) C g53 dX5_isSame_564 ?_
              refine z_icmp_ne (pc := 565) (tgt := 590) C dX5_isSame_565 (by decide) hM (fun hc60 hM => ?_) (fun hc60 hM => ?_)
              · refine z_aload_n (k := 2) (pc := 568) C dX5_isSame_568 rfl ?_
                refine z_iload (k := 4) (pc := 569) C dX5_isSame_569 rfl ?_
                refine z_iconst (v := (3 : Int32)) (pc := 571) C dX5_isSame_571 (by decide) ?_
                obtain ⟨r54, g54, hM⟩ := z_tn_c hM
                refine z_goN (kc := 28) (ks := 713) ([.int r54]) (z_callV (pc := 572) (As := [.int x4_28, .int (3 : Int32)]) (rest := []) (n := 2) (ci := 5) C (c_X4_told l hl G lo t0 h_45 r15.2.2 a1 x4_28 (3 : Int32) (.inr r54) g54) g47 rfl q_548 q_466 q_467 q_2 q_468 ⟨rfl, by decide +kernel, by decide +kernel, by decide +kernel⟩ ⟨Nat.le_of_ble_eq_true rfl, Nat.le_of_ble_eq_true rfl⟩ rfl (Nat.le_of_ble_eq_true rfl) dX5_isSame_572 ⟨(Nat.le_of_ble_eq_true rfl), (Nat.le_of_ble_eq_true rfl)⟩) rfl (Nat.le_of_ble_eq_true rfl) (Nat.le_of_ble_eq_true rfl) ?_
                refine z_aload_n (k := 1) (pc := 575) C dX5_isSame_575 rfl ?_
                refine z_aload (k := 5) (pc := 576) C dX5_isSame_576 rfl ?_
                refine z_iconst (v := (0 : Int32)) (pc := 578) C dX5_isSame_578 (by decide) ?_
                obtain ⟨r55, g55, hM⟩ := Option.bind_eq_some_iff.mp hM
                refine z_iald (pc := 579) C g55 dX5_isSame_579 ?_
                refine z_aload (k := 5) (pc := 580) C dX5_isSame_580 rfl ?_
                refine z_iconst (v := (1 : Int32)) (pc := 582) C dX5_isSame_582 (by decide) ?_
                obtain ⟨r56, g56, hM⟩ := Option.bind_eq_some_iff.mp hM
                refine z_iald (pc := 583) C g56 dX5_isSame_583 ?_
                obtain ⟨_, g57, hM⟩ := Option.bind_eq_some_iff.mp hM
                obtain ⟨r58, g58, hM⟩ := Option.bind_eq_some_iff.mp hM
                refine z_goN (kc := 28) (ks := 713) ([.int r58, .int r54]) (z_callV (pc := 584) (As := [.int r55, .int r56]) (rest := [.int r54]) (n := 2) (ci := 6) C (c_X5_lying l hl G lo t0 h_45 r15.2.2 a0 r55 r56 r58 g58) g57 rfl q_260 q_261 q_262 q_71 q_263 ⟨rfl, by decide +kernel, by decide +kernel, by decide +kernel⟩ ⟨Nat.le_of_ble_eq_true rfl, Nat.le_of_ble_eq_true rfl⟩ rfl (Nat.le_of_ble_eq_true rfl) dX5_isSame_584 ⟨(Nat.le_of_ble_eq_true rfl), (Nat.le_of_ble_eq_true rfl)⟩) rfl (Nat.le_of_ble_eq_true rfl) (Nat.le_of_ble_eq_true rfl) ?_
                refine z_icmp_eq (pc := 587) (tgt := 592) C dX5_isSame_587 (by decide) hM (fun hc59 hM => ?_) (fun hc59 hM => ?_)
                · refine z_iinc (k := 4) (v := (x4_28 + (1 : Int32))) (lv' := [(4, .int (x4_28 + (1 : Int32))), (3, .int (x3_28 + r46)), (0, .ref a0), (1, .ref a1), (2, .ref nx), (5, .ref r38)]) (pc := 592) C dX5_isSame_592 rfl (by first | rfl | decide) (by decide) rfl ?_
                  refine z_goto (pc := 595) (tgt := 473) C dX5_isSame_595 (by decide) ?_
                  exact z_sub [2, 3, 4, 1, 0] rfl (irec28 (x3_28 + r46) (x4_28 + (1 : Int32)) h_45 hM)
                · cases hM
              · cases hM
            · cases hM
          · cases hM
        refine z_if_eq (pc := 509) (tgt := 516) C dX5_isSame_509 (by decide) hM (fun hc63 hM => ?_) (fun hc63 hM => ?_)
        · refine z_iconst (v := (1 : Int32)) (pc := 516) C dX5_isSame_516 (by decide) ?_
          exact z_sub [1, 2, 3, 4, 5, 0] rfl (iJ44 nx (10 : Int32) r39 (1 : Int32) hM)
        · refine z_iconst (v := (0 : Int32)) (pc := 512) C dX5_isSame_512 (by decide) ?_
          refine z_goto (pc := 513) (tgt := 517) C dX5_isSame_513 (by decide) ?_
          exact z_sub [1, 2, 3, 4, 5, 0] rfl (iJ44 nx (10 : Int32) r39 (0 : Int32) hM)
    · refine z_aload_n (k := 2) (pc := 341) C dX5_isSame_341 rfl ?_
      refine z_iconst (v := (1 : Int32)) (pc := 342) C dX5_isSame_342 (by decide) ?_
      refine z_dup2 (pc := 343) C dX5_isSame_343 rfl rfl ?_
      obtain ⟨r65, g65, hM⟩ := Option.bind_eq_some_iff.mp hM
      refine z_iald (pc := 344) C g65 dX5_isSame_344 ?_
      refine z_aload_n (k := 0) (pc := 345) C dX5_isSame_345 rfl ?_
      obtain ⟨r66, g66, hM⟩ := Option.bind_eq_some_iff.mp hM
      refine z_getR (pc := 346) (k := 0) C g66 rfl inlX5 (by decide) q_76 (fun _ h9 => h9) dX5_isSame_346 ?_
      refine z_iload_n (k := 3) (pc := 349) C dX5_isSame_349 rfl ?_
      obtain ⟨r67, g67, hM⟩ := Option.bind_eq_some_iff.mp hM
      refine z_aaldD (pc := 350) C g67 dX5_isSame_350 ?_
      refine z_bipush (v := (6 : Int32)) (pc := 351) C dX5_isSame_351 (by decide) ?_
      obtain ⟨r68, g68, hM⟩ := Option.bind_eq_some_iff.mp hM
      refine z_iald (pc := 353) C g68 dX5_isSame_353 ?_
      refine z_iadd (pc := 354) C dX5_isSame_354 ?_
      obtain ⟨h_69, g69, hM⟩ := Option.bind_eq_some_iff.mp hM
      refine z_iast (pc := 355) C g69 dX5_isSame_355 ?_
      refine z_iconst (v := (0 : Int32)) (pc := 356) C dX5_isSame_356 (by decide) ?_
      refine z_istore (lv' := [(4, .int (0 : Int32)), (0, .ref a0), (1, .ref a1), (2, .ref nx), (3, .int x3_25)]) (pc := 357) C dX5_isSame_357 (by decide) rfl ?_
      refine z_sub [1, 2, 3, 4, 0] rfl (zl1 (fun (x4_70 : Int32) => [(0, .ref a0), (1, .ref a1), (2, .ref nx), (3, .int x3_25), (4, .int x4_70)]) (fun (x4_70 : Int32) => h_69) (fun (x4_70 : Int32) => r15.2.2) hM (fun rec70 irec70 x4_70 hM => ?_))
      refine z_iload (k := 4) (pc := 359) C dX5_isSame_359 rfl ?_
      refine z_bipush (v := (7 : Int32)) (pc := 361) C dX5_isSame_361 (by decide) ?_
      refine z_icmp_ge (pc := 363) (tgt := 393) C dX5_isSame_363 (by decide) hM (fun hc94 hM => ?_) (fun hc94 hM => ?_)
      · refine z_aload_n (k := 1) (pc := 393) C dX5_isSame_393 rfl ?_
        refine z_iload_n (k := 3) (pc := 394) C dX5_isSame_394 rfl ?_
        refine z_bipush (v := (7 : Int32)) (pc := 395) C dX5_isSame_395 (by decide) ?_
        obtain ⟨_, g71, hM⟩ := Option.bind_eq_some_iff.mp hM
        obtain ⟨r72, g72, hM⟩ := z_tn_c hM
        refine z_goN (kc := 28) (ks := 713) ([.int r72]) (z_callV (pc := 397) (As := [.int x3_25, .int (7 : Int32)]) (rest := []) (n := 2) (ci := 5) C (c_X4_about l hl G lo t0 h_69 r15.2.2 a1 x3_25 (7 : Int32) (.inr r72) g72) g71 rfl q_538 q_456 q_457 q_2 q_458 ⟨rfl, by decide +kernel, by decide +kernel, by decide +kernel⟩ ⟨Nat.le_of_ble_eq_true rfl, Nat.le_of_ble_eq_true rfl⟩ rfl (Nat.le_of_ble_eq_true rfl) dX5_isSame_397 ⟨(Nat.le_of_ble_eq_true rfl), (Nat.le_of_ble_eq_true rfl)⟩) rfl (Nat.le_of_ble_eq_true rfl) (Nat.le_of_ble_eq_true rfl) ?_
        refine z_aload_n (k := 0) (pc := 400) C dX5_isSame_400 rfl ?_
        refine z_iload_n (k := 3) (pc := 401) C dX5_isSame_401 rfl ?_
        obtain ⟨_, g73, hM⟩ := Option.bind_eq_some_iff.mp hM
        obtain ⟨r74, g74, hM⟩ := Option.bind_eq_some_iff.mp hM
        refine z_goN (kc := 28) (ks := 713) ([.int r74, .int r72]) (z_callV (pc := 402) (As := [.int x3_25]) (rest := [.int r72]) (n := 1) (ci := 6) C (c_X5_own l hl G lo t0 h_69 r15.2.2 a0 x3_25 r74 g74) g73 rfl q_539 q_540 q_541 q_71 q_542 ⟨rfl, by decide +kernel, by decide +kernel, by decide +kernel⟩ ⟨Nat.le_of_ble_eq_true rfl, Nat.le_of_ble_eq_true rfl⟩ rfl (Nat.le_of_ble_eq_true rfl) dX5_isSame_402 ⟨(Nat.le_of_ble_eq_true rfl), (Nat.le_of_ble_eq_true rfl)⟩) rfl (Nat.le_of_ble_eq_true rfl) (Nat.le_of_ble_eq_true rfl) ?_
        refine z_icmp_ne (pc := 405) (tgt := 427) C dX5_isSame_405 (by decide) hM (fun hc87 hM => ?_) (fun hc87 hM => ?_)
        · refine z_aload_n (k := 1) (pc := 408) C dX5_isSame_408 rfl ?_
          refine z_iload_n (k := 3) (pc := 409) C dX5_isSame_409 rfl ?_
          refine z_bipush (v := (8 : Int32)) (pc := 410) C dX5_isSame_410 (by decide) ?_
          obtain ⟨r75, g75, hM⟩ := z_tn_c hM
          refine z_goN (kc := 28) (ks := 713) ([.int r75]) (z_callV (pc := 412) (As := [.int x3_25, .int (8 : Int32)]) (rest := []) (n := 2) (ci := 5) C (c_X4_about l hl G lo t0 h_69 r15.2.2 a1 x3_25 (8 : Int32) (.inr r75) g75) g71 rfl q_538 q_456 q_457 q_2 q_458 ⟨rfl, by decide +kernel, by decide +kernel, by decide +kernel⟩ ⟨Nat.le_of_ble_eq_true rfl, Nat.le_of_ble_eq_true rfl⟩ rfl (Nat.le_of_ble_eq_true rfl) dX5_isSame_412 ⟨(Nat.le_of_ble_eq_true rfl), (Nat.le_of_ble_eq_true rfl)⟩) rfl (Nat.le_of_ble_eq_true rfl) (Nat.le_of_ble_eq_true rfl) ?_
          refine z_aload_n (k := 0) (pc := 415) C dX5_isSame_415 rfl ?_
          obtain ⟨r76, g76, hM⟩ := Option.bind_eq_some_iff.mp hM
          refine z_getR (pc := 416) (k := 0) C g76 rfl inlX5 (by decide) q_76 (fun _ h9 => h9) dX5_isSame_416 ?_
          refine z_iload_n (k := 3) (pc := 419) C dX5_isSame_419 rfl ?_
          obtain ⟨r77, g77, hM⟩ := Option.bind_eq_some_iff.mp hM
          refine z_aaldD (pc := 420) C g77 dX5_isSame_420 ?_
          refine z_bipush (v := (7 : Int32)) (pc := 421) C dX5_isSame_421 (by decide) ?_
          obtain ⟨r78, g78, hM⟩ := Option.bind_eq_some_iff.mp hM
          refine z_iald (pc := 423) C g78 dX5_isSame_423 ?_
          refine z_icmp_eq (pc := 424) (tgt := 429) C dX5_isSame_424 (by decide) hM (fun hc86 hM => ?_) (fun hc86 hM => ?_)
          · refine z_iload_n (k := 3) (pc := 429) C dX5_isSame_429 rfl ?_
            refine z_aload_n (k := 0) (pc := 430) C dX5_isSame_430 rfl ?_
            obtain ⟨r79, g79, hM⟩ := Option.bind_eq_some_iff.mp hM
            refine z_getI (pc := 431) (k := 3) C g79 rfl inlX5 (by decide) q_394 (fun _ h9 => h9) dX5_isSame_431 ?_
            refine z_iadd (pc := 434) C dX5_isSame_434 ?_
            refine z_aload_n (k := 0) (pc := 435) C dX5_isSame_435 rfl ?_
            obtain ⟨r80, g80, hM⟩ := Option.bind_eq_some_iff.mp hM
            refine z_getR (pc := 436) (k := 0) C g80 rfl inlX5 (by decide) q_76 (fun _ h9 => h9) dX5_isSame_436 ?_
            obtain ⟨r81, g81, hM⟩ := Option.bind_eq_some_iff.mp hM
            refine z_alen (pc := 439) C g81 dX5_isSame_439 ?_
            obtain ⟨hc82, hM⟩ := z_gn hM
            refine z_irem (pc := 440) C dX5_isSame_440 hc82 ?_
            refine z_istore (lv' := [(4, .int ((x3_25 + r79) - (x3_25 + r79) / r81 * r81)), (0, .ref a0), (1, .ref a1), (2, .ref nx), (3, .int x3_25)]) (pc := 441) C dX5_isSame_441 (by decide) rfl ?_
            refine z_aload_n (k := 2) (pc := 443) C dX5_isSame_443 rfl ?_
            refine z_iload_n (k := 4) (pc := 444) C dX5_isSame_444 rfl ?_
            refine z_iload (k := 0) (pc := 445) C dX5_isSame_445 rfl ?_
            obtain ⟨r83, g83, hM⟩ := z_tn_c hM
            refine z_goN (kc := 28) (ks := 713) ([.int r83]) (z_callV (pc := 447) (As := [.int x3_25, .int ((x3_25 + r79) - (x3_25 + r79) / r81 * r81)]) (rest := []) (n := 2) (ci := 5) C (c_X4_share l hl G lo t0 h_69 r15.2.2 a1 x3_25 ((x3_25 + r79) - (x3_25 + r79) / r81 * r81) (.inr r83) g83) g71 rfl q_543 q_512 q_513 q_2 q_514 ⟨rfl, by decide +kernel, by decide +kernel, by decide +kernel⟩ ⟨Nat.le_of_ble_eq_true rfl, Nat.le_of_ble_eq_true rfl⟩ rfl (Nat.le_of_ble_eq_true rfl) dX5_isSame_447 ⟨(Nat.le_of_ble_eq_true rfl), (Nat.le_of_ble_eq_true rfl)⟩) rfl (Nat.le_of_ble_eq_true rfl) (Nat.le_of_ble_eq_true rfl) ?_
            refine z_aload_n (k := 1) (pc := 450) C dX5_isSame_450 rfl ?_
            refine z_iload_n (k := 4) (pc := 451) C dX5_isSame_451 rfl ?_
            refine z_iload (k := 0) (pc := 452) C dX5_isSame_452 rfl ?_
            obtain ⟨r84, g84, hM⟩ := Option.bind_eq_some_iff.mp hM
            refine z_goN (kc := 28) (ks := 713) ([.int r84, .int r83]) (z_callV (pc := 454) (As := [.int x3_25, .int ((x3_25 + r79) - (x3_25 + r79) / r81 * r81)]) (rest := [.int r83]) (n := 2) (ci := 6) C (c_X5_shared l hl G lo t0 h_69 r15.2.2 a0 x3_25 ((x3_25 + r79) - (x3_25 + r79) / r81 * r81) r84 g84) g73 rfl q_544 q_545 q_546 q_71 q_547 ⟨rfl, by decide +kernel, by decide +kernel, by decide +kernel⟩ ⟨Nat.le_of_ble_eq_true rfl, Nat.le_of_ble_eq_true rfl⟩ rfl (Nat.le_of_ble_eq_true rfl) dX5_isSame_454 ⟨(Nat.le_of_ble_eq_true rfl), (Nat.le_of_ble_eq_true rfl)⟩) rfl (Nat.le_of_ble_eq_true rfl) (Nat.le_of_ble_eq_true rfl) ?_
            refine z_icmp_eq (pc := 457) (tgt := 462) C dX5_isSame_457 (by decide) hM (fun hc85 hM => ?_) (fun hc85 hM => ?_)
            · refine z_iinc (k := 4) (v := (x3_25 + (1 : Int32))) (lv' := [(3, .int (x3_25 + (1 : Int32))), (4, .int ((x3_25 + r79) - (x3_25 + r79) / r81 * r81)), (0, .ref a0), (1, .ref a1), (2, .ref nx)]) (pc := 462) C dX5_isSame_462 rfl (by first | rfl | decide) (by decide) rfl ?_
              refine z_goto (pc := 465) (tgt := 332) C dX5_isSame_465 (by decide) ?_
              exact z_sub [2, 3, 4, 0] rfl (irec25 (x3_25 + (1 : Int32)) h_69 hM)
            · cases hM
          · cases hM
        · cases hM
      · refine z_aload_n (k := 1) (pc := 366) C dX5_isSame_366 rfl ?_
        refine z_iload_n (k := 3) (pc := 367) C dX5_isSame_367 rfl ?_
        refine z_iload (k := 4) (pc := 368) C dX5_isSame_368 rfl ?_
        obtain ⟨_, g88, hM⟩ := Option.bind_eq_some_iff.mp hM
        obtain ⟨r89, g89, hM⟩ := z_tn_c hM
        refine z_goN (kc := 28) (ks := 713) ([.int r89]) (z_callV (pc := 370) (As := [.int x3_25, .int x4_70]) (rest := []) (n := 2) (ci := 5) C (c_X4_about l hl G lo t0 h_69 r15.2.2 a1 x3_25 x4_70 (.inr r89) g89) g88 rfl q_538 q_456 q_457 q_2 q_458 ⟨rfl, by decide +kernel, by decide +kernel, by decide +kernel⟩ ⟨Nat.le_of_ble_eq_true rfl, Nat.le_of_ble_eq_true rfl⟩ rfl (Nat.le_of_ble_eq_true rfl) dX5_isSame_370 ⟨(Nat.le_of_ble_eq_true rfl), (Nat.le_of_ble_eq_true rfl)⟩) rfl (Nat.le_of_ble_eq_true rfl) (Nat.le_of_ble_eq_true rfl) ?_
        refine z_aload_n (k := 0) (pc := 373) C dX5_isSame_373 rfl ?_
        obtain ⟨r90, g90, hM⟩ := Option.bind_eq_some_iff.mp hM
        refine z_getR (pc := 374) (k := 0) C g90 rfl inlX5 (by decide) q_76 (fun _ h9 => h9) dX5_isSame_374 ?_
        refine z_iload_n (k := 3) (pc := 377) C dX5_isSame_377 rfl ?_
        obtain ⟨r91, g91, hM⟩ := Option.bind_eq_some_iff.mp hM
        refine z_aaldD (pc := 378) C g91 dX5_isSame_378 ?_
        refine z_iload (k := 4) (pc := 379) C dX5_isSame_379 rfl ?_
        obtain ⟨r92, g92, hM⟩ := Option.bind_eq_some_iff.mp hM
        refine z_iald (pc := 381) C g92 dX5_isSame_381 ?_
        refine z_icmp_eq (pc := 382) (tgt := 387) C dX5_isSame_382 (by decide) hM (fun hc93 hM => ?_) (fun hc93 hM => ?_)
        · refine z_iinc (k := 4) (v := (x4_70 + (1 : Int32))) (lv' := [(4, .int (x4_70 + (1 : Int32))), (0, .ref a0), (1, .ref a1), (2, .ref nx), (3, .int x3_25)]) (pc := 387) C dX5_isSame_387 rfl (by first | rfl | decide) (by decide) rfl ?_
          refine z_goto (pc := 390) (tgt := 359) C dX5_isSame_390 (by decide) ?_
          exact z_sub [1, 2, 3, 4, 0] rfl (irec70 (x4_70 + (1 : Int32)) hM)
        · cases hM
  · refine z_iconst (v := (0 : Int32)) (pc := 85) C dX5_isSame_85 (by decide) ?_
    refine z_istore (lv' := [(4, .int (0 : Int32)), (0, .ref a0), (1, .ref a1), (2, .ref nx), (3, .int x3_24)]) (pc := 86) C dX5_isSame_86 (by decide) rfl ?_
    refine z_iconst (v := (0 : Int32)) (pc := 88) C dX5_isSame_88 (by decide) ?_
    refine z_istore (lv' := [(5, .int (0 : Int32)), (4, .int (0 : Int32)), (0, .ref a0), (1, .ref a1), (2, .ref nx), (3, .int x3_24)]) (pc := 89) C dX5_isSame_89 (by decide) rfl ?_
    refine z_iconst (v := (0 : Int32)) (pc := 91) C dX5_isSame_91 (by decide) ?_
    refine z_istore (lv' := [(6, .int (0 : Int32)), (5, .int (0 : Int32)), (4, .int (0 : Int32)), (0, .ref a0), (1, .ref a1), (2, .ref nx), (3, .int x3_24)]) (pc := 92) C dX5_isSame_92 (by decide) rfl ?_
    refine z_iconst (v := (0 : Int32)) (pc := 94) C dX5_isSame_94 (by decide) ?_
    refine z_istore (lv' := [(7, .int (0 : Int32)), (6, .int (0 : Int32)), (5, .int (0 : Int32)), (4, .int (0 : Int32)), (0, .ref a0), (1, .ref a1), (2, .ref nx), (3, .int x3_24)]) (pc := 95) C dX5_isSame_95 (by decide) rfl ?_
    refine z_iconst (v := (0 : Int32)) (pc := 97) C dX5_isSame_97 (by decide) ?_
    refine z_istore (lv' := [(8, .int (0 : Int32)), (7, .int (0 : Int32)), (6, .int (0 : Int32)), (5, .int (0 : Int32)), (4, .int (0 : Int32)), (0, .ref a0), (1, .ref a1), (2, .ref nx), (3, .int x3_24)]) (pc := 98) C dX5_isSame_98 (by decide) rfl ?_
    refine z_iconst (v := (0 : Int32)) (pc := 100) C dX5_isSame_100 (by decide) ?_
    refine z_istore (lv' := [(9, .int (0 : Int32)), (8, .int (0 : Int32)), (7, .int (0 : Int32)), (6, .int (0 : Int32)), (5, .int (0 : Int32)), (4, .int (0 : Int32)), (0, .ref a0), (1, .ref a1), (2, .ref nx), (3, .int x3_24)]) (pc := 101) C dX5_isSame_101 (by decide) rfl ?_
    refine z_sub [6, 7, 8, 9, 5, 4, 3, 2, 1, 0] rfl (zl7 (fun (x4_96 : Int32) (x5_96 : Int32) (x6_96 : Int32) (x7_96 : Int32) (x8_96 : Int32) (x9_96 : Int32) (h_96 : zH) => [(0, .ref a0), (1, .ref a1), (2, .ref nx), (3, .int x3_24), (4, .int x4_96), (5, .int x5_96), (6, .int x6_96), (7, .int x7_96), (8, .int x8_96), (9, .int x9_96)]) (fun (x4_96 : Int32) (x5_96 : Int32) (x6_96 : Int32) (x7_96 : Int32) (x8_96 : Int32) (x9_96 : Int32) (h_96 : zH) => h_96) (fun (x4_96 : Int32) (x5_96 : Int32) (x6_96 : Int32) (x7_96 : Int32) (x8_96 : Int32) (x9_96 : Int32) (h_96 : zH) => r15.2.2) hM (fun rec96 irec96 x4_96 x5_96 x6_96 x7_96 x8_96 x9_96 h_96 hM => ?_))
    refine z_iload (k := 9) (pc := 103) C dX5_isSame_103 rfl ?_
    refine z_bipush (v := (24 : Int32)) (pc := 105) C dX5_isSame_105 (by decide) ?_
    refine z_icmp_ge (pc := 107) (tgt := 278) C dX5_isSame_107 (by decide) hM (fun hc135 hM => ?_) (fun hc135 hM => ?_)
    · refine z_aload_n (k := 1) (pc := 278) C dX5_isSame_278 rfl ?_
      refine z_iload_n (k := 3) (pc := 279) C dX5_isSame_279 rfl ?_
      refine z_iconst (v := (0 : Int32)) (pc := 280) C dX5_isSame_280 (by decide) ?_
      obtain ⟨_, g97, hM⟩ := Option.bind_eq_some_iff.mp hM
      obtain ⟨r98, g98, hM⟩ := z_tn_c hM
      refine z_goN (kc := 28) (ks := 713) ([.int r98]) (z_callV (pc := 281) (As := [.int x3_24, .int (0 : Int32)]) (rest := []) (n := 2) (ci := 5) C (c_X4_cord l hl G lo t0 h_96 r15.2.2 a1 x3_24 (0 : Int32) (.inr r98) g98) g97 rfl q_537 q_483 q_484 q_2 q_485 ⟨rfl, by decide +kernel, by decide +kernel, by decide +kernel⟩ ⟨Nat.le_of_ble_eq_true rfl, Nat.le_of_ble_eq_true rfl⟩ rfl (Nat.le_of_ble_eq_true rfl) dX5_isSame_281 ⟨(Nat.le_of_ble_eq_true rfl), (Nat.le_of_ble_eq_true rfl)⟩) rfl (Nat.le_of_ble_eq_true rfl) (Nat.le_of_ble_eq_true rfl) ?_
      refine z_iload (k := 4) (pc := 284) C dX5_isSame_284 rfl ?_
      refine z_icmp_ne (pc := 286) (tgt := 322) C dX5_isSame_286 (by decide) hM (fun hc105 hM => ?_) (fun hc105 hM => ?_)
      · refine z_aload_n (k := 1) (pc := 289) C dX5_isSame_289 rfl ?_
        refine z_iload_n (k := 3) (pc := 290) C dX5_isSame_290 rfl ?_
        refine z_iconst (v := (1 : Int32)) (pc := 291) C dX5_isSame_291 (by decide) ?_
        obtain ⟨r99, g99, hM⟩ := z_tn_c hM
        refine z_goN (kc := 28) (ks := 713) ([.int r99]) (z_callV (pc := 292) (As := [.int x3_24, .int (1 : Int32)]) (rest := []) (n := 2) (ci := 5) C (c_X4_cord l hl G lo t0 h_96 r15.2.2 a1 x3_24 (1 : Int32) (.inr r99) g99) g97 rfl q_537 q_483 q_484 q_2 q_485 ⟨rfl, by decide +kernel, by decide +kernel, by decide +kernel⟩ ⟨Nat.le_of_ble_eq_true rfl, Nat.le_of_ble_eq_true rfl⟩ rfl (Nat.le_of_ble_eq_true rfl) dX5_isSame_292 ⟨(Nat.le_of_ble_eq_true rfl), (Nat.le_of_ble_eq_true rfl)⟩) rfl (Nat.le_of_ble_eq_true rfl) (Nat.le_of_ble_eq_true rfl) ?_
        refine z_iload (k := 5) (pc := 295) C dX5_isSame_295 rfl ?_
        refine z_icmp_ne (pc := 297) (tgt := 322) C dX5_isSame_297 (by decide) hM (fun hc104 hM => ?_) (fun hc104 hM => ?_)
        · refine z_aload_n (k := 1) (pc := 300) C dX5_isSame_300 rfl ?_
          refine z_iload_n (k := 3) (pc := 301) C dX5_isSame_301 rfl ?_
          refine z_iconst (v := (2 : Int32)) (pc := 302) C dX5_isSame_302 (by decide) ?_
          obtain ⟨r100, g100, hM⟩ := z_tn_c hM
          refine z_goN (kc := 28) (ks := 713) ([.int r100]) (z_callV (pc := 303) (As := [.int x3_24, .int (2 : Int32)]) (rest := []) (n := 2) (ci := 5) C (c_X4_cord l hl G lo t0 h_96 r15.2.2 a1 x3_24 (2 : Int32) (.inr r100) g100) g97 rfl q_537 q_483 q_484 q_2 q_485 ⟨rfl, by decide +kernel, by decide +kernel, by decide +kernel⟩ ⟨Nat.le_of_ble_eq_true rfl, Nat.le_of_ble_eq_true rfl⟩ rfl (Nat.le_of_ble_eq_true rfl) dX5_isSame_303 ⟨(Nat.le_of_ble_eq_true rfl), (Nat.le_of_ble_eq_true rfl)⟩) rfl (Nat.le_of_ble_eq_true rfl) (Nat.le_of_ble_eq_true rfl) ?_
          refine z_iload (k := 6) (pc := 306) C dX5_isSame_306 rfl ?_
          refine z_icmp_ne (pc := 308) (tgt := 322) C dX5_isSame_308 (by decide) hM (fun hc103 hM => ?_) (fun hc103 hM => ?_)
          · refine z_aload_n (k := 1) (pc := 311) C dX5_isSame_311 rfl ?_
            refine z_iload_n (k := 3) (pc := 312) C dX5_isSame_312 rfl ?_
            refine z_iconst (v := (3 : Int32)) (pc := 313) C dX5_isSame_313 (by decide) ?_
            obtain ⟨r101, g101, hM⟩ := z_tn_c hM
            refine z_goN (kc := 28) (ks := 713) ([.int r101]) (z_callV (pc := 314) (As := [.int x3_24, .int (3 : Int32)]) (rest := []) (n := 2) (ci := 5) C (c_X4_cord l hl G lo t0 h_96 r15.2.2 a1 x3_24 (3 : Int32) (.inr r101) g101) g97 rfl q_537 q_483 q_484 q_2 q_485 ⟨rfl, by decide +kernel, by decide +kernel, by decide +kernel⟩ ⟨Nat.le_of_ble_eq_true rfl, Nat.le_of_ble_eq_true rfl⟩ rfl (Nat.le_of_ble_eq_true rfl) dX5_isSame_314 ⟨(Nat.le_of_ble_eq_true rfl), (Nat.le_of_ble_eq_true rfl)⟩) rfl (Nat.le_of_ble_eq_true rfl) (Nat.le_of_ble_eq_true rfl) ?_
            refine z_iload (k := 8) (pc := 317) C dX5_isSame_317 rfl ?_
            refine z_icmp_eq (pc := 319) (tgt := 324) C dX5_isSame_319 (by decide) hM (fun hc102 hM => ?_) (fun hc102 hM => ?_)
            · refine z_iinc (k := 3) (v := (x3_24 + (1 : Int32))) (lv' := [(3, .int (x3_24 + (1 : Int32))), (0, .ref a0), (1, .ref a1), (2, .ref nx), (4, .int x4_96), (5, .int x5_96), (6, .int x6_96), (7, .int x7_96), (8, .int x8_96), (9, .int x9_96)]) (pc := 324) C dX5_isSame_324 rfl (by first | rfl | decide) (by decide) rfl ?_
              refine z_goto (pc := 327) (tgt := 79) C dX5_isSame_327 (by decide) ?_
              exact z_sub [1, 2, 3, 0] rfl (irec24 (x3_24 + (1 : Int32)) h_96 hM)
            · cases hM
          · cases hM
        · cases hM
      · cases hM
    · refine z_aload_n (k := 0) (pc := 110) C dX5_isSame_110 rfl ?_
      refine z_iload_n (k := 3) (pc := 111) C dX5_isSame_111 rfl ?_
      refine z_iload (k := 9) (pc := 112) C dX5_isSame_112 rfl ?_
      obtain ⟨_, g106, hM⟩ := Option.bind_eq_some_iff.mp hM
      obtain ⟨r107, g107, hM⟩ := Option.bind_eq_some_iff.mp hM
      refine z_goN (kc := 28) (ks := 713) ([.int r107]) (z_callV (pc := 114) (As := [.int x3_24, .int x9_96]) (rest := []) (n := 2) (ci := 6) C (c_X5_lying l hl G lo t0 h_96 r15.2.2 a0 x3_24 x9_96 r107 g107) g106 rfl q_260 q_261 q_262 q_71 q_263 ⟨rfl, by decide +kernel, by decide +kernel, by decide +kernel⟩ ⟨Nat.le_of_ble_eq_true rfl, Nat.le_of_ble_eq_true rfl⟩ rfl (Nat.le_of_ble_eq_true rfl) dX5_isSame_114 ⟨(Nat.le_of_ble_eq_true rfl), (Nat.le_of_ble_eq_true rfl)⟩) rfl (Nat.le_of_ble_eq_true rfl) (Nat.le_of_ble_eq_true rfl) ?_
      refine z_istore (lv' := [(10, .int r107), (0, .ref a0), (1, .ref a1), (2, .ref nx), (3, .int x3_24), (4, .int x4_96), (5, .int x5_96), (6, .int x6_96), (7, .int x7_96), (8, .int x8_96), (9, .int x9_96)]) (pc := 117) C dX5_isSame_117 (by decide) rfl ?_
      refine z_aload_n (k := 3) (pc := 119) C dX5_isSame_119 rfl ?_
      refine z_bipush (v := (6 : Int32)) (pc := 120) C dX5_isSame_120 (by decide) ?_
      refine z_dup2 (pc := 122) C dX5_isSame_122 rfl rfl ?_
      obtain ⟨r108, g108, hM⟩ := Option.bind_eq_some_iff.mp hM
      refine z_iald (pc := 123) C g108 dX5_isSame_123 ?_
      refine z_iload (k := 0) (pc := 124) C dX5_isSame_124 rfl ?_
      refine z_iconst (v := (1 : Int32)) (pc := 126) C dX5_isSame_126 (by decide) ?_
      refine zj4 28 713 135 (fun (b0_109 : Nat) (s1_109 : Int32) (s2_109 : Int32) (s3_109 : Int32) => [(0, .ref a0), (1, .ref a1), (2, .ref nx), (3, .int x3_24), (4, .int x4_96), (5, .int x5_96), (6, .int x6_96), (7, .int x7_96), (8, .int x8_96), (9, .int x9_96), (10, .int r107)]) (fun (b0_109 : Nat) (s1_109 : Int32) (s2_109 : Int32) (s3_109 : Int32) => [.int s3_109, .int s2_109, .int s1_109, .ref b0_109]) (fun (b0_109 : Nat) (s1_109 : Int32) (s2_109 : Int32) (s3_109 : Int32) => h_96) (fun (b0_109 : Nat) (s1_109 : Int32) (s2_109 : Int32) (s3_109 : Int32) => r15.2.2) hM (fun b0_109 s1_109 s2_109 s3_109 hM => ?_) (fun J109 iJ109 hM => ?_)
      · refine z_iadd (pc := 135) C dX5_isSame_135 ?_
        obtain ⟨h_110, g110, hM⟩ := Option.bind_eq_some_iff.mp hM
        refine z_iast (pc := 136) C g110 dX5_isSame_136 ?_
        refine z_aload_n (k := 2) (pc := 137) C dX5_isSame_137 rfl ?_
        refine z_bipush (v := (8 : Int32)) (pc := 138) C dX5_isSame_138 (by decide) ?_
        refine z_dup2 (pc := 140) C dX5_isSame_140 rfl rfl ?_
        obtain ⟨r111, g111, hM⟩ := Option.bind_eq_some_iff.mp hM
        refine z_iald (pc := 141) C g111 dX5_isSame_141 ?_
        refine z_aload_n (k := 0) (pc := 142) C dX5_isSame_142 rfl ?_
        obtain ⟨r112, g112, hM⟩ := Option.bind_eq_some_iff.mp hM
        refine z_getR (pc := 143) (k := 2) C g112 rfl inlX5 (by decide) q_79 (fun _ h9 => h9) dX5_isSame_143 ?_
        refine z_iload_n (k := 3) (pc := 146) C dX5_isSame_146 rfl ?_
        obtain ⟨r113, g113, hM⟩ := Option.bind_eq_some_iff.mp hM
        refine z_aaldD (pc := 147) C g113 dX5_isSame_147 ?_
        refine z_iload (k := 9) (pc := 148) C dX5_isSame_148 rfl ?_
        obtain ⟨r114, g114, hM⟩ := Option.bind_eq_some_iff.mp hM
        refine z_iald (pc := 150) C g114 dX5_isSame_150 ?_
        refine z_iadd (pc := 151) C dX5_isSame_151 ?_
        obtain ⟨h_115, g115, hM⟩ := Option.bind_eq_some_iff.mp hM
        refine z_iast (pc := 152) C g115 dX5_isSame_152 ?_
        refine z_aload_n (k := 1) (pc := 153) C dX5_isSame_153 rfl ?_
        refine z_iload_n (k := 3) (pc := 154) C dX5_isSame_154 rfl ?_
        refine z_iload (k := 9) (pc := 155) C dX5_isSame_155 rfl ?_
        refine z_iconst (v := (0 : Int32)) (pc := 157) C dX5_isSame_157 (by decide) ?_
        obtain ⟨_, g116, hM⟩ := Option.bind_eq_some_iff.mp hM
        obtain ⟨r117, g117, hM⟩ := z_tn_c hM
        refine z_goN (kc := 28) (ks := 713) ([.int r117]) (z_callV (pc := 158) (As := [.int x3_24, .int x9_96, .int (0 : Int32)]) (rest := []) (n := 3) (ci := 5) C (c_X4_cell l hl G lo t0 h_115 r15.2.2 a1 x3_24 x9_96 (0 : Int32) (.inr r117) g117) g116 rfl q_536 q_504 q_505 q_2 q_506 ⟨rfl, by decide +kernel, by decide +kernel, by decide +kernel⟩ ⟨Nat.le_of_ble_eq_true rfl, Nat.le_of_ble_eq_true rfl⟩ rfl (Nat.le_of_ble_eq_true rfl) dX5_isSame_158 ⟨(Nat.le_of_ble_eq_true rfl), (Nat.le_of_ble_eq_true rfl)⟩) rfl (Nat.le_of_ble_eq_true rfl) (Nat.le_of_ble_eq_true rfl) ?_
        refine z_iload (k := 10) (pc := 161) C dX5_isSame_161 rfl ?_
        refine z_icmp_ne (pc := 163) (tgt := 206) C dX5_isSame_163 (by decide) hM (fun hc133 hM => ?_) (fun hc133 hM => ?_)
        · refine z_aload_n (k := 1) (pc := 166) C dX5_isSame_166 rfl ?_
          refine z_iload_n (k := 3) (pc := 167) C dX5_isSame_167 rfl ?_
          refine z_iload (k := 9) (pc := 168) C dX5_isSame_168 rfl ?_
          refine z_iconst (v := (1 : Int32)) (pc := 170) C dX5_isSame_170 (by decide) ?_
          obtain ⟨r118, g118, hM⟩ := z_tn_c hM
          refine z_goN (kc := 28) (ks := 713) ([.int r118]) (z_callV (pc := 171) (As := [.int x3_24, .int x9_96, .int (1 : Int32)]) (rest := []) (n := 3) (ci := 5) C (c_X4_cell l hl G lo t0 h_115 r15.2.2 a1 x3_24 x9_96 (1 : Int32) (.inr r118) g118) g116 rfl q_536 q_504 q_505 q_2 q_506 ⟨rfl, by decide +kernel, by decide +kernel, by decide +kernel⟩ ⟨Nat.le_of_ble_eq_true rfl, Nat.le_of_ble_eq_true rfl⟩ rfl (Nat.le_of_ble_eq_true rfl) dX5_isSame_171 ⟨(Nat.le_of_ble_eq_true rfl), (Nat.le_of_ble_eq_true rfl)⟩) rfl (Nat.le_of_ble_eq_true rfl) (Nat.le_of_ble_eq_true rfl) ?_
          refine z_aload_n (k := 0) (pc := 174) C dX5_isSame_174 rfl ?_
          refine z_iload_n (k := 3) (pc := 175) C dX5_isSame_175 rfl ?_
          refine z_iload (k := 9) (pc := 176) C dX5_isSame_176 rfl ?_
          refine z_bipush (v := (10 : Int32)) (pc := 178) C dX5_isSame_178 (by decide) ?_
          obtain ⟨_, g119, hM⟩ := Option.bind_eq_some_iff.mp hM
          obtain ⟨r120, g120, hM⟩ := Option.bind_eq_some_iff.mp hM
          refine z_goN (kc := 28) (ks := 713) ([.int r120, .int r118]) (z_callV (pc := 180) (As := [.int x3_24, .int x9_96, .int (10 : Int32)]) (rest := [.int r118]) (n := 3) (ci := 6) C (c_X5_highest l hl G lo t0 h_115 r15.2.2 a0 x3_24 x9_96 (10 : Int32) r120 g120) g119 rfl q_399 q_400 q_401 q_71 q_402 ⟨rfl, by decide +kernel, by decide +kernel, by decide +kernel⟩ ⟨Nat.le_of_ble_eq_true rfl, Nat.le_of_ble_eq_true rfl⟩ rfl (Nat.le_of_ble_eq_true rfl) dX5_isSame_180 ⟨(Nat.le_of_ble_eq_true rfl), (Nat.le_of_ble_eq_true rfl)⟩) rfl (Nat.le_of_ble_eq_true rfl) (Nat.le_of_ble_eq_true rfl) ?_
          refine z_icmp_ne (pc := 183) (tgt := 206) C dX5_isSame_183 (by decide) hM (fun hc132 hM => ?_) (fun hc132 hM => ?_)
          · refine z_aload_n (k := 1) (pc := 186) C dX5_isSame_186 rfl ?_
            refine z_iload_n (k := 3) (pc := 187) C dX5_isSame_187 rfl ?_
            refine z_iload (k := 9) (pc := 188) C dX5_isSame_188 rfl ?_
            refine z_iconst (v := (2 : Int32)) (pc := 190) C dX5_isSame_190 (by decide) ?_
            obtain ⟨r121, g121, hM⟩ := z_tn_c hM
            refine z_goN (kc := 28) (ks := 713) ([.int r121]) (z_callV (pc := 191) (As := [.int x3_24, .int x9_96, .int (2 : Int32)]) (rest := []) (n := 3) (ci := 5) C (c_X4_cell l hl G lo t0 h_115 r15.2.2 a1 x3_24 x9_96 (2 : Int32) (.inr r121) g121) g116 rfl q_536 q_504 q_505 q_2 q_506 ⟨rfl, by decide +kernel, by decide +kernel, by decide +kernel⟩ ⟨Nat.le_of_ble_eq_true rfl, Nat.le_of_ble_eq_true rfl⟩ rfl (Nat.le_of_ble_eq_true rfl) dX5_isSame_191 ⟨(Nat.le_of_ble_eq_true rfl), (Nat.le_of_ble_eq_true rfl)⟩) rfl (Nat.le_of_ble_eq_true rfl) (Nat.le_of_ble_eq_true rfl) ?_
            refine z_aload_n (k := 0) (pc := 194) C dX5_isSame_194 rfl ?_
            obtain ⟨r122, g122, hM⟩ := Option.bind_eq_some_iff.mp hM
            refine z_getR (pc := 195) (k := 2) C g122 rfl inlX5 (by decide) q_79 (fun _ h9 => h9) dX5_isSame_195 ?_
            refine z_iload_n (k := 3) (pc := 198) C dX5_isSame_198 rfl ?_
            obtain ⟨r123, g123, hM⟩ := Option.bind_eq_some_iff.mp hM
            refine z_aaldD (pc := 199) C g123 dX5_isSame_199 ?_
            refine z_iload (k := 9) (pc := 200) C dX5_isSame_200 rfl ?_
            obtain ⟨r124, g124, hM⟩ := Option.bind_eq_some_iff.mp hM
            refine z_iald (pc := 202) C g124 dX5_isSame_202 ?_
            refine z_icmp_eq (pc := 203) (tgt := 208) C dX5_isSame_203 (by decide) hM (fun hc131 hM => ?_) (fun hc131 hM => ?_)
            · refine z_iload (k := 10) (pc := 208) C dX5_isSame_208 rfl ?_
              refine zj1 28 713 221 (fun (s0_125 : Int32) => [(0, .ref a0), (1, .ref a1), (2, .ref nx), (3, .int x3_24), (4, .int x4_96), (5, .int x5_96), (6, .int x6_96), (8, .int x8_96), (9, .int x9_96), (10, .int r107)]) (fun (s0_125 : Int32) => [.int s0_125]) (fun (s0_125 : Int32) => h_115) (fun (s0_125 : Int32) => r15.2.2) hM (fun s0_125 hM => ?_) (fun J125 iJ125 hM => ?_)
              · refine z_istore (lv' := [(7, .int s0_125), (0, .ref a0), (1, .ref a1), (2, .ref nx), (3, .int x3_24), (4, .int x4_96), (5, .int x5_96), (6, .int x6_96), (8, .int x8_96), (9, .int x9_96), (10, .int r107)]) (pc := 221) C dX5_isSame_221 (by decide) rfl ?_
                refine z_iload (k := 5) (pc := 223) C dX5_isSame_223 rfl ?_
                refine z_iload (k := 10) (pc := 225) C dX5_isSame_225 rfl ?_
                refine zj2 28 713 235 (fun (s0_126 : Int32) (s1_126 : Int32) => [(0, .ref a0), (1, .ref a1), (2, .ref nx), (3, .int x3_24), (5, .int x5_96), (6, .int x6_96), (7, .int s0_125), (8, .int x8_96), (9, .int x9_96), (10, .int r107)]) (fun (s0_126 : Int32) (s1_126 : Int32) => [.int s1_126, .int s0_126]) (fun (s0_126 : Int32) (s1_126 : Int32) => h_115) (fun (s0_126 : Int32) (s1_126 : Int32) => r15.2.2) hM (fun s0_126 s1_126 hM => ?_) (fun J126 iJ126 hM => ?_)
                · refine z_iadd (pc := 235) C dX5_isSame_235 ?_
                  refine z_istore (lv' := [(4, .int (s0_126 + s1_126)), (0, .ref a0), (1, .ref a1), (2, .ref nx), (3, .int x3_24), (5, .int x5_96), (6, .int x6_96), (7, .int s0_125), (8, .int x8_96), (9, .int x9_96), (10, .int r107)]) (pc := 236) C dX5_isSame_236 (by decide) rfl ?_
                  refine z_iload (k := 5) (pc := 238) C dX5_isSame_238 rfl ?_
                  refine z_iload (k := 7) (pc := 240) C dX5_isSame_240 rfl ?_
                  refine z_iconst (v := (1 : Int32)) (pc := 242) C dX5_isSame_242 (by decide) ?_
                  refine zj2 28 713 251 (fun (s0_127 : Int32) (s1_127 : Int32) => [(0, .ref a0), (1, .ref a1), (2, .ref nx), (3, .int x3_24), (4, .int (s0_126 + s1_126)), (6, .int x6_96), (7, .int s0_125), (8, .int x8_96), (9, .int x9_96), (10, .int r107)]) (fun (s0_127 : Int32) (s1_127 : Int32) => [.int s1_127, .int s0_127]) (fun (s0_127 : Int32) (s1_127 : Int32) => h_115) (fun (s0_127 : Int32) (s1_127 : Int32) => r15.2.2) hM (fun s0_127 s1_127 hM => ?_) (fun J127 iJ127 hM => ?_)
                  · refine z_iadd (pc := 251) C dX5_isSame_251 ?_
                    refine z_istore (lv' := [(5, .int (s0_127 + s1_127)), (0, .ref a0), (1, .ref a1), (2, .ref nx), (3, .int x3_24), (4, .int (s0_126 + s1_126)), (6, .int x6_96), (7, .int s0_125), (8, .int x8_96), (9, .int x9_96), (10, .int r107)]) (pc := 252) C dX5_isSame_252 (by decide) rfl ?_
                    refine z_iload (k := 6) (pc := 254) C dX5_isSame_254 rfl ?_
                    refine z_iload (k := 7) (pc := 256) C dX5_isSame_256 rfl ?_
                    refine z_max (pc := 258) C q_526 q_4 q_5 q_6 (Nat.le_of_ble_eq_true rfl) (Nat.le_of_ble_eq_true rfl) (Nat.le_of_ble_eq_true rfl) (Nat.le_of_ble_eq_true rfl) dX5_isSame_258 ?_
                    refine z_istore (lv' := [(6, .int (if x6_96 < s0_125 then s0_125 else x6_96)), (5, .int (s0_127 + s1_127)), (0, .ref a0), (1, .ref a1), (2, .ref nx), (3, .int x3_24), (4, .int (s0_126 + s1_126)), (7, .int s0_125), (8, .int x8_96), (9, .int x9_96), (10, .int r107)]) (pc := 261) C dX5_isSame_261 (by decide) rfl ?_
                    refine z_iload (k := 8) (pc := 263) C dX5_isSame_263 rfl ?_
                    refine z_iload (k := 10) (pc := 265) C dX5_isSame_265 rfl ?_
                    refine z_max (pc := 267) C q_526 q_4 q_5 q_6 (Nat.le_of_ble_eq_true rfl) (Nat.le_of_ble_eq_true rfl) (Nat.le_of_ble_eq_true rfl) (Nat.le_of_ble_eq_true rfl) dX5_isSame_267 ?_
                    refine z_istore (lv' := [(8, .int (if x8_96 < r107 then r107 else x8_96)), (6, .int (if x6_96 < s0_125 then s0_125 else x6_96)), (5, .int (s0_127 + s1_127)), (0, .ref a0), (1, .ref a1), (2, .ref nx), (3, .int x3_24), (4, .int (s0_126 + s1_126)), (7, .int s0_125), (9, .int x9_96), (10, .int r107)]) (pc := 270) C dX5_isSame_270 (by decide) rfl ?_
                    refine z_iinc (k := 9) (v := (x9_96 + (1 : Int32))) (lv' := [(9, .int (x9_96 + (1 : Int32))), (8, .int (if x8_96 < r107 then r107 else x8_96)), (6, .int (if x6_96 < s0_125 then s0_125 else x6_96)), (5, .int (s0_127 + s1_127)), (0, .ref a0), (1, .ref a1), (2, .ref nx), (3, .int x3_24), (4, .int (s0_126 + s1_126)), (7, .int s0_125), (10, .int r107)]) (pc := 272) C dX5_isSame_272 rfl (by first | rfl | decide) (by decide) rfl ?_
                    refine z_goto (pc := 275) (tgt := 103) C dX5_isSame_275 (by decide) ?_
                    exact z_sub [4, 5, 6, 7, 8, 3, 2, 9, 1, 0] rfl (irec96 (s0_126 + s1_126) (s0_127 + s1_127) (if x6_96 < s0_125 then s0_125 else x6_96) s0_125 (if x8_96 < r107 then r107 else x8_96) (x9_96 + (1 : Int32)) h_115 hM)
                  refine z_icmp_ne (pc := 243) (tgt := 250) C dX5_isSame_243 (by decide) hM (fun hc128 hM => ?_) (fun hc128 hM => ?_)
                  · refine z_iconst (v := (1 : Int32)) (pc := 246) C dX5_isSame_246 (by decide) ?_
                    refine z_goto (pc := 247) (tgt := 251) C dX5_isSame_247 (by decide) ?_
                    exact z_sub [1, 2, 3, 4, 0, 6, 7, 8, 9, 10] rfl (iJ127 x5_96 (1 : Int32) hM)
                  · refine z_iconst (v := (0 : Int32)) (pc := 250) C dX5_isSame_250 (by decide) ?_
                    exact z_sub [1, 2, 3, 4, 0, 6, 7, 8, 9, 10] rfl (iJ127 x5_96 (0 : Int32) hM)
                refine z_if_le (pc := 227) (tgt := 234) C dX5_isSame_227 (by decide) hM (fun hc129 hM => ?_) (fun hc129 hM => ?_)
                · refine z_iconst (v := (0 : Int32)) (pc := 234) C dX5_isSame_234 (by decide) ?_
                  exact z_sub [1, 2, 3, 4, 6, 7, 0, 8, 9, 10] rfl (iJ126 x4_96 (0 : Int32) hM)
                · refine z_iconst (v := (1 : Int32)) (pc := 230) C dX5_isSame_230 (by decide) ?_
                  refine z_goto (pc := 231) (tgt := 235) C dX5_isSame_231 (by decide) ?_
                  exact z_sub [1, 2, 3, 4, 6, 7, 0, 8, 9, 10] rfl (iJ126 x4_96 (1 : Int32) hM)
              refine z_if_le (pc := 210) (tgt := 220) C dX5_isSame_210 (by decide) hM (fun hc130 hM => ?_) (fun hc130 hM => ?_)
              · refine z_iconst (v := (0 : Int32)) (pc := 220) C dX5_isSame_220 (by decide) ?_
                exact z_sub [0, 1, 2, 3, 4, 5, 6, 8, 9, 10] rfl (iJ125 (0 : Int32) hM)
              · refine z_iload (k := 7) (pc := 213) C dX5_isSame_213 rfl ?_
                refine z_iconst (v := (1 : Int32)) (pc := 215) C dX5_isSame_215 (by decide) ?_
                refine z_iadd (pc := 216) C dX5_isSame_216 ?_
                refine z_goto (pc := 217) (tgt := 221) C dX5_isSame_217 (by decide) ?_
                exact z_sub [0, 1, 2, 3, 4, 5, 6, 8, 9, 10] rfl (iJ125 (x7_96 + (1 : Int32)) hM)
            · cases hM
          · cases hM
        · cases hM
      refine z_icmp_le (pc := 127) (tgt := 134) C dX5_isSame_127 (by decide) hM (fun hc134 hM => ?_) (fun hc134 hM => ?_)
      · refine z_iconst (v := (0 : Int32)) (pc := 134) C dX5_isSame_134 (by decide) ?_
        exact z_sub [1, 2, 3, 4, 5, 6, 7, 8, 9, 10, 0] rfl (iJ109 nx (6 : Int32) r108 (0 : Int32) hM)
      · refine z_iconst (v := (1 : Int32)) (pc := 130) C dX5_isSame_130 (by decide) ?_
        refine z_goto (pc := 131) (tgt := 135) C dX5_isSame_131 (by decide) ?_
        exact z_sub [1, 2, 3, 4, 5, 6, 7, 8, 9, 10, 0] rfl (iJ109 nx (6 : Int32) r108 (1 : Int32) hM)
