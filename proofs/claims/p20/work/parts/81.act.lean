/-! by program (wip/p20/seg.py): act, but the call that may throw -/
noncomputable def M_act  (T0 : zH → Nat → Nat → Nat → Int32 → Int32 → Int32 → Option (Int32 × zH × Nat)) (h : zH) (nx t0 : Nat) (a0 : Nat) (a1 : Nat) (x2 : Int32) : Option (Int32 × zH × Nat) := (z_gR h a1 6 0).bind fun r1 => (z_al h r1).bind fun r2 => jn1 (fun (s0_3 : Int32) => (M_L_below x2 (12 : Int32)).bind fun r4 => jn0 ((if r2 = (10 : Int32) then (some ((1 : Int32), h, nx)) else (M_L_below (x2 >>> ((2 : Int32) &&& 31)) (3 : Int32)).bind fun r6 => jn1 (fun (s0_7 : Int32) => (M_L_below (x2 >>> ((4 : Int32) &&& 31)) s0_7).bind fun r8 => (M_L_below (x2 >>> ((6 : Int32) &&& 31)) s0_7).bind fun r9 => (M_L_below (x2 >>> ((5 : Int32) &&& 31)) ((25 : Int32) - ((1 : Int32) + r8))).bind fun r10 => (z_sI (z_up h nx (zI 8 (fun _ => 0))) nx (0 : Int32) r10).bind fun h_11 => (M_L_below (x2 >>> ((7 : Int32) &&& 31)) ((25 : Int32) - ((1 : Int32) + r9))).bind fun r12 => (z_sI h_11 nx (1 : Int32) r12).bind fun h_13 => (z_sI h_13 nx (2 : Int32) ((1 : Int32) + r8)).bind fun h_14 => (z_sI h_14 nx (3 : Int32) ((1 : Int32) + r9)).bind fun h_15 => (M_L_below (x2 >>> ((3 : Int32) &&& 31)) (2 : Int32)).bind fun r16 => jn6 (fun (b0_17 : Nat) (b1_17 : Nat) (s2_17 : Int32) (s3_17 : Int32) (s4_17 : Int32) (s5_17 : Int32) => (M_L_below s4_17 s5_17).bind fun r18 => (z_sI h_15 b1_17 s2_17 (s3_17 + r18)).bind fun h_19 => (M_L_below (x2 >>> ((9 : Int32) &&& 31)) (4 : Int32)).bind fun r20 => (z_sI h_19 b0_17 (5 : Int32) r20).bind fun h_21 => (z_sI h_21 b0_17 (6 : Int32) (1 : Int32)).bind fun h_22 => (z_sI h_22 b0_17 (7 : Int32) (0 : Int32)).bind fun h_23 => (z_gR h_23 a1 6 0).bind fun r24 => (M_X5_with h_23 (nx + 1) r24 b0_17).bind fun r25 => (z_pV r25.2.1 a1 6 0 (.ref r25.1)).bind fun h_26 => (z_aI h_26 b0_17 (0 : Int32)).bind fun r27 => (z_aI h_26 b0_17 (1 : Int32)).bind fun r28 => (z_aI h_26 b0_17 (4 : Int32)).bind fun r29 => (z_aI h_26 b0_17 (5 : Int32)).bind fun r30 => (z_ck h_26 a0 5).bind fun _ => z_tn (M_X4_hang h_26 r25.2.2 t0 a0 r27 r28 ((1 : Int32) + r8) ((1 : Int32) + r9) r29 r30) fun r32 => (if r32.1 = r2 then (some ((1 : Int32), r32.2.1, r32.2.2)) else (some ((0 : Int32), r32.2.1, r32.2.2)))) fun J17 => (if r16 = 0 then (J17 nx nx (4 : Int32) (1 : Int32) (x2 >>> ((8 : Int32) &&& 31)) (9 : Int32)) else (J17 nx nx (4 : Int32) (1 : Int32) (x2 >>> ((8 : Int32) &&& 31)) (3 : Int32)))) fun J7 => (if r6 = 0 then (J7 (24 : Int32)) else (J7 (9 : Int32))))) fun J5 => jn0 ((if r2 = 0 then (some ((1 : Int32), h, nx)) else (z_gR h a1 6 0).bind fun r38 => (z_aD h r38 s0_3).bind fun r39 => (z_gR h a1 6 0).bind fun r40 => (z_aD h r40 s0_3).bind fun r41 => (z_aI h r41 (2 : Int32)).bind fun r42 => (M_L_below (x2 >>> ((5 : Int32) &&& 31)) ((25 : Int32) - r42)).bind fun r43 => (z_sI h r39 (0 : Int32) r43).bind fun h_44 => (z_gR h_44 a1 6 0).bind fun r45 => (z_aD h_44 r45 s0_3).bind fun r46 => (z_gR h_44 a1 6 0).bind fun r47 => (z_aD h_44 r47 s0_3).bind fun r48 => (z_aI h_44 r48 (3 : Int32)).bind fun r49 => (M_L_below (x2 >>> ((7 : Int32) &&& 31)) ((25 : Int32) - r49)).bind fun r50 => (z_sI h_44 r46 (1 : Int32) r50).bind fun h_51 => (z_gR h_51 a1 6 0).bind fun r52 => (z_aD h_51 r52 s0_3).bind fun r53 => (z_aI h_51 r53 (0 : Int32)).bind fun r54 => (z_gR h_51 a1 6 0).bind fun r55 => (z_aD h_51 r55 s0_3).bind fun r56 => (z_aI h_51 r56 (1 : Int32)).bind fun r57 => (z_ck h_51 a0 5).bind fun _ => z_tn (M_X4_move h_51 a0 s0_3 r54 r57) fun r59 => (z_ck r59.2 a1 6).bind fun _ => (M_X5_covered r59.2 a1).bind fun r61 => (if r59.1 = r61 then (some ((1 : Int32), r59.2, nx)) else (some ((0 : Int32), r59.2, nx))))) fun J37 => jn0 ((M_L_below (x2 >>> ((4 : Int32) &&& 31)) (24 : Int32)).bind fun r65 => (M_L_below (x2 >>> ((6 : Int32) &&& 31)) (24 : Int32)).bind fun r66 => (z_gR h a1 6 1).bind fun r67 => (z_al h r67).bind fun r68 => jn1 (fun (s0_69 : Int32) => (z_gR h a1 6 1).bind fun r70 => (z_al h r70).bind fun r71 => wl2 (fun rec72 (x7_72 : Int32) (x10_72 : Int32) => (if r71 ≤ x10_72 then jn2 (fun (h_73 : zH) (n_73 : Nat) => (T0 h_73 n_73 a0 a1 r65 r66 x7_72)) fun J73 => (if x7_72 = 0 then (J73 h nx) else (z_gR h a1 6 1).bind fun r74 => (z_sI (z_up h nx (zI 3 (fun _ => 0))) nx (0 : Int32) r65).bind fun h_75 => (z_sI h_75 nx (1 : Int32) r66).bind fun h_76 => (z_sI h_76 nx (2 : Int32) (0 : Int32)).bind fun h_77 => (M_X5_with h_77 (nx + 1) r74 nx).bind fun r78 => (z_pV r78.2.1 a1 6 1 (.ref r78.1)).bind fun h_79 => (J73 h_79 r78.2.2)) else (z_aD h r70 x10_72).bind fun r81 => (z_aI h r81 (0 : Int32)).bind fun r82 => jn2 (fun (s0_83 : Int32) (s1_83 : Int32) => (rec72 (s0_83 &&& s1_83) (x10_72 + (1 : Int32)))) fun J83 => jn1 (fun (s0_84 : Int32) => (J83 s0_84 (1 : Int32))) fun J84 => (if r82 = r65 then (z_aI h r81 (1 : Int32)).bind fun r85 => (if r85 = r66 then (J83 x7_72 (0 : Int32)) else (J84 x7_72)) else (J84 x7_72)))) 700 s0_69 (0 : Int32)) fun J69 => (if (8 : Int32) ≤ r68 then (J69 (0 : Int32)) else (J69 (1 : Int32)))) fun J64 => (if r4 = 0 then J5 else (if r4 = 1 then J5 else (if r4 = 2 then J5 else (if r4 = 3 then J5 else (if r4 = 4 then (if r2 = 0 then (some ((1 : Int32), h, nx)) else (z_gR h a1 6 0).bind fun r95 => (z_aD h r95 s0_3).bind fun r96 => (z_gR h a1 6 0).bind fun r97 => (z_aD h r97 s0_3).bind fun r98 => (z_aI h r98 (6 : Int32)).bind fun r99 => (z_sI h r96 (6 : Int32) ((1 : Int32) - r99)).bind fun h_100 => (z_ck h_100 a0 5).bind fun _ => z_tn (M_X4_roll h_100 a0 s0_3) fun r102 => (z_gR r102.2 a1 6 0).bind fun r103 => (z_aD r102.2 r103 s0_3).bind fun r104 => (z_aI r102.2 r104 (6 : Int32)).bind fun r105 => jn2 (fun (s0_106 : Int32) (s1_106 : Int32) => (if s0_106 = s1_106 then (some ((1 : Int32), r102.2, nx)) else (some ((0 : Int32), r102.2, nx)))) fun J106 => (if r105 = (1 : Int32) then (J106 r102.1 (1 : Int32)) else (J106 r102.1 (0 : Int32)))) else (if r4 = 5 then J37 else (if r4 = 6 then J37 else (if r4 = 7 then (if (3 : Int32) ≤ r2 then (z_gR h a1 6 0).bind fun r113 => (M_X5_without h nx r113 s0_3).bind fun r114 => (z_pV r114.2.1 a1 6 0 (.ref r114.1)).bind fun h_115 => (z_ck h_115 a0 5).bind fun _ => z_tn (M_X4_take h_115 a0 s0_3) fun r117 => (if r117.1 = (r2 - (1 : Int32)) then (some ((1 : Int32), r117.2, r114.2.2)) else (some ((0 : Int32), r117.2, r114.2.2))) else (some ((1 : Int32), h, nx))) else (if r4 = 8 then J64 else (if r4 = 9 then J64 else (M_L_below (x2 >>> ((4 : Int32) &&& 31)) (20 : Int32)).bind fun r122 => (z_ck h a0 5).bind fun _ => z_tn (M_X4_rain h a0 ((1 : Int32) + r122)) fun r124 => (z_ck r124.2 a1 6).bind fun _ => (M_X5_rain r124.2 nx a1 ((1 : Int32) + r122)).bind fun r126 => (if r124.1 = r126.1 then (some ((1 : Int32), r126.2.1, r126.2.2)) else (some ((0 : Int32), r126.2.1, r126.2.2)))))))))))))) fun J3 => (if r2 = 0 then (J3 (0 : Int32)) else (M_L_below (x2 >>> ((3 : Int32) &&& 31)) r2).bind fun r128 => (J3 r128))
set_option maxHeartbeats 8000000 in
set_option maxRecDepth 100000 in
theorem w_act {p : Program} {l : Launch} (hl : l.stackTraces = false) {e : Env} {s : State} {m : MethodId} {below : List Frame} {meth : Method} {c : Code} {G : zG} {lo t0 : Nat} {Rel : Int32 → zH → Nat → Prop}  (h : zH) (nx : Nat) (a0 : Nat) (a1 : Nat) (x2 : Int32) (T0 : zH → Nat → Nat → Nat → Int32 → Int32 → Int32 → Option (Int32 × zH × Nat)) (o : (Int32 × zH × Nat)) (C : z_Cx p l s m ([.ref a0, .ref a1, .int x2] : List Value).toArray meth c cL_act 12 yL_act.cls (some .boolean) G lo t0) (hR : Rel o.1 o.2.1 o.2.2) (K0 : ∀ (h1 : zH) (n1 : Nat) (b0 : Nat) (b1 : Nat) (y5 : Int32) (y6 : Int32) (y7 : Int32), T0 h1 n1 b0 b1 y5 y6 y7 = some o → z_R p l e (z_rm 10 212 27 641) s m ([.ref a0, .ref a1, .int x2] : List Value).toArray below meth c G lo 12 2 46 (z_RQ below G lo Rel [.ref a0, .ref a1, .int x2] s 27 641) 608 [(0, .ref b0), (1, .ref b1), (5, .int y5), (6, .int y6), (7, .int y7)] [] h1 n1) (hM : M_act T0 h nx t0 a0 a1 x2 = some o) : z_R p l e (z_rm 10 212 27 641) s m ([.ref a0, .ref a1, .int x2] : List Value).toArray below meth c G lo 12 0 0 (z_RQ below G lo Rel [.ref a0, .ref a1, .int x2] s 27 641) 0 [(0, .ref a0), (1, .ref a1), (2, .int x2)] [] h nx := by
  unfold M_act at hM
  refine z_aload_n (k := 1) (pc := 0) C dL_act_0 rfl ?_
  obtain ⟨r1, g1, hM⟩ := Option.bind_eq_some_iff.mp hM
  refine z_getR (pc := 1) (k := 0) C g1 rfl inlX5 (by decide) q_88 (fun _ h9 => h9) dL_act_1 ?_
  obtain ⟨r2, g2, hM⟩ := Option.bind_eq_some_iff.mp hM
  refine z_alen (pc := 4) C g2 dL_act_4 ?_
  refine z_istore_n (lv' := [(3, .int r2), (0, .ref a0), (1, .ref a1), (2, .int x2)]) (pc := 5) C dL_act_5 (by decide) rfl ?_
  refine z_iload_n (k := 0) (pc := 6) C dL_act_6 rfl ?_
  refine zj1 0 0 21 (fun (s0_3 : Int32) => [(0, .ref a0), (1, .ref a1), (2, .int x2), (3, .int r2)]) (fun (s0_3 : Int32) => [.int s0_3]) (fun (s0_3 : Int32) => h) (fun (s0_3 : Int32) => nx) hM (fun s0_3 hM => ?_) (fun J3 iJ3 hM => ?_)
  · refine z_istore (lv' := [(4, .int s0_3), (0, .ref a0), (1, .ref a1), (2, .int x2), (3, .int r2)]) (pc := 21) C dL_act_21 (by decide) rfl ?_
    refine z_iload_n (k := 3) (pc := 23) C dL_act_23 rfl ?_
    refine z_bipush (v := (12 : Int32)) (pc := 24) C dL_act_24 (by decide) ?_
    obtain ⟨r4, g4, hM⟩ := Option.bind_eq_some_iff.mp hM
    refine z_goN (kc := 0) (ks := 0) ([.int r4]) (z_callS (pc := 26) (As := [.int x2, .int (12 : Int32)]) (rest := []) (n := 2) C (c_L_below l hl G lo t0 h nx x2 (12 : Int32) r4 g4) q_90 q_91 q_67 q_92 ⟨by decide +kernel, by decide +kernel, by decide +kernel⟩ ⟨Nat.le_of_ble_eq_true rfl, Nat.le_of_ble_eq_true rfl⟩ rfl (Nat.le_of_ble_eq_true rfl) dL_act_26 ⟨(Nat.zero_le _), (Nat.zero_le _)⟩) rfl (Nat.le_of_ble_eq_true rfl) (Nat.le_of_ble_eq_true rfl) ?_
    refine zj0 0 0 84 ([(0, .ref a0), (1, .ref a1), (2, .int x2), (3, .int r2)]) ([]) (h) (nx) hM (fun  hM => ?_) (fun J5 iJ5 hM => ?_)
    · refine z_iload_n (k := 3) (pc := 84) C dL_act_84 rfl ?_
      refine z_bipush (v := (10 : Int32)) (pc := 85) C dL_act_85 (by decide) ?_
      refine z_icmp_ne (pc := 87) (tgt := 92) C dL_act_87 (by decide) hM (fun hc36 hM => ?_) (fun hc36 hM => ?_)
      · refine z_iconst (v := (1 : Int32)) (pc := 90) C dL_act_90 (by decide) ?_
        cases hM
        exact z_rzret (pc := 91) C (Or.inr rfl) hR (Nat.zero_le _) (Nat.zero_le _) dL_act_91
      · refine z_iload_n (k := 2) (pc := 92) C dL_act_92 rfl ?_
        refine z_iconst (v := (2 : Int32)) (pc := 93) C dL_act_93 (by decide) ?_
        refine z_ishr (pc := 94) C dL_act_94 ?_
        refine z_iconst (v := (3 : Int32)) (pc := 95) C dL_act_95 (by decide) ?_
        obtain ⟨r6, g6, hM⟩ := Option.bind_eq_some_iff.mp hM
        refine z_goN (kc := 0) (ks := 0) ([.int r6]) (z_callS (pc := 96) (As := [.int (x2 >>> ((2 : Int32) &&& 31)), .int (3 : Int32)]) (rest := []) (n := 2) C (c_L_below l hl G lo t0 h nx (x2 >>> ((2 : Int32) &&& 31)) (3 : Int32) r6 g6) q_90 q_91 q_67 q_92 ⟨by decide +kernel, by decide +kernel, by decide +kernel⟩ ⟨Nat.le_of_ble_eq_true rfl, Nat.le_of_ble_eq_true rfl⟩ rfl (Nat.le_of_ble_eq_true rfl) dL_act_96 ⟨(Nat.zero_le _), (Nat.zero_le _)⟩) rfl (Nat.le_of_ble_eq_true rfl) (Nat.le_of_ble_eq_true rfl) ?_
        refine zj1 0 0 109 (fun (s0_7 : Int32) => [(0, .ref a0), (1, .ref a1), (2, .int x2), (3, .int r2)]) (fun (s0_7 : Int32) => [.int s0_7]) (fun (s0_7 : Int32) => h) (fun (s0_7 : Int32) => nx) hM (fun s0_7 hM => ?_) (fun J7 iJ7 hM => ?_)
        · refine z_istore (lv' := [(5, .int s0_7), (0, .ref a0), (1, .ref a1), (2, .int x2), (3, .int r2)]) (pc := 109) C dL_act_109 (by decide) rfl ?_
          refine z_iconst (v := (1 : Int32)) (pc := 111) C dL_act_111 (by decide) ?_
          refine z_iload_n (k := 3) (pc := 112) C dL_act_112 rfl ?_
          refine z_iconst (v := (4 : Int32)) (pc := 113) C dL_act_113 (by decide) ?_
          refine z_ishr (pc := 114) C dL_act_114 ?_
          refine z_iload (k := 0) (pc := 115) C dL_act_115 rfl ?_
          obtain ⟨r8, g8, hM⟩ := Option.bind_eq_some_iff.mp hM
          refine z_goN (kc := 0) (ks := 0) ([.int r8, .int (1 : Int32)]) (z_callS (pc := 117) (As := [.int (x2 >>> ((4 : Int32) &&& 31)), .int s0_7]) (rest := [.int (1 : Int32)]) (n := 2) C (c_L_below l hl G lo t0 h nx (x2 >>> ((4 : Int32) &&& 31)) s0_7 r8 g8) q_90 q_91 q_67 q_92 ⟨by decide +kernel, by decide +kernel, by decide +kernel⟩ ⟨Nat.le_of_ble_eq_true rfl, Nat.le_of_ble_eq_true rfl⟩ rfl (Nat.le_of_ble_eq_true rfl) dL_act_117 ⟨(Nat.zero_le _), (Nat.zero_le _)⟩) rfl (Nat.le_of_ble_eq_true rfl) (Nat.le_of_ble_eq_true rfl) ?_
          refine z_iadd (pc := 120) C dL_act_120 ?_
          refine z_istore (lv' := [(6, .int ((1 : Int32) + r8)), (5, .int s0_7), (0, .ref a0), (1, .ref a1), (2, .int x2), (3, .int r2)]) (pc := 121) C dL_act_121 (by decide) rfl ?_
          refine z_iconst (v := (1 : Int32)) (pc := 123) C dL_act_123 (by decide) ?_
          refine z_iload_n (k := 4) (pc := 124) C dL_act_124 rfl ?_
          refine z_bipush (v := (6 : Int32)) (pc := 125) C dL_act_125 (by decide) ?_
          refine z_ishr (pc := 127) C dL_act_127 ?_
          refine z_iload (k := 1) (pc := 128) C dL_act_128 rfl ?_
          obtain ⟨r9, g9, hM⟩ := Option.bind_eq_some_iff.mp hM
          refine z_goN (kc := 0) (ks := 0) ([.int r9, .int (1 : Int32)]) (z_callS (pc := 130) (As := [.int (x2 >>> ((6 : Int32) &&& 31)), .int s0_7]) (rest := [.int (1 : Int32)]) (n := 2) C (c_L_below l hl G lo t0 h nx (x2 >>> ((6 : Int32) &&& 31)) s0_7 r9 g9) q_90 q_91 q_67 q_92 ⟨by decide +kernel, by decide +kernel, by decide +kernel⟩ ⟨Nat.le_of_ble_eq_true rfl, Nat.le_of_ble_eq_true rfl⟩ rfl (Nat.le_of_ble_eq_true rfl) dL_act_130 ⟨(Nat.zero_le _), (Nat.zero_le _)⟩) rfl (Nat.le_of_ble_eq_true rfl) (Nat.le_of_ble_eq_true rfl) ?_
          refine z_iadd (pc := 133) C dL_act_133 ?_
          refine z_istore (lv' := [(7, .int ((1 : Int32) + r9)), (6, .int ((1 : Int32) + r8)), (5, .int s0_7), (0, .ref a0), (1, .ref a1), (2, .int x2), (3, .int r2)]) (pc := 134) C dL_act_134 (by decide) rfl ?_
          refine z_bipush (v := (8 : Int32)) (pc := 136) C dL_act_136 (by decide) ?_
          refine z_newI (pc := 138) (n' := 8) C q_25 (by decide) (by decide) (by decide) (Nat.le_of_ble_eq_true rfl) (Nat.le_of_ble_eq_true rfl) dL_act_138 ?_
          refine z_dup (pc := 140) C dL_act_140 rfl ?_
          refine z_iconst (v := (0 : Int32)) (pc := 141) C dL_act_141 (by decide) ?_
          refine z_iload_n (k := 5) (pc := 142) C dL_act_142 rfl ?_
          refine z_iconst (v := (5 : Int32)) (pc := 143) C dL_act_143 (by decide) ?_
          refine z_ishr (pc := 144) C dL_act_144 ?_
          refine z_bipush (v := (25 : Int32)) (pc := 145) C dL_act_145 (by decide) ?_
          refine z_iload (k := 1) (pc := 147) C dL_act_147 rfl ?_
          refine z_isub (pc := 149) C dL_act_149 ?_
          obtain ⟨r10, g10, hM⟩ := Option.bind_eq_some_iff.mp hM
          refine z_goN (kc := 1) (ks := 8) ([.int r10, .int (0 : Int32), .ref nx, .ref nx]) (z_callS (pc := 150) (As := [.int (x2 >>> ((5 : Int32) &&& 31)), .int ((25 : Int32) - ((1 : Int32) + r8))]) (rest := [.int (0 : Int32), .ref nx, .ref nx]) (n := 2) C (c_L_below l hl G lo t0 (z_up h nx (zI 8 (fun _ => 0))) (nx + 1) (x2 >>> ((5 : Int32) &&& 31)) ((25 : Int32) - ((1 : Int32) + r8)) r10 g10) q_90 q_91 q_67 q_92 ⟨by decide +kernel, by decide +kernel, by decide +kernel⟩ ⟨Nat.le_of_ble_eq_true rfl, Nat.le_of_ble_eq_true rfl⟩ rfl (Nat.le_of_ble_eq_true rfl) dL_act_150 ⟨(Nat.le_of_ble_eq_true rfl), (Nat.le_of_ble_eq_true rfl)⟩) rfl (Nat.le_of_ble_eq_true rfl) (Nat.le_of_ble_eq_true rfl) ?_
          obtain ⟨h_11, g11, hM⟩ := Option.bind_eq_some_iff.mp hM
          refine z_iast (pc := 153) C g11 dL_act_153 ?_
          refine z_dup (pc := 154) C dL_act_154 rfl ?_
          refine z_iconst (v := (1 : Int32)) (pc := 155) C dL_act_155 (by decide) ?_
          refine z_iload_n (k := 5) (pc := 156) C dL_act_156 rfl ?_
          refine z_bipush (v := (7 : Int32)) (pc := 157) C dL_act_157 (by decide) ?_
          refine z_ishr (pc := 159) C dL_act_159 ?_
          refine z_bipush (v := (25 : Int32)) (pc := 160) C dL_act_160 (by decide) ?_
          refine z_iload (k := 0) (pc := 162) C dL_act_162 rfl ?_
          refine z_isub (pc := 164) C dL_act_164 ?_
          obtain ⟨r12, g12, hM⟩ := Option.bind_eq_some_iff.mp hM
          refine z_goN (kc := 1) (ks := 8) ([.int r12, .int (1 : Int32), .ref nx, .ref nx]) (z_callS (pc := 165) (As := [.int (x2 >>> ((7 : Int32) &&& 31)), .int ((25 : Int32) - ((1 : Int32) + r9))]) (rest := [.int (1 : Int32), .ref nx, .ref nx]) (n := 2) C (c_L_below l hl G lo t0 h_11 (nx + 1) (x2 >>> ((7 : Int32) &&& 31)) ((25 : Int32) - ((1 : Int32) + r9)) r12 g12) q_90 q_91 q_67 q_92 ⟨by decide +kernel, by decide +kernel, by decide +kernel⟩ ⟨Nat.le_of_ble_eq_true rfl, Nat.le_of_ble_eq_true rfl⟩ rfl (Nat.le_of_ble_eq_true rfl) dL_act_165 ⟨(Nat.le_of_ble_eq_true rfl), (Nat.le_of_ble_eq_true rfl)⟩) rfl (Nat.le_of_ble_eq_true rfl) (Nat.le_of_ble_eq_true rfl) ?_
          obtain ⟨h_13, g13, hM⟩ := Option.bind_eq_some_iff.mp hM
          refine z_iast (pc := 168) C g13 dL_act_168 ?_
          refine z_dup (pc := 169) C dL_act_169 rfl ?_
          refine z_iconst (v := (2 : Int32)) (pc := 170) C dL_act_170 (by decide) ?_
          refine z_iload (k := 1) (pc := 171) C dL_act_171 rfl ?_
          obtain ⟨h_14, g14, hM⟩ := Option.bind_eq_some_iff.mp hM
          refine z_iast (pc := 173) C g14 dL_act_173 ?_
          refine z_dup (pc := 174) C dL_act_174 rfl ?_
          refine z_iconst (v := (3 : Int32)) (pc := 175) C dL_act_175 (by decide) ?_
          refine z_iload (k := 0) (pc := 176) C dL_act_176 rfl ?_
          obtain ⟨h_15, g15, hM⟩ := Option.bind_eq_some_iff.mp hM
          refine z_iast (pc := 178) C g15 dL_act_178 ?_
          refine z_dup (pc := 179) C dL_act_179 rfl ?_
          refine z_iconst (v := (4 : Int32)) (pc := 180) C dL_act_180 (by decide) ?_
          refine z_iconst (v := (1 : Int32)) (pc := 181) C dL_act_181 (by decide) ?_
          refine z_iload_n (k := 5) (pc := 182) C dL_act_182 rfl ?_
          refine z_bipush (v := (8 : Int32)) (pc := 183) C dL_act_183 (by decide) ?_
          refine z_ishr (pc := 185) C dL_act_185 ?_
          refine z_iload_n (k := 5) (pc := 186) C dL_act_186 rfl ?_
          refine z_iconst (v := (3 : Int32)) (pc := 187) C dL_act_187 (by decide) ?_
          refine z_ishr (pc := 188) C dL_act_188 ?_
          refine z_iconst (v := (2 : Int32)) (pc := 189) C dL_act_189 (by decide) ?_
          obtain ⟨r16, g16, hM⟩ := Option.bind_eq_some_iff.mp hM
          refine z_goN (kc := 1) (ks := 8) ([.int r16, .int (x2 >>> ((8 : Int32) &&& 31)), .int (1 : Int32), .int (4 : Int32), .ref nx, .ref nx]) (z_callS (pc := 190) (As := [.int (x2 >>> ((3 : Int32) &&& 31)), .int (2 : Int32)]) (rest := [.int (x2 >>> ((8 : Int32) &&& 31)), .int (1 : Int32), .int (4 : Int32), .ref nx, .ref nx]) (n := 2) C (c_L_below l hl G lo t0 h_15 (nx + 1) (x2 >>> ((3 : Int32) &&& 31)) (2 : Int32) r16 g16) q_90 q_91 q_67 q_92 ⟨by decide +kernel, by decide +kernel, by decide +kernel⟩ ⟨Nat.le_of_ble_eq_true rfl, Nat.le_of_ble_eq_true rfl⟩ rfl (Nat.le_of_ble_eq_true rfl) dL_act_190 ⟨(Nat.le_of_ble_eq_true rfl), (Nat.le_of_ble_eq_true rfl)⟩) rfl (Nat.le_of_ble_eq_true rfl) (Nat.le_of_ble_eq_true rfl) ?_
          refine zj6 1 8 202 (fun (b0_17 : Nat) (b1_17 : Nat) (s2_17 : Int32) (s3_17 : Int32) (s4_17 : Int32) (s5_17 : Int32) => [(0, .ref a0), (1, .ref a1), (2, .int x2), (3, .int r2), (6, .int ((1 : Int32) + r8)), (7, .int ((1 : Int32) + r9))]) (fun (b0_17 : Nat) (b1_17 : Nat) (s2_17 : Int32) (s3_17 : Int32) (s4_17 : Int32) (s5_17 : Int32) => [.int s5_17, .int s4_17, .int s3_17, .int s2_17, .ref b1_17, .ref b0_17]) (fun (b0_17 : Nat) (b1_17 : Nat) (s2_17 : Int32) (s3_17 : Int32) (s4_17 : Int32) (s5_17 : Int32) => h_15) (fun (b0_17 : Nat) (b1_17 : Nat) (s2_17 : Int32) (s3_17 : Int32) (s4_17 : Int32) (s5_17 : Int32) => (nx + 1)) hM (fun b0_17 b1_17 s2_17 s3_17 s4_17 s5_17 hM => ?_) (fun J17 iJ17 hM => ?_)
          · obtain ⟨r18, g18, hM⟩ := Option.bind_eq_some_iff.mp hM
            refine z_goN (kc := 1) (ks := 8) ([.int r18, .int s3_17, .int s2_17, .ref b1_17, .ref b0_17]) (z_callS (pc := 202) (As := [.int s4_17, .int s5_17]) (rest := [.int s3_17, .int s2_17, .ref b1_17, .ref b0_17]) (n := 2) C (c_L_below l hl G lo t0 h_15 (nx + 1) s4_17 s5_17 r18 g18) q_90 q_91 q_67 q_92 ⟨by decide +kernel, by decide +kernel, by decide +kernel⟩ ⟨Nat.le_of_ble_eq_true rfl, Nat.le_of_ble_eq_true rfl⟩ rfl (Nat.le_of_ble_eq_true rfl) dL_act_202 ⟨(Nat.le_of_ble_eq_true rfl), (Nat.le_of_ble_eq_true rfl)⟩) rfl (Nat.le_of_ble_eq_true rfl) (Nat.le_of_ble_eq_true rfl) ?_
            refine z_iadd (pc := 205) C dL_act_205 ?_
            obtain ⟨h_19, g19, hM⟩ := Option.bind_eq_some_iff.mp hM
            refine z_iast (pc := 206) C g19 dL_act_206 ?_
            refine z_dup (pc := 207) C dL_act_207 rfl ?_
            refine z_iconst (v := (5 : Int32)) (pc := 208) C dL_act_208 (by decide) ?_
            refine z_iload_n (k := 2) (pc := 209) C dL_act_209 rfl ?_
            refine z_bipush (v := (9 : Int32)) (pc := 210) C dL_act_210 (by decide) ?_
            refine z_ishr (pc := 212) C dL_act_212 ?_
            refine z_iconst (v := (4 : Int32)) (pc := 213) C dL_act_213 (by decide) ?_
            obtain ⟨r20, g20, hM⟩ := Option.bind_eq_some_iff.mp hM
            refine z_goN (kc := 1) (ks := 8) ([.int r20, .int (5 : Int32), .ref b0_17, .ref b0_17]) (z_callS (pc := 214) (As := [.int (x2 >>> ((9 : Int32) &&& 31)), .int (4 : Int32)]) (rest := [.int (5 : Int32), .ref b0_17, .ref b0_17]) (n := 2) C (c_L_below l hl G lo t0 h_19 (nx + 1) (x2 >>> ((9 : Int32) &&& 31)) (4 : Int32) r20 g20) q_90 q_91 q_67 q_92 ⟨by decide +kernel, by decide +kernel, by decide +kernel⟩ ⟨Nat.le_of_ble_eq_true rfl, Nat.le_of_ble_eq_true rfl⟩ rfl (Nat.le_of_ble_eq_true rfl) dL_act_214 ⟨(Nat.le_of_ble_eq_true rfl), (Nat.le_of_ble_eq_true rfl)⟩) rfl (Nat.le_of_ble_eq_true rfl) (Nat.le_of_ble_eq_true rfl) ?_
            obtain ⟨h_21, g21, hM⟩ := Option.bind_eq_some_iff.mp hM
            refine z_iast (pc := 217) C g21 dL_act_217 ?_
            refine z_dup (pc := 218) C dL_act_218 rfl ?_
            refine z_bipush (v := (6 : Int32)) (pc := 219) C dL_act_219 (by decide) ?_
            refine z_iconst (v := (1 : Int32)) (pc := 221) C dL_act_221 (by decide) ?_
            obtain ⟨h_22, g22, hM⟩ := Option.bind_eq_some_iff.mp hM
            refine z_iast (pc := 222) C g22 dL_act_222 ?_
            refine z_dup (pc := 223) C dL_act_223 rfl ?_
            refine z_bipush (v := (7 : Int32)) (pc := 224) C dL_act_224 (by decide) ?_
            refine z_iconst (v := (0 : Int32)) (pc := 226) C dL_act_226 (by decide) ?_
            obtain ⟨h_23, g23, hM⟩ := Option.bind_eq_some_iff.mp hM
            refine z_iast (pc := 227) C g23 dL_act_227 ?_
            refine z_astore (lv' := [(8, .ref b0_17), (0, .ref a0), (1, .ref a1), (2, .int x2), (3, .int r2), (6, .int ((1 : Int32) + r8)), (7, .int ((1 : Int32) + r9))]) (pc := 228) C dL_act_228 (by decide) rfl ?_
            refine z_aload_n (k := 2) (pc := 230) C dL_act_230 rfl ?_
            refine z_aload_n (k := 2) (pc := 231) C dL_act_231 rfl ?_
            obtain ⟨r24, g24, hM⟩ := Option.bind_eq_some_iff.mp hM
            refine z_getR (pc := 232) (k := 0) C g24 rfl inlX5 (by decide) q_88 (fun _ h9 => h9) dL_act_232 ?_
            refine z_aload (k := 0) (pc := 235) C dL_act_235 rfl ?_
            obtain ⟨r25, g25, hM⟩ := Option.bind_eq_some_iff.mp hM
            refine z_goN (kc := 2) (ks := 24) ([.ref r25.1, .ref a1]) (z_callS (pc := 237) (As := [.ref r24, .ref b0_17]) (rest := [.ref a1]) (n := 2) C (c_X5_with l hl G lo t0 h_23 (nx + 1) r24 b0_17 r25 g25) q_94 q_95 q_71 q_96 ⟨by decide +kernel, by decide +kernel, by decide +kernel⟩ ⟨Nat.le_of_ble_eq_true rfl, Nat.le_of_ble_eq_true rfl⟩ rfl (Nat.le_of_ble_eq_true rfl) dL_act_237 ⟨(Nat.le_of_ble_eq_true rfl), (Nat.le_of_ble_eq_true rfl)⟩) rfl (Nat.le_of_ble_eq_true rfl) (Nat.le_of_ble_eq_true rfl) ?_
            obtain ⟨h_26, g26, hM⟩ := Option.bind_eq_some_iff.mp hM
            refine z_put (pc := 240) (k := 0) C g26 rfl inlX5 tyX5 tyX5_ok nmX5 (by decide) q_88 (fun _ h9 => h9) rfl (tyX5_ok 0 (by decide)) rfl rfl dL_act_240 ?_
            refine z_aload_n (k := 1) (pc := 243) C dL_act_243 rfl ?_
            refine z_aload (k := 0) (pc := 244) C dL_act_244 rfl ?_
            refine z_iconst (v := (0 : Int32)) (pc := 246) C dL_act_246 (by decide) ?_
            obtain ⟨r27, g27, hM⟩ := Option.bind_eq_some_iff.mp hM
            refine z_iald (pc := 247) C g27 dL_act_247 ?_
            refine z_aload (k := 0) (pc := 248) C dL_act_248 rfl ?_
            refine z_iconst (v := (1 : Int32)) (pc := 250) C dL_act_250 (by decide) ?_
            obtain ⟨r28, g28, hM⟩ := Option.bind_eq_some_iff.mp hM
            refine z_iald (pc := 251) C g28 dL_act_251 ?_
            refine z_iload (k := 5) (pc := 252) C dL_act_252 rfl ?_
            refine z_iload (k := 6) (pc := 254) C dL_act_254 rfl ?_
            refine z_aload (k := 0) (pc := 256) C dL_act_256 rfl ?_
            refine z_iconst (v := (4 : Int32)) (pc := 258) C dL_act_258 (by decide) ?_
            obtain ⟨r29, g29, hM⟩ := Option.bind_eq_some_iff.mp hM
            refine z_iald (pc := 259) C g29 dL_act_259 ?_
            refine z_aload (k := 0) (pc := 260) C dL_act_260 rfl ?_
            refine z_iconst (v := (5 : Int32)) (pc := 262) C dL_act_262 (by decide) ?_
            obtain ⟨r30, g30, hM⟩ := Option.bind_eq_some_iff.mp hM
            refine z_iald (pc := 263) C g30 dL_act_263 ?_
            obtain ⟨_, g31, hM⟩ := Option.bind_eq_some_iff.mp hM
            obtain ⟨r32, g32, hM⟩ := z_tn_c hM
            refine z_goN (kc := 4) (ks := 42) ([.int r32.1]) (z_callV (pc := 264) (As := [.int r27, .int r28, .int ((1 : Int32) + r8), .int ((1 : Int32) + r9), .int r29, .int r30]) (rest := []) (n := 6) (ci := 5) C (c_X4_hang l hl G lo t0 h_26 r25.2.2 a0 r27 r28 ((1 : Int32) + r8) ((1 : Int32) + r9) r29 r30 (.inr r32) g32) g31 rfl q_97 q_98 q_99 q_2 q_100 ⟨rfl, by decide +kernel, by decide +kernel, by decide +kernel⟩ ⟨Nat.le_of_ble_eq_true rfl, Nat.le_of_ble_eq_true rfl⟩ rfl (Nat.le_of_ble_eq_true rfl) dL_act_264 ⟨(Nat.le_of_ble_eq_true rfl), (Nat.le_of_ble_eq_true rfl)⟩) rfl (Nat.le_of_ble_eq_true rfl) (Nat.le_of_ble_eq_true rfl) ?_
            refine z_iload_n (k := 4) (pc := 267) C dL_act_267 rfl ?_
            refine z_icmp_ne (pc := 268) (tgt := 275) C dL_act_268 (by decide) hM (fun hc33 hM => ?_) (fun hc33 hM => ?_)
            · refine z_iconst (v := (1 : Int32)) (pc := 271) C dL_act_271 (by decide) ?_
              refine z_goto (pc := 272) (tgt := 276) C dL_act_272 (by decide) ?_
              cases hM
              exact z_rzret (pc := 276) C (Or.inr rfl) hR (Nat.le_of_ble_eq_true rfl) (Nat.le_of_ble_eq_true rfl) dL_act_276
            · refine z_iconst (v := (0 : Int32)) (pc := 275) C dL_act_275 (by decide) ?_
              cases hM
              exact z_rzret (pc := 276) C (Or.inl rfl) hR (Nat.le_of_ble_eq_true rfl) (Nat.le_of_ble_eq_true rfl) dL_act_276
          refine z_if_ne (pc := 193) (tgt := 201) C dL_act_193 (by decide) hM (fun hc34 hM => ?_) (fun hc34 hM => ?_)
          · refine z_bipush (v := (9 : Int32)) (pc := 196) C dL_act_196 (by decide) ?_
            refine z_goto (pc := 198) (tgt := 202) C dL_act_198 (by decide) ?_
            exact z_sub [3, 4, 5, 6, 1, 0] rfl (iJ17 nx nx (4 : Int32) (1 : Int32) (x2 >>> ((8 : Int32) &&& 31)) (9 : Int32) hM)
          · refine z_iconst (v := (3 : Int32)) (pc := 201) C dL_act_201 (by decide) ?_
            exact z_sub [3, 4, 5, 6, 1, 0] rfl (iJ17 nx nx (4 : Int32) (1 : Int32) (x2 >>> ((8 : Int32) &&& 31)) (3 : Int32) hM)
        refine z_if_ne (pc := 99) (tgt := 107) C dL_act_99 (by decide) hM (fun hc35 hM => ?_) (fun hc35 hM => ?_)
        · refine z_bipush (v := (24 : Int32)) (pc := 102) C dL_act_102 (by decide) ?_
          refine z_goto (pc := 104) (tgt := 109) C dL_act_104 (by decide) ?_
          exact z_sub [0, 1, 2, 3] rfl (iJ7 (24 : Int32) hM)
        · refine z_bipush (v := (9 : Int32)) (pc := 107) C dL_act_107 (by decide) ?_
          exact z_sub [0, 1, 2, 3] rfl (iJ7 (9 : Int32) hM)
    refine zj0 0 0 339 ([(0, .ref a0), (1, .ref a1), (2, .int x2), (3, .int r2), (4, .int s0_3)]) ([]) (h) (nx) hM (fun  hM => ?_) (fun J37 iJ37 hM => ?_)
    · refine z_iload_n (k := 3) (pc := 339) C dL_act_339 rfl ?_
      refine z_if_ne (pc := 340) (tgt := 345) C dL_act_340 (by decide) hM (fun hc63 hM => ?_) (fun hc63 hM => ?_)
      · refine z_iconst (v := (1 : Int32)) (pc := 343) C dL_act_343 (by decide) ?_
        cases hM
        exact z_rzret (pc := 344) C (Or.inr rfl) hR (Nat.zero_le _) (Nat.zero_le _) dL_act_344
      · refine z_aload_n (k := 1) (pc := 345) C dL_act_345 rfl ?_
        obtain ⟨r38, g38, hM⟩ := Option.bind_eq_some_iff.mp hM
        refine z_getR (pc := 346) (k := 0) C g38 rfl inlX5 (by decide) q_88 (fun _ h9 => h9) dL_act_346 ?_
        refine z_iload (k := 4) (pc := 349) C dL_act_349 rfl ?_
        obtain ⟨r39, g39, hM⟩ := Option.bind_eq_some_iff.mp hM
        refine z_aaldD (pc := 351) C g39 dL_act_351 ?_
        refine z_iconst (v := (0 : Int32)) (pc := 352) C dL_act_352 (by decide) ?_
        refine z_iload_n (k := 2) (pc := 353) C dL_act_353 rfl ?_
        refine z_iconst (v := (5 : Int32)) (pc := 354) C dL_act_354 (by decide) ?_
        refine z_ishr (pc := 355) C dL_act_355 ?_
        refine z_bipush (v := (25 : Int32)) (pc := 356) C dL_act_356 (by decide) ?_
        refine z_aload_n (k := 1) (pc := 358) C dL_act_358 rfl ?_
        obtain ⟨r40, g40, hM⟩ := Option.bind_eq_some_iff.mp hM
        refine z_getR (pc := 359) (k := 0) C g40 rfl inlX5 (by decide) q_88 (fun _ h9 => h9) dL_act_359 ?_
        refine z_iload (k := 4) (pc := 362) C dL_act_362 rfl ?_
        obtain ⟨r41, g41, hM⟩ := Option.bind_eq_some_iff.mp hM
        refine z_aaldD (pc := 364) C g41 dL_act_364 ?_
        refine z_iconst (v := (2 : Int32)) (pc := 365) C dL_act_365 (by decide) ?_
        obtain ⟨r42, g42, hM⟩ := Option.bind_eq_some_iff.mp hM
        refine z_iald (pc := 366) C g42 dL_act_366 ?_
        refine z_isub (pc := 367) C dL_act_367 ?_
        obtain ⟨r43, g43, hM⟩ := Option.bind_eq_some_iff.mp hM
        refine z_goN (kc := 0) (ks := 0) ([.int r43, .int (0 : Int32), .ref r39]) (z_callS (pc := 368) (As := [.int (x2 >>> ((5 : Int32) &&& 31)), .int ((25 : Int32) - r42)]) (rest := [.int (0 : Int32), .ref r39]) (n := 2) C (c_L_below l hl G lo t0 h nx (x2 >>> ((5 : Int32) &&& 31)) ((25 : Int32) - r42) r43 g43) q_90 q_91 q_67 q_92 ⟨by decide +kernel, by decide +kernel, by decide +kernel⟩ ⟨Nat.le_of_ble_eq_true rfl, Nat.le_of_ble_eq_true rfl⟩ rfl (Nat.le_of_ble_eq_true rfl) dL_act_368 ⟨(Nat.zero_le _), (Nat.zero_le _)⟩) rfl (Nat.le_of_ble_eq_true rfl) (Nat.le_of_ble_eq_true rfl) ?_
        obtain ⟨h_44, g44, hM⟩ := Option.bind_eq_some_iff.mp hM
        refine z_iast (pc := 371) C g44 dL_act_371 ?_
        refine z_aload_n (k := 1) (pc := 372) C dL_act_372 rfl ?_
        obtain ⟨r45, g45, hM⟩ := Option.bind_eq_some_iff.mp hM
        refine z_getR (pc := 373) (k := 0) C g45 rfl inlX5 (by decide) q_88 (fun _ h9 => h9) dL_act_373 ?_
        refine z_iload (k := 4) (pc := 376) C dL_act_376 rfl ?_
        obtain ⟨r46, g46, hM⟩ := Option.bind_eq_some_iff.mp hM
        refine z_aaldD (pc := 378) C g46 dL_act_378 ?_
        refine z_iconst (v := (1 : Int32)) (pc := 379) C dL_act_379 (by decide) ?_
        refine z_iload_n (k := 2) (pc := 380) C dL_act_380 rfl ?_
        refine z_bipush (v := (7 : Int32)) (pc := 381) C dL_act_381 (by decide) ?_
        refine z_ishr (pc := 383) C dL_act_383 ?_
        refine z_bipush (v := (25 : Int32)) (pc := 384) C dL_act_384 (by decide) ?_
        refine z_aload_n (k := 1) (pc := 386) C dL_act_386 rfl ?_
        obtain ⟨r47, g47, hM⟩ := Option.bind_eq_some_iff.mp hM
        refine z_getR (pc := 387) (k := 0) C g47 rfl inlX5 (by decide) q_88 (fun _ h9 => h9) dL_act_387 ?_
        refine z_iload (k := 4) (pc := 390) C dL_act_390 rfl ?_
        obtain ⟨r48, g48, hM⟩ := Option.bind_eq_some_iff.mp hM
        refine z_aaldD (pc := 392) C g48 dL_act_392 ?_
        refine z_iconst (v := (3 : Int32)) (pc := 393) C dL_act_393 (by decide) ?_
        obtain ⟨r49, g49, hM⟩ := Option.bind_eq_some_iff.mp hM
        refine z_iald (pc := 394) C g49 dL_act_394 ?_
        refine z_isub (pc := 395) C dL_act_395 ?_
        obtain ⟨r50, g50, hM⟩ := Option.bind_eq_some_iff.mp hM
        refine z_goN (kc := 0) (ks := 0) ([.int r50, .int (1 : Int32), .ref r46]) (z_callS (pc := 396) (As := [.int (x2 >>> ((7 : Int32) &&& 31)), .int ((25 : Int32) - r49)]) (rest := [.int (1 : Int32), .ref r46]) (n := 2) C (c_L_below l hl G lo t0 h_44 nx (x2 >>> ((7 : Int32) &&& 31)) ((25 : Int32) - r49) r50 g50) q_90 q_91 q_67 q_92 ⟨by decide +kernel, by decide +kernel, by decide +kernel⟩ ⟨Nat.le_of_ble_eq_true rfl, Nat.le_of_ble_eq_true rfl⟩ rfl (Nat.le_of_ble_eq_true rfl) dL_act_396 ⟨(Nat.zero_le _), (Nat.zero_le _)⟩) rfl (Nat.le_of_ble_eq_true rfl) (Nat.le_of_ble_eq_true rfl) ?_
        obtain ⟨h_51, g51, hM⟩ := Option.bind_eq_some_iff.mp hM
        refine z_iast (pc := 399) C g51 dL_act_399 ?_
        refine z_aload_n (k := 0) (pc := 400) C dL_act_400 rfl ?_
        refine z_iload (k := 4) (pc := 401) C dL_act_401 rfl ?_
        refine z_aload_n (k := 1) (pc := 403) C dL_act_403 rfl ?_
        obtain ⟨r52, g52, hM⟩ := Option.bind_eq_some_iff.mp hM
        refine z_getR (pc := 404) (k := 0) C g52 rfl inlX5 (by decide) q_88 (fun _ h9 => h9) dL_act_404 ?_
        refine z_iload (k := 4) (pc := 407) C dL_act_407 rfl ?_
        obtain ⟨r53, g53, hM⟩ := Option.bind_eq_some_iff.mp hM
        refine z_aaldD (pc := 409) C g53 dL_act_409 ?_
        refine z_iconst (v := (0 : Int32)) (pc := 410) C dL_act_410 (by decide) ?_
        obtain ⟨r54, g54, hM⟩ := Option.bind_eq_some_iff.mp hM
        refine z_iald (pc := 411) C g54 dL_act_411 ?_
        refine z_aload_n (k := 1) (pc := 412) C dL_act_412 rfl ?_
        obtain ⟨r55, g55, hM⟩ := Option.bind_eq_some_iff.mp hM
        refine z_getR (pc := 413) (k := 0) C g55 rfl inlX5 (by decide) q_88 (fun _ h9 => h9) dL_act_413 ?_
        refine z_iload (k := 4) (pc := 416) C dL_act_416 rfl ?_
        obtain ⟨r56, g56, hM⟩ := Option.bind_eq_some_iff.mp hM
        refine z_aaldD (pc := 418) C g56 dL_act_418 ?_
        refine z_iconst (v := (1 : Int32)) (pc := 419) C dL_act_419 (by decide) ?_
        obtain ⟨r57, g57, hM⟩ := Option.bind_eq_some_iff.mp hM
        refine z_iald (pc := 420) C g57 dL_act_420 ?_
        obtain ⟨_, g58, hM⟩ := Option.bind_eq_some_iff.mp hM
        obtain ⟨r59, g59, hM⟩ := z_tn_c hM
        refine z_goN (kc := 0) (ks := 0) ([.int r59.1]) (z_callV (pc := 421) (As := [.int s0_3, .int r54, .int r57]) (rest := []) (n := 3) (ci := 5) C (c_X4_move l hl G lo t0 h_51 nx a0 s0_3 r54 r57 (.inr r59) g59) g58 rfl q_236 q_237 q_238 q_2 q_239 ⟨rfl, by decide +kernel, by decide +kernel, by decide +kernel⟩ ⟨Nat.le_of_ble_eq_true rfl, Nat.le_of_ble_eq_true rfl⟩ rfl (Nat.le_of_ble_eq_true rfl) dL_act_421 ⟨(Nat.zero_le _), (Nat.zero_le _)⟩) rfl (Nat.le_of_ble_eq_true rfl) (Nat.le_of_ble_eq_true rfl) ?_
        refine z_aload_n (k := 1) (pc := 424) C dL_act_424 rfl ?_
        obtain ⟨_, g60, hM⟩ := Option.bind_eq_some_iff.mp hM
        obtain ⟨r61, g61, hM⟩ := Option.bind_eq_some_iff.mp hM
        refine z_goN (kc := 0) (ks := 0) ([.int r61, .int r59.1]) (z_callV (pc := 425) (As := []) (rest := [.int r59.1]) (n := 0) (ci := 6) C (c_X5_covered l hl G lo t0 r59.2 nx a1 r61 g61) g60 rfl q_252 q_253 q_254 q_71 q_255 ⟨rfl, by decide +kernel, by decide +kernel, by decide +kernel⟩ ⟨Nat.le_of_ble_eq_true rfl, Nat.le_of_ble_eq_true rfl⟩ rfl (Nat.le_of_ble_eq_true rfl) dL_act_425 ⟨(Nat.zero_le _), (Nat.zero_le _)⟩) rfl (Nat.le_of_ble_eq_true rfl) (Nat.le_of_ble_eq_true rfl) ?_
        refine z_icmp_ne (pc := 428) (tgt := 435) C dL_act_428 (by decide) hM (fun hc62 hM => ?_) (fun hc62 hM => ?_)
        · refine z_iconst (v := (1 : Int32)) (pc := 431) C dL_act_431 (by decide) ?_
          refine z_goto (pc := 432) (tgt := 436) C dL_act_432 (by decide) ?_
          cases hM
          exact z_rzret (pc := 436) C (Or.inr rfl) hR (Nat.zero_le _) (Nat.zero_le _) dL_act_436
        · refine z_iconst (v := (0 : Int32)) (pc := 435) C dL_act_435 (by decide) ?_
          cases hM
          exact z_rzret (pc := 436) C (Or.inl rfl) hR (Nat.zero_le _) (Nat.zero_le _) dL_act_436
    refine zj0 0 0 475 ([(0, .ref a0), (1, .ref a1), (2, .int x2)]) ([]) (h) (nx) hM (fun  hM => ?_) (fun J64 iJ64 hM => ?_)
    · refine z_iload_n (k := 2) (pc := 475) C dL_act_475 rfl ?_
      refine z_iconst (v := (4 : Int32)) (pc := 476) C dL_act_476 (by decide) ?_
      refine z_ishr (pc := 477) C dL_act_477 ?_
      refine z_bipush (v := (24 : Int32)) (pc := 478) C dL_act_478 (by decide) ?_
      obtain ⟨r65, g65, hM⟩ := Option.bind_eq_some_iff.mp hM
      refine z_goN (kc := 0) (ks := 0) ([.int r65]) (z_callS (pc := 480) (As := [.int (x2 >>> ((4 : Int32) &&& 31)), .int (24 : Int32)]) (rest := []) (n := 2) C (c_L_below l hl G lo t0 h nx (x2 >>> ((4 : Int32) &&& 31)) (24 : Int32) r65 g65) q_90 q_91 q_67 q_92 ⟨by decide +kernel, by decide +kernel, by decide +kernel⟩ ⟨Nat.le_of_ble_eq_true rfl, Nat.le_of_ble_eq_true rfl⟩ rfl (Nat.le_of_ble_eq_true rfl) dL_act_480 ⟨(Nat.zero_le _), (Nat.zero_le _)⟩) rfl (Nat.le_of_ble_eq_true rfl) (Nat.le_of_ble_eq_true rfl) ?_
      refine z_istore (lv' := [(5, .int r65), (0, .ref a0), (1, .ref a1), (2, .int x2)]) (pc := 483) C dL_act_483 (by decide) rfl ?_
      refine z_iload_n (k := 3) (pc := 485) C dL_act_485 rfl ?_
      refine z_bipush (v := (6 : Int32)) (pc := 486) C dL_act_486 (by decide) ?_
      refine z_ishr (pc := 488) C dL_act_488 ?_
      refine z_bipush (v := (24 : Int32)) (pc := 489) C dL_act_489 (by decide) ?_
      obtain ⟨r66, g66, hM⟩ := Option.bind_eq_some_iff.mp hM
      refine z_goN (kc := 0) (ks := 0) ([.int r66]) (z_callS (pc := 491) (As := [.int (x2 >>> ((6 : Int32) &&& 31)), .int (24 : Int32)]) (rest := []) (n := 2) C (c_L_below l hl G lo t0 h nx (x2 >>> ((6 : Int32) &&& 31)) (24 : Int32) r66 g66) q_90 q_91 q_67 q_92 ⟨by decide +kernel, by decide +kernel, by decide +kernel⟩ ⟨Nat.le_of_ble_eq_true rfl, Nat.le_of_ble_eq_true rfl⟩ rfl (Nat.le_of_ble_eq_true rfl) dL_act_491 ⟨(Nat.zero_le _), (Nat.zero_le _)⟩) rfl (Nat.le_of_ble_eq_true rfl) (Nat.le_of_ble_eq_true rfl) ?_
      refine z_istore (lv' := [(6, .int r66), (5, .int r65), (0, .ref a0), (1, .ref a1), (2, .int x2)]) (pc := 494) C dL_act_494 (by decide) rfl ?_
      refine z_aload_n (k := 3) (pc := 496) C dL_act_496 rfl ?_
      obtain ⟨r67, g67, hM⟩ := Option.bind_eq_some_iff.mp hM
      refine z_getR (pc := 497) (k := 1) C g67 rfl inlX5 (by decide) q_89 (fun _ h9 => h9) dL_act_497 ?_
      obtain ⟨r68, g68, hM⟩ := Option.bind_eq_some_iff.mp hM
      refine z_alen (pc := 500) C g68 dL_act_500 ?_
      refine z_bipush (v := (8 : Int32)) (pc := 501) C dL_act_501 (by decide) ?_
      refine zj1 0 0 511 (fun (s0_69 : Int32) => [(0, .ref a0), (1, .ref a1), (5, .int r65), (6, .int r66)]) (fun (s0_69 : Int32) => [.int s0_69]) (fun (s0_69 : Int32) => h) (fun (s0_69 : Int32) => nx) hM (fun s0_69 hM => ?_) (fun J69 iJ69 hM => ?_)
      · refine z_istore (lv' := [(7, .int s0_69), (0, .ref a0), (1, .ref a1), (5, .int r65), (6, .int r66)]) (pc := 511) C dL_act_511 (by decide) rfl ?_
        refine z_aload_n (k := 2) (pc := 513) C dL_act_513 rfl ?_
        obtain ⟨r70, g70, hM⟩ := Option.bind_eq_some_iff.mp hM
        refine z_getR (pc := 514) (k := 1) C g70 rfl inlX5 (by decide) q_89 (fun _ h9 => h9) dL_act_514 ?_
        refine z_astore (lv' := [(8, .ref r70), (7, .int s0_69), (0, .ref a0), (1, .ref a1), (5, .int r65), (6, .int r66)]) (pc := 517) C dL_act_517 (by decide) rfl ?_
        refine z_aload (k := 0) (pc := 519) C dL_act_519 rfl ?_
        obtain ⟨r71, g71, hM⟩ := Option.bind_eq_some_iff.mp hM
        refine z_alen (pc := 521) C g71 dL_act_521 ?_
        refine z_istore (lv' := [(9, .int r71), (8, .ref r70), (7, .int s0_69), (0, .ref a0), (1, .ref a1), (5, .int r65), (6, .int r66)]) (pc := 522) C dL_act_522 (by decide) rfl ?_
        refine z_iconst (v := (0 : Int32)) (pc := 524) C dL_act_524 (by decide) ?_
        refine z_istore (lv' := [(10, .int (0 : Int32)), (9, .int r71), (8, .ref r70), (7, .int s0_69), (0, .ref a0), (1, .ref a1), (5, .int r65), (6, .int r66)]) (pc := 525) C dL_act_525 (by decide) rfl ?_
        refine z_sub [4, 5, 6, 7, 3, 2, 1, 0] rfl (zl2 (fun (x7_72 : Int32) (x10_72 : Int32) => [(0, .ref a0), (1, .ref a1), (5, .int r65), (6, .int r66), (7, .int x7_72), (8, .ref r70), (9, .int r71), (10, .int x10_72)]) (fun (x7_72 : Int32) (x10_72 : Int32) => h) (fun (x7_72 : Int32) (x10_72 : Int32) => nx) hM (fun rec72 irec72 x7_72 x10_72 hM => ?_))
        refine z_iload (k := 7) (pc := 527) C dL_act_527 rfl ?_
        refine z_iload (k := 6) (pc := 529) C dL_act_529 rfl ?_
        refine z_icmp_ge (pc := 531) (tgt := 575) C dL_act_531 (by decide) hM (fun hc88 hM => ?_) (fun hc88 hM => ?_)
        · refine z_iload (k := 4) (pc := 575) C dL_act_575 rfl ?_
          refine zj2 2 46 608 (fun (h_73 : zH) (n_73 : Nat) => [(0, .ref a0), (1, .ref a1), (5, .int r65), (6, .int r66), (7, .int x7_72)]) (fun (h_73 : zH) (n_73 : Nat) => []) (fun (h_73 : zH) (n_73 : Nat) => h_73) (fun (h_73 : zH) (n_73 : Nat) => n_73) hM (fun h_73 n_73 hM => ?_) (fun J73 iJ73 hM => ?_)
          · exact z_sub [0, 1, 2, 3, 4] rfl (K0 h_73 n_73 a0 a1 r65 r66 x7_72 hM)
          refine z_if_eq (pc := 577) (tgt := 608) C dL_act_577 (by decide) hM (fun hc80 hM => ?_) (fun hc80 hM => ?_)
          · refine z_wide (kc := 2) (ks := 46) (Nat.le_of_ble_eq_true rfl) (Nat.le_of_ble_eq_true rfl) ?_
            exact z_sub [0, 1, 2, 3, 4] rfl (iJ73 h nx hM)
          · refine z_aload_n (k := 1) (pc := 580) C dL_act_580 rfl ?_
            refine z_aload_n (k := 1) (pc := 581) C dL_act_581 rfl ?_
            obtain ⟨r74, g74, hM⟩ := Option.bind_eq_some_iff.mp hM
            refine z_getR (pc := 582) (k := 1) C g74 rfl inlX5 (by decide) q_89 (fun _ h9 => h9) dL_act_582 ?_
            refine z_iconst (v := (3 : Int32)) (pc := 585) C dL_act_585 (by decide) ?_
            refine z_newI (pc := 586) (n' := 3) C q_25 (by decide) (by decide) (by decide) (Nat.le_of_ble_eq_true rfl) (Nat.le_of_ble_eq_true rfl) dL_act_586 ?_
            refine z_dup (pc := 588) C dL_act_588 rfl ?_
            refine z_iconst (v := (0 : Int32)) (pc := 589) C dL_act_589 (by decide) ?_
            refine z_iload (k := 2) (pc := 590) C dL_act_590 rfl ?_
            obtain ⟨h_75, g75, hM⟩ := Option.bind_eq_some_iff.mp hM
            refine z_iast (pc := 592) C g75 dL_act_592 ?_
            refine z_dup (pc := 593) C dL_act_593 rfl ?_
            refine z_iconst (v := (1 : Int32)) (pc := 594) C dL_act_594 (by decide) ?_
            refine z_iload (k := 3) (pc := 595) C dL_act_595 rfl ?_
            obtain ⟨h_76, g76, hM⟩ := Option.bind_eq_some_iff.mp hM
            refine z_iast (pc := 597) C g76 dL_act_597 ?_
            refine z_dup (pc := 598) C dL_act_598 rfl ?_
            refine z_iconst (v := (2 : Int32)) (pc := 599) C dL_act_599 (by decide) ?_
            refine z_iconst (v := (0 : Int32)) (pc := 600) C dL_act_600 (by decide) ?_
            obtain ⟨h_77, g77, hM⟩ := Option.bind_eq_some_iff.mp hM
            refine z_iast (pc := 601) C g77 dL_act_601 ?_
            obtain ⟨r78, g78, hM⟩ := Option.bind_eq_some_iff.mp hM
            refine z_goN (kc := 2) (ks := 19) ([.ref r78.1, .ref a1]) (z_callS (pc := 602) (As := [.ref r74, .ref nx]) (rest := [.ref a1]) (n := 2) C (c_X5_with l hl G lo t0 h_77 (nx + 1) r74 nx r78 g78) q_94 q_95 q_71 q_96 ⟨by decide +kernel, by decide +kernel, by decide +kernel⟩ ⟨Nat.le_of_ble_eq_true rfl, Nat.le_of_ble_eq_true rfl⟩ rfl (Nat.le_of_ble_eq_true rfl) dL_act_602 ⟨(Nat.le_of_ble_eq_true rfl), (Nat.le_of_ble_eq_true rfl)⟩) rfl (Nat.le_of_ble_eq_true rfl) (Nat.le_of_ble_eq_true rfl) ?_
            obtain ⟨h_79, g79, hM⟩ := Option.bind_eq_some_iff.mp hM
            refine z_put (pc := 605) (k := 1) C g79 rfl inlX5 tyX5 tyX5_ok nmX5 (by decide) q_89 (fun _ h9 => h9) rfl (tyX5_ok 1 (by decide)) rfl rfl dL_act_605 ?_
            refine z_wide (kc := 2) (ks := 46) (Nat.le_of_ble_eq_true rfl) (Nat.le_of_ble_eq_true rfl) ?_
            exact z_sub [0, 1, 2, 3, 4] rfl (iJ73 h_79 r78.2.2 hM)
        · refine z_aload (k := 5) (pc := 534) C dL_act_534 rfl ?_
          refine z_iload (k := 7) (pc := 536) C dL_act_536 rfl ?_
          obtain ⟨r81, g81, hM⟩ := Option.bind_eq_some_iff.mp hM
          refine z_aaldD (pc := 538) C g81 dL_act_538 ?_
          refine z_astore (lv' := [(11, .ref r81), (0, .ref a0), (1, .ref a1), (5, .int r65), (6, .int r66), (7, .int x7_72), (8, .ref r70), (9, .int r71), (10, .int x10_72)]) (pc := 539) C dL_act_539 (by decide) rfl ?_
          refine z_iload (k := 5) (pc := 541) C dL_act_541 rfl ?_
          refine z_aload (k := 0) (pc := 543) C dL_act_543 rfl ?_
          refine z_iconst (v := (0 : Int32)) (pc := 545) C dL_act_545 (by decide) ?_
          obtain ⟨r82, g82, hM⟩ := Option.bind_eq_some_iff.mp hM
          refine z_iald (pc := 546) C g82 dL_act_546 ?_
          refine z_iload (k := 3) (pc := 547) C dL_act_547 rfl ?_
          refine zj2 0 0 566 (fun (s0_83 : Int32) (s1_83 : Int32) => [(0, .ref a0), (1, .ref a1), (5, .int r65), (6, .int r66), (8, .ref r70), (9, .int r71), (10, .int x10_72)]) (fun (s0_83 : Int32) (s1_83 : Int32) => [.int s1_83, .int s0_83]) (fun (s0_83 : Int32) (s1_83 : Int32) => h) (fun (s0_83 : Int32) (s1_83 : Int32) => nx) hM (fun s0_83 s1_83 hM => ?_) (fun J83 iJ83 hM => ?_)
          · refine z_iand (pc := 566) C dL_act_566 ?_
            refine z_istore (lv' := [(7, .int (s0_83 &&& s1_83)), (0, .ref a0), (1, .ref a1), (5, .int r65), (6, .int r66), (8, .ref r70), (9, .int r71), (10, .int x10_72)]) (pc := 567) C dL_act_567 (by decide) rfl ?_
            refine z_iinc (k := 7) (v := (x10_72 + (1 : Int32))) (lv' := [(10, .int (x10_72 + (1 : Int32))), (7, .int (s0_83 &&& s1_83)), (0, .ref a0), (1, .ref a1), (5, .int r65), (6, .int r66), (8, .ref r70), (9, .int r71)]) (pc := 569) C dL_act_569 rfl (by first | rfl | decide) (by decide) rfl ?_
            refine z_goto (pc := 572) (tgt := 527) C dL_act_572 (by decide) ?_
            exact z_sub [2, 3, 4, 5, 1, 6, 7, 0] rfl (irec72 (s0_83 &&& s1_83) (x10_72 + (1 : Int32)) hM)
          refine zj1 0 0 561 (fun (s0_84 : Int32) => [(0, .ref a0), (1, .ref a1), (5, .int r65), (6, .int r66), (8, .ref r70), (9, .int r71), (10, .int x10_72)]) (fun (s0_84 : Int32) => [.int s0_84]) (fun (s0_84 : Int32) => h) (fun (s0_84 : Int32) => nx) hM (fun s0_84 hM => ?_) (fun J84 iJ84 hM => ?_)
          · refine z_iconst (v := (1 : Int32)) (pc := 561) C dL_act_561 (by decide) ?_
            refine z_goto (pc := 562) (tgt := 566) C dL_act_562 (by decide) ?_
            exact z_sub [0, 1, 2, 3, 4, 5, 6] rfl (iJ83 s0_84 (1 : Int32) hM)
          refine z_icmp_ne (pc := 549) (tgt := 561) C dL_act_549 (by decide) hM (fun hc87 hM => ?_) (fun hc87 hM => ?_)
          · refine z_aload (k := 0) (pc := 552) C dL_act_552 rfl ?_
            refine z_iconst (v := (1 : Int32)) (pc := 554) C dL_act_554 (by decide) ?_
            obtain ⟨r85, g85, hM⟩ := Option.bind_eq_some_iff.mp hM
            refine z_iald (pc := 555) C g85 dL_act_555 ?_
            refine z_iload (k := 4) (pc := 556) C dL_act_556 rfl ?_
            refine z_icmp_eq (pc := 558) (tgt := 565) C dL_act_558 (by decide) hM (fun hc86 hM => ?_) (fun hc86 hM => ?_)
            · refine z_iconst (v := (0 : Int32)) (pc := 565) C dL_act_565 (by decide) ?_
              exact z_sub [1, 2, 3, 4, 6, 7, 8] rfl (iJ83 x7_72 (0 : Int32) hM)
            · exact z_sub [1, 2, 3, 4, 6, 7, 8] rfl (iJ84 x7_72 hM)
          · exact z_sub [1, 2, 3, 4, 6, 7, 8] rfl (iJ84 x7_72 hM)
      refine z_icmp_ge (pc := 503) (tgt := 510) C dL_act_503 (by decide) hM (fun hc89 hM => ?_) (fun hc89 hM => ?_)
      · refine z_iconst (v := (0 : Int32)) (pc := 510) C dL_act_510 (by decide) ?_
        exact z_sub [2, 3, 1, 0] rfl (iJ69 (0 : Int32) hM)
      · refine z_iconst (v := (1 : Int32)) (pc := 506) C dL_act_506 (by decide) ?_
        refine z_goto (pc := 507) (tgt := 511) C dL_act_507 (by decide) ?_
        exact z_sub [2, 3, 1, 0] rfl (iJ69 (1 : Int32) hM)
    refine z_sw hM (fun hc90 hM => ?_) (fun hc90 hM => ?_)
    · refine z_tableIn (pc := 29) (tgt := 84) C dL_act_29 (by rw [hc90]; decide) (by rw [hc90]; decide) (by rw [hc90]; rfl) (by decide) ?_
      exact z_sub [1, 2, 3, 4] rfl (iJ5 hM)
    refine z_sw hM (fun hc91 hM => ?_) (fun hc91 hM => ?_)
    · refine z_tableIn (pc := 29) (tgt := 84) C dL_act_29 (by rw [hc91]; decide) (by rw [hc91]; decide) (by rw [hc91]; rfl) (by decide) ?_
      exact z_sub [1, 2, 3, 4] rfl (iJ5 hM)
    refine z_sw hM (fun hc92 hM => ?_) (fun hc92 hM => ?_)
    · refine z_tableIn (pc := 29) (tgt := 84) C dL_act_29 (by rw [hc92]; decide) (by rw [hc92]; decide) (by rw [hc92]; rfl) (by decide) ?_
      exact z_sub [1, 2, 3, 4] rfl (iJ5 hM)
    refine z_sw hM (fun hc93 hM => ?_) (fun hc93 hM => ?_)
    · refine z_tableIn (pc := 29) (tgt := 84) C dL_act_29 (by rw [hc93]; decide) (by rw [hc93]; decide) (by rw [hc93]; rfl) (by decide) ?_
      exact z_sub [1, 2, 3, 4] rfl (iJ5 hM)
    refine z_sw hM (fun hc94 hM => ?_) (fun hc94 hM => ?_)
    · refine z_tableIn (pc := 29) (tgt := 277) C dL_act_29 (by rw [hc94]; decide) (by rw [hc94]; decide) (by rw [hc94]; rfl) (by decide) ?_
      refine z_iload_n (k := 4) (pc := 277) C dL_act_277 rfl ?_
      refine z_if_ne (pc := 278) (tgt := 283) C dL_act_278 (by decide) hM (fun hc109 hM => ?_) (fun hc109 hM => ?_)
      · refine z_iconst (v := (1 : Int32)) (pc := 281) C dL_act_281 (by decide) ?_
        cases hM
        exact z_rzret (pc := 282) C (Or.inr rfl) hR (Nat.zero_le _) (Nat.zero_le _) dL_act_282
      · refine z_aload_n (k := 2) (pc := 283) C dL_act_283 rfl ?_
        obtain ⟨r95, g95, hM⟩ := Option.bind_eq_some_iff.mp hM
        refine z_getR (pc := 284) (k := 0) C g95 rfl inlX5 (by decide) q_88 (fun _ h9 => h9) dL_act_284 ?_
        refine z_iload (k := 0) (pc := 287) C dL_act_287 rfl ?_
        obtain ⟨r96, g96, hM⟩ := Option.bind_eq_some_iff.mp hM
        refine z_aaldD (pc := 289) C g96 dL_act_289 ?_
        refine z_bipush (v := (6 : Int32)) (pc := 290) C dL_act_290 (by decide) ?_
        refine z_iconst (v := (1 : Int32)) (pc := 292) C dL_act_292 (by decide) ?_
        refine z_aload_n (k := 2) (pc := 293) C dL_act_293 rfl ?_
        obtain ⟨r97, g97, hM⟩ := Option.bind_eq_some_iff.mp hM
        refine z_getR (pc := 294) (k := 0) C g97 rfl inlX5 (by decide) q_88 (fun _ h9 => h9) dL_act_294 ?_
        refine z_iload (k := 0) (pc := 297) C dL_act_297 rfl ?_
        obtain ⟨r98, g98, hM⟩ := Option.bind_eq_some_iff.mp hM
        refine z_aaldD (pc := 299) C g98 dL_act_299 ?_
        refine z_bipush (v := (6 : Int32)) (pc := 300) C dL_act_300 (by decide) ?_
        obtain ⟨r99, g99, hM⟩ := Option.bind_eq_some_iff.mp hM
        refine z_iald (pc := 302) C g99 dL_act_302 ?_
        refine z_isub (pc := 303) C dL_act_303 ?_
        obtain ⟨h_100, g100, hM⟩ := Option.bind_eq_some_iff.mp hM
        refine z_iast (pc := 304) C g100 dL_act_304 ?_
        refine z_aload_n (k := 1) (pc := 305) C dL_act_305 rfl ?_
        refine z_iload (k := 0) (pc := 306) C dL_act_306 rfl ?_
        obtain ⟨_, g101, hM⟩ := Option.bind_eq_some_iff.mp hM
        obtain ⟨r102, g102, hM⟩ := z_tn_c hM
        refine z_goN (kc := 0) (ks := 0) ([.int r102.1]) (z_callV (pc := 308) (As := [.int s0_3]) (rest := []) (n := 1) (ci := 5) C (c_X4_roll l hl G lo t0 h_100 nx a0 s0_3 (.inr r102) g102) g101 rfl q_225 q_226 q_227 q_2 q_228 ⟨rfl, by decide +kernel, by decide +kernel, by decide +kernel⟩ ⟨Nat.le_of_ble_eq_true rfl, Nat.le_of_ble_eq_true rfl⟩ rfl (Nat.le_of_ble_eq_true rfl) dL_act_308 ⟨(Nat.zero_le _), (Nat.zero_le _)⟩) rfl (Nat.le_of_ble_eq_true rfl) (Nat.le_of_ble_eq_true rfl) ?_
        refine z_aload_n (k := 2) (pc := 311) C dL_act_311 rfl ?_
        obtain ⟨r103, g103, hM⟩ := Option.bind_eq_some_iff.mp hM
        refine z_getR (pc := 312) (k := 0) C g103 rfl inlX5 (by decide) q_88 (fun _ h9 => h9) dL_act_312 ?_
        refine z_iload (k := 0) (pc := 315) C dL_act_315 rfl ?_
        obtain ⟨r104, g104, hM⟩ := Option.bind_eq_some_iff.mp hM
        refine z_aaldD (pc := 317) C g104 dL_act_317 ?_
        refine z_bipush (v := (6 : Int32)) (pc := 318) C dL_act_318 (by decide) ?_
        obtain ⟨r105, g105, hM⟩ := Option.bind_eq_some_iff.mp hM
        refine z_iald (pc := 320) C g105 dL_act_320 ?_
        refine z_iconst (v := (1 : Int32)) (pc := 321) C dL_act_321 (by decide) ?_
        refine zj2 0 0 330 (fun (s0_106 : Int32) (s1_106 : Int32) => []) (fun (s0_106 : Int32) (s1_106 : Int32) => [.int s1_106, .int s0_106]) (fun (s0_106 : Int32) (s1_106 : Int32) => r102.2) (fun (s0_106 : Int32) (s1_106 : Int32) => nx) hM (fun s0_106 s1_106 hM => ?_) (fun J106 iJ106 hM => ?_)
        · refine z_icmp_ne (pc := 330) (tgt := 337) C dL_act_330 (by decide) hM (fun hc107 hM => ?_) (fun hc107 hM => ?_)
          · refine z_iconst (v := (1 : Int32)) (pc := 333) C dL_act_333 (by decide) ?_
            refine z_goto (pc := 334) (tgt := 338) C dL_act_334 (by decide) ?_
            cases hM
            exact z_rzret (pc := 338) C (Or.inr rfl) hR (Nat.zero_le _) (Nat.zero_le _) dL_act_338
          · refine z_iconst (v := (0 : Int32)) (pc := 337) C dL_act_337 (by decide) ?_
            cases hM
            exact z_rzret (pc := 338) C (Or.inl rfl) hR (Nat.zero_le _) (Nat.zero_le _) dL_act_338
        refine z_icmp_ne (pc := 322) (tgt := 329) C dL_act_322 (by decide) hM (fun hc108 hM => ?_) (fun hc108 hM => ?_)
        · refine z_iconst (v := (1 : Int32)) (pc := 325) C dL_act_325 (by decide) ?_
          refine z_goto (pc := 326) (tgt := 330) C dL_act_326 (by decide) ?_
          exact z_sub [] rfl (iJ106 r102.1 (1 : Int32) hM)
        · refine z_iconst (v := (0 : Int32)) (pc := 329) C dL_act_329 (by decide) ?_
          exact z_sub [] rfl (iJ106 r102.1 (0 : Int32) hM)
    refine z_sw hM (fun hc110 hM => ?_) (fun hc110 hM => ?_)
    · refine z_tableIn (pc := 29) (tgt := 339) C dL_act_29 (by rw [hc110]; decide) (by rw [hc110]; decide) (by rw [hc110]; rfl) (by decide) ?_
      exact z_sub [1, 2, 3, 4, 0] rfl (iJ37 hM)
    refine z_sw hM (fun hc111 hM => ?_) (fun hc111 hM => ?_)
    · refine z_tableIn (pc := 29) (tgt := 339) C dL_act_29 (by rw [hc111]; decide) (by rw [hc111]; decide) (by rw [hc111]; rfl) (by decide) ?_
      exact z_sub [1, 2, 3, 4, 0] rfl (iJ37 hM)
    refine z_sw hM (fun hc112 hM => ?_) (fun hc112 hM => ?_)
    · refine z_tableIn (pc := 29) (tgt := 437) C dL_act_29 (by rw [hc112]; decide) (by rw [hc112]; decide) (by rw [hc112]; rfl) (by decide) ?_
      refine z_iload_n (k := 4) (pc := 437) C dL_act_437 rfl ?_
      refine z_iconst (v := (3 : Int32)) (pc := 438) C dL_act_438 (by decide) ?_
      refine z_icmp_ge (pc := 439) (tgt := 444) C dL_act_439 (by decide) hM (fun hc119 hM => ?_) (fun hc119 hM => ?_)
      · refine z_aload_n (k := 2) (pc := 444) C dL_act_444 rfl ?_
        refine z_aload_n (k := 2) (pc := 445) C dL_act_445 rfl ?_
        obtain ⟨r113, g113, hM⟩ := Option.bind_eq_some_iff.mp hM
        refine z_getR (pc := 446) (k := 0) C g113 rfl inlX5 (by decide) q_88 (fun _ h9 => h9) dL_act_446 ?_
        refine z_iload (k := 0) (pc := 449) C dL_act_449 rfl ?_
        obtain ⟨r114, g114, hM⟩ := Option.bind_eq_some_iff.mp hM
        refine z_goN (kc := 1) (ks := 16) ([.ref r114.1, .ref a1]) (z_callS (pc := 451) (As := [.ref r113, .int s0_3]) (rest := [.ref a1]) (n := 2) C (c_X5_without l hl G lo t0 h nx r113 s0_3 r114 g114) q_268 q_269 q_71 q_270 ⟨by decide +kernel, by decide +kernel, by decide +kernel⟩ ⟨Nat.le_of_ble_eq_true rfl, Nat.le_of_ble_eq_true rfl⟩ rfl (Nat.le_of_ble_eq_true rfl) dL_act_451 ⟨(Nat.le_of_ble_eq_true rfl), (Nat.le_of_ble_eq_true rfl)⟩) rfl (Nat.le_of_ble_eq_true rfl) (Nat.le_of_ble_eq_true rfl) ?_
        obtain ⟨h_115, g115, hM⟩ := Option.bind_eq_some_iff.mp hM
        refine z_put (pc := 454) (k := 0) C g115 rfl inlX5 tyX5 tyX5_ok nmX5 (by decide) q_88 (fun _ h9 => h9) rfl (tyX5_ok 0 (by decide)) rfl rfl dL_act_454 ?_
        refine z_aload_n (k := 1) (pc := 457) C dL_act_457 rfl ?_
        refine z_iload (k := 0) (pc := 458) C dL_act_458 rfl ?_
        obtain ⟨_, g116, hM⟩ := Option.bind_eq_some_iff.mp hM
        obtain ⟨r117, g117, hM⟩ := z_tn_c hM
        refine z_goN (kc := 1) (ks := 16) ([.int r117.1]) (z_callV (pc := 460) (As := [.int s0_3]) (rest := []) (n := 1) (ci := 5) C (c_X4_take l hl G lo t0 h_115 r114.2.2 a0 s0_3 (.inr r117) g117) g116 rfl q_271 q_272 q_273 q_2 q_274 ⟨rfl, by decide +kernel, by decide +kernel, by decide +kernel⟩ ⟨Nat.le_of_ble_eq_true rfl, Nat.le_of_ble_eq_true rfl⟩ rfl (Nat.le_of_ble_eq_true rfl) dL_act_460 ⟨(Nat.le_of_ble_eq_true rfl), (Nat.le_of_ble_eq_true rfl)⟩) rfl (Nat.le_of_ble_eq_true rfl) (Nat.le_of_ble_eq_true rfl) ?_
        refine z_iload_n (k := 4) (pc := 463) C dL_act_463 rfl ?_
        refine z_iconst (v := (1 : Int32)) (pc := 464) C dL_act_464 (by decide) ?_
        refine z_isub (pc := 465) C dL_act_465 ?_
        refine z_icmp_ne (pc := 466) (tgt := 473) C dL_act_466 (by decide) hM (fun hc118 hM => ?_) (fun hc118 hM => ?_)
        · refine z_iconst (v := (1 : Int32)) (pc := 469) C dL_act_469 (by decide) ?_
          refine z_goto (pc := 470) (tgt := 474) C dL_act_470 (by decide) ?_
          cases hM
          exact z_rzret (pc := 474) C (Or.inr rfl) hR (Nat.le_of_ble_eq_true rfl) (Nat.le_of_ble_eq_true rfl) dL_act_474
        · refine z_iconst (v := (0 : Int32)) (pc := 473) C dL_act_473 (by decide) ?_
          cases hM
          exact z_rzret (pc := 474) C (Or.inl rfl) hR (Nat.le_of_ble_eq_true rfl) (Nat.le_of_ble_eq_true rfl) dL_act_474
      · refine z_iconst (v := (1 : Int32)) (pc := 442) C dL_act_442 (by decide) ?_
        cases hM
        exact z_rzret (pc := 443) C (Or.inr rfl) hR (Nat.zero_le _) (Nat.zero_le _) dL_act_443
    refine z_sw hM (fun hc120 hM => ?_) (fun hc120 hM => ?_)
    · refine z_tableIn (pc := 29) (tgt := 475) C dL_act_29 (by rw [hc120]; decide) (by rw [hc120]; decide) (by rw [hc120]; rfl) (by decide) ?_
      exact z_sub [1, 2, 3] rfl (iJ64 hM)
    refine z_sw hM (fun hc121 hM => ?_) (fun hc121 hM => ?_)
    · refine z_tableIn (pc := 29) (tgt := 475) C dL_act_29 (by rw [hc121]; decide) (by rw [hc121]; decide) (by rw [hc121]; rfl) (by decide) ?_
      exact z_sub [1, 2, 3] rfl (iJ64 hM)
    refine z_tableD (pc := 29) (tgt := 650) C dL_act_29 (fun k h1 h2 hk => ?_) (by decide) ?_
    · rcases (show k = 0 ∨ k = 1 ∨ k = 2 ∨ k = 3 ∨ k = 4 ∨ k = 5 ∨ k = 6 ∨ k = 7 ∨ k = 8 ∨ k = 9 by omega) with rfl | rfl | rfl | rfl | rfl | rfl | rfl | rfl | rfl | rfl
      · exact absurd (Int32.toInt_inj.mp (hk.trans (by decide))) hc90
      · exact absurd (Int32.toInt_inj.mp (hk.trans (by decide))) hc91
      · exact absurd (Int32.toInt_inj.mp (hk.trans (by decide))) hc92
      · exact absurd (Int32.toInt_inj.mp (hk.trans (by decide))) hc93
      · exact absurd (Int32.toInt_inj.mp (hk.trans (by decide))) hc94
      · exact absurd (Int32.toInt_inj.mp (hk.trans (by decide))) hc110
      · exact absurd (Int32.toInt_inj.mp (hk.trans (by decide))) hc111
      · exact absurd (Int32.toInt_inj.mp (hk.trans (by decide))) hc112
      · exact absurd (Int32.toInt_inj.mp (hk.trans (by decide))) hc120
      · exact absurd (Int32.toInt_inj.mp (hk.trans (by decide))) hc121
    refine z_iconst (v := (1 : Int32)) (pc := 650) C dL_act_650 (by decide) ?_
    refine z_iload_n (k := 3) (pc := 651) C dL_act_651 rfl ?_
    refine z_iconst (v := (4 : Int32)) (pc := 652) C dL_act_652 (by decide) ?_
    refine z_ishr (pc := 653) C dL_act_653 ?_
    refine z_bipush (v := (20 : Int32)) (pc := 654) C dL_act_654 (by decide) ?_
    obtain ⟨r122, g122, hM⟩ := Option.bind_eq_some_iff.mp hM
    refine z_goN (kc := 0) (ks := 0) ([.int r122, .int (1 : Int32)]) (z_callS (pc := 656) (As := [.int (x2 >>> ((4 : Int32) &&& 31)), .int (20 : Int32)]) (rest := [.int (1 : Int32)]) (n := 2) C (c_L_below l hl G lo t0 h nx (x2 >>> ((4 : Int32) &&& 31)) (20 : Int32) r122 g122) q_90 q_91 q_67 q_92 ⟨by decide +kernel, by decide +kernel, by decide +kernel⟩ ⟨Nat.le_of_ble_eq_true rfl, Nat.le_of_ble_eq_true rfl⟩ rfl (Nat.le_of_ble_eq_true rfl) dL_act_656 ⟨(Nat.zero_le _), (Nat.zero_le _)⟩) rfl (Nat.le_of_ble_eq_true rfl) (Nat.le_of_ble_eq_true rfl) ?_
    refine z_iadd (pc := 659) C dL_act_659 ?_
    refine z_istore (lv' := [(5, .int ((1 : Int32) + r122)), (4, .int s0_3), (0, .ref a0), (1, .ref a1), (2, .int x2), (3, .int r2)]) (pc := 660) C dL_act_660 (by decide) rfl ?_
    refine z_aload_n (k := 2) (pc := 662) C dL_act_662 rfl ?_
    refine z_iload (k := 0) (pc := 663) C dL_act_663 rfl ?_
    obtain ⟨_, g123, hM⟩ := Option.bind_eq_some_iff.mp hM
    obtain ⟨r124, g124, hM⟩ := z_tn_c hM
    refine z_goN (kc := 0) (ks := 0) ([.int r124.1]) (z_callV (pc := 665) (As := [.int ((1 : Int32) + r122)]) (rest := []) (n := 1) (ci := 5) C (c_X4_rain l hl G lo t0 h nx a0 ((1 : Int32) + r122) (.inr r124) g124) g123 rfl q_320 q_321 q_322 q_2 q_323 ⟨rfl, by decide +kernel, by decide +kernel, by decide +kernel⟩ ⟨Nat.le_of_ble_eq_true rfl, Nat.le_of_ble_eq_true rfl⟩ rfl (Nat.le_of_ble_eq_true rfl) dL_act_665 ⟨(Nat.zero_le _), (Nat.zero_le _)⟩) rfl (Nat.le_of_ble_eq_true rfl) (Nat.le_of_ble_eq_true rfl) ?_
    refine z_aload_n (k := 3) (pc := 668) C dL_act_668 rfl ?_
    refine z_iload (k := 0) (pc := 669) C dL_act_669 rfl ?_
    obtain ⟨_, g125, hM⟩ := Option.bind_eq_some_iff.mp hM
    obtain ⟨r126, g126, hM⟩ := Option.bind_eq_some_iff.mp hM
    refine z_goN (kc := 27) (ks := 641) ([.int r126.1, .int r124.1]) (z_callV (pc := 671) (As := [.int ((1 : Int32) + r122)]) (rest := [.int r124.1]) (n := 1) (ci := 6) C (c_X5_rain l hl G lo t0 r124.2 nx a1 ((1 : Int32) + r122) r126 g126) g125 rfl q_389 q_390 q_391 q_71 q_392 ⟨rfl, by decide +kernel, by decide +kernel, by decide +kernel⟩ ⟨Nat.le_of_ble_eq_true rfl, Nat.le_of_ble_eq_true rfl⟩ rfl (Nat.le_of_ble_eq_true rfl) dL_act_671 ⟨(Nat.le_of_ble_eq_true rfl), (Nat.le_of_ble_eq_true rfl)⟩) rfl (Nat.le_of_ble_eq_true rfl) (Nat.le_of_ble_eq_true rfl) ?_
    refine z_icmp_ne (pc := 674) (tgt := 681) C dL_act_674 (by decide) hM (fun hc127 hM => ?_) (fun hc127 hM => ?_)
    · refine z_iconst (v := (1 : Int32)) (pc := 677) C dL_act_677 (by decide) ?_
      refine z_goto (pc := 678) (tgt := 682) C dL_act_678 (by decide) ?_
      cases hM
      exact z_rzret (pc := 682) C (Or.inr rfl) hR (Nat.le_of_ble_eq_true rfl) (Nat.le_of_ble_eq_true rfl) dL_act_682
    · refine z_iconst (v := (0 : Int32)) (pc := 681) C dL_act_681 (by decide) ?_
      cases hM
      exact z_rzret (pc := 682) C (Or.inl rfl) hR (Nat.le_of_ble_eq_true rfl) (Nat.le_of_ble_eq_true rfl) dL_act_682
  refine z_if_ne (pc := 7) (tgt := 14) C dL_act_7 (by decide) hM (fun hc129 hM => ?_) (fun hc129 hM => ?_)
  · refine z_iconst (v := (0 : Int32)) (pc := 10) C dL_act_10 (by decide) ?_
    refine z_goto (pc := 11) (tgt := 21) C dL_act_11 (by decide) ?_
    exact z_sub [1, 2, 3, 0] rfl (iJ3 (0 : Int32) hM)
  · refine z_iload_n (k := 3) (pc := 14) C dL_act_14 rfl ?_
    refine z_iconst (v := (3 : Int32)) (pc := 15) C dL_act_15 (by decide) ?_
    refine z_ishr (pc := 16) C dL_act_16 ?_
    refine z_iload_n (k := 0) (pc := 17) C dL_act_17 rfl ?_
    obtain ⟨r128, g128, hM⟩ := Option.bind_eq_some_iff.mp hM
    refine z_goN (kc := 0) (ks := 0) ([.int r128]) (z_callS (pc := 18) (As := [.int (x2 >>> ((3 : Int32) &&& 31)), .int r2]) (rest := []) (n := 2) C (c_L_below l hl G lo t0 h nx (x2 >>> ((3 : Int32) &&& 31)) r2 r128 g128) q_90 q_91 q_67 q_92 ⟨by decide +kernel, by decide +kernel, by decide +kernel⟩ ⟨Nat.le_of_ble_eq_true rfl, Nat.le_of_ble_eq_true rfl⟩ rfl (Nat.le_of_ble_eq_true rfl) dL_act_18 ⟨(Nat.zero_le _), (Nat.zero_le _)⟩) rfl (Nat.le_of_ble_eq_true rfl) (Nat.le_of_ble_eq_true rfl) ?_
    exact z_sub [1, 2, 3, 0] rfl (iJ3 r128 hM)
