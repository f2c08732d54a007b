/-! by program (wip/p20/seg.py): a turn of the law behind its act -/
noncomputable def M_turn {Om : Type} (T0 : zH → Nat → Nat → Nat → Nat → Int32 → Int32 → Option Om) (h : zH) (nx t0 : Nat) (a0 : Nat) (a1 : Nat) (a2 : Nat) (x3 : Int32) (x4 : Int32) (x5 : Int32) : Option Om := (z_ck h a1 5).bind fun _ => (M_X4_digest h a1).bind fun r2 => (z_ck r2.2 a1 5).bind fun _ => z_tn (M_X4_count r2.2 a1 (3 : Int32)) fun r4 => (z_ck r4.2 a1 5).bind fun _ => z_tn (M_X4_count r4.2 a1 (0 : Int32)) fun r6 => wl3 (fun rec7 (x9_7 : Int32) (x14_7 : Int32) (h_7 : zH) => (if (24 : Int32) ≤ x14_7 then wl4 (fun rec8 (x10_8 : Int32) (x11_8 : Int32) (x12_8 : Int32) (x14_8 : Int32) => (if r6.1 ≤ x14_8 then (if x9_7 = r4.1 then (if x11_8 < r4.1 then none else (if r4.1 < x12_8 then none else (if (576 : Int32) < r4.1 then none else (z_ck h_7 a1 5).bind fun _ => z_tn (M_X4_count h_7 a1 (6 : Int32)) fun r10 => (if (x10_8 + r10.1) = r4.1 then (z_ck r10.2 a1 5).bind fun _ => z_tn (M_X4_count r10.2 a1 (4 : Int32)) fun r12 => (if (r12.1 - r12.1 / (2 : Int32) * (2 : Int32)) = 0 then (if ((4 : Int32) * r4.1) < r12.1 then none else (if (r12.1 * r12.1) < ((16 : Int32) * r4.1) then none else (z_ck r12.2 a1 5).bind fun _ => z_tn (M_X4_count r12.2 a1 (5 : Int32)) fun r14 => (if r4.1 < r14.1 then none else (z_ck r14.2 a1 5).bind fun _ => z_tn (M_X4_count r14.2 a1 (5 : Int32)) fun r16 => jn1 (fun (s0_17 : Int32) => jn2 (fun (s0_18 : Int32) (s1_18 : Int32) => (if s0_18 = s1_18 then wl2 (fun rec19 (x15_19 : Int32) (h_19 : zH) => (z_ck h_19 a1 5).bind fun _ => z_tn (M_X4_count h_19 a1 (2 : Int32)) fun r21 => (if r21.1 ≤ x15_19 then (z_ck r21.2 a1 5).bind fun _ => (M_X4_advise r21.2 a1).bind fun r23 => jn1 (fun (s0_24 : Int32) => z_tn (M_X4_count r21.2 a1 (1 : Int32)) fun r25 => jn2 (fun (s0_26 : Int32) (s1_26 : Int32) => (if s0_26 = s1_26 then (z_ck r25.2 a1 5).bind fun _ => (M_X4_digest r25.2 a1).bind fun r28 => (if (lg_cmp r28.1 r2.1) = 0 then jn1 (fun (h_29 : zH) => (M_L_below (x5 >>> ((5 : Int32) &&& 31)) (20 : Int32)).bind fun r30 => (z_ck h_29 a1 5).bind fun _ => z_tn (M_X4_rain h_29 a1 ((1 : Int32) + r30)) fun r32 => (z_ck r32.2 a2 6).bind fun _ => (M_X5_rain r32.2 nx a2 ((1 : Int32) + r30)).bind fun r34 => (if r34.1 = r32.1 then (if r32.1 < 0 then none else (if ((576 : Int32) * ((1 : Int32) + r30)) < r32.1 then none else (z_ck r34.2.1 a1 5).bind fun _ => z_tn (M_X4_count r34.2.1 a1 (8 : Int32)) fun r36 => (z_ck r36.2 a1 5).bind fun _ => z_tn (M_X4_count r36.2 a1 (9 : Int32)) fun r38 => (if (r36.1 + r38.1) ≤ x3 then none else (z_ck r38.2 a1 5).bind fun _ => z_tn (M_X4_count r38.2 a1 (8 : Int32)) fun r40 => (z_ck r40.2 a1 5).bind fun _ => z_tn (M_X4_count r40.2 a1 (9 : Int32)) fun r42 => (if ((r40.1 + r42.1) - (r40.1 + r42.1) / (576 : Int32) * (576 : Int32)) = 0 then (z_ck r42.2 a1 5).bind fun _ => z_tn (M_X4_count r42.2 a1 (8 : Int32)) fun r44 => (z_ck r44.2 a1 5).bind fun _ => z_tn (M_X4_count r44.2 a1 (9 : Int32)) fun r46 => (T0 r46.2 r34.2.2 a0 a1 a2 (r44.1 + r46.1) x4) else none)))) else none)) fun J29 => (if r23 < 0 then (J29 r28.2) else (z_ck r28.2 a1 5).bind fun _ => z_tn (M_X4_about r28.2 a1 r23 (7 : Int32)) fun r53 => wl1 (fun rec54 (x17_54 : Int32) => (if r6.1 ≤ x17_54 then z_tn (M_X4_roll r28.2 a1 r23) fun r55 => (if r55.1 = 0 then (z_ck r55.2 a1 5).bind fun _ => z_tn (M_X4_count r55.2 a1 (3 : Int32)) fun r57 => (if r57.1 = (r4.1 - r53) then (z_ck r57.2 a1 5).bind fun _ => z_tn (M_X4_roll r57.2 a1 r23) fun r59 => (if r59.1 = 0 then none else (z_ck r59.2 a1 5).bind fun _ => (M_X4_digest r59.2 a1).bind fun r61 => (if (lg_cmp r61.1 r2.1) = 0 then (J29 r61.2) else none)) else none) else none) else z_tn (M_X4_about r28.2 a1 x17_54 (6 : Int32)) fun r66 => jn0 ((rec54 (x17_54 + (1 : Int32)))) fun J67 => (if r66 = (1 : Int32) then z_tn (M_X4_about r28.2 a1 x17_54 (7 : Int32)) fun r68 => (if r53 ≤ r68 then J67 else none) else J67))) 700 (0 : Int32)) else none) else none)) fun J26 => (if r25.1 = 0 then (J26 s0_24 (1 : Int32)) else (J26 s0_24 (0 : Int32)))) fun J24 => (if 0 ≤ r23 then (J24 (0 : Int32)) else (J24 (1 : Int32))) else (z_ck r21.2 a1 5).bind fun _ => z_tn (M_X4_told r21.2 a1 x15_19 (2 : Int32)) fun r78 => z_tn (M_X4_told r21.2 a1 x15_19 (0 : Int32)) fun r79 => z_tn (M_X4_told r21.2 a1 x15_19 (1 : Int32)) fun r80 => z_tn (M_X4_cell r21.2 a1 r79 r80 (2 : Int32)) fun r81 => (if r81 < r78 then none else z_tn (M_X4_told r21.2 a1 x15_19 (2 : Int32)) fun r82 => (if 0 ≤ r82 then (rec19 (x15_19 + (1 : Int32)) r21.2) else none)))) 700 (0 : Int32) r16.2 else none)) fun J18 => (if r4.1 = 0 then (J18 s0_17 (1 : Int32)) else (J18 s0_17 (0 : Int32)))) fun J17 => (if r16.1 = 0 then (J17 (1 : Int32)) else (J17 (0 : Int32)))))) else none) else none)))) else none) else (z_ck h_7 a1 5).bind fun _ => z_tn (M_X4_about h_7 a1 x14_8 (6 : Int32)) fun r99 => jn1 (fun (s0_100 : Int32) => z_tn (M_X4_about h_7 a1 x14_8 (7 : Int32)) fun r101 => (M_L_below (x5 >>> ((2 : Int32) &&& 31)) r6.1).bind fun r102 => z_tn (M_X4_about h_7 a1 x14_8 (7 : Int32)) fun r103 => (if s0_100 < r103 then none else z_tn (M_X4_share h_7 a1 x14_8 x14_8) fun r104 => (if r104 = s0_100 then z_tn (M_X4_share h_7 a1 x14_8 r102) fun r105 => z_tn (M_X4_share h_7 a1 r102 x14_8) fun r106 => (if r105 = r106 then z_tn (M_X4_share h_7 a1 x14_8 r102) fun r107 => (if r107 ≤ s0_100 then (rec8 (x10_8 + r101) (x11_8 + s0_100) (if x12_8 < s0_100 then s0_100 else x12_8) (x14_8 + (1 : Int32))) else none) else none) else none))) fun J100 => (if r99 = (1 : Int32) then z_tn (M_X4_about h_7 a1 x14_8 (2 : Int32)) fun r112 => z_tn (M_X4_about h_7 a1 x14_8 (3 : Int32)) fun r113 => (J100 (r112 * r113)) else (J100 (0 : Int32))))) 700 (0 : Int32) (0 : Int32) (0 : Int32) (0 : Int32) else (z_ck h_7 a1 5).bind fun _ => z_tn (M_X4_cord h_7 a1 x14_7 (0 : Int32)) fun r117 => z_tn (M_X4_cord h_7 a1 x14_7 (2 : Int32)) fun r118 => z_tn (M_X4_cord h_7 a1 x14_7 (0 : Int32)) fun r119 => (if r119 < r118 then none else z_tn (M_X4_cord h_7 a1 x14_7 (1 : Int32)) fun r120 => z_tn (M_X4_cord h_7 a1 x14_7 (0 : Int32)) fun r121 => (if r121 < r120 then none else z_tn (M_X4_cord h_7 a1 x14_7 (0 : Int32)) fun r122 => jn1 (fun (s0_123 : Int32) => z_tn (M_X4_cord h_7 a1 x14_7 (3 : Int32)) fun r124 => jn2 (fun (s0_125 : Int32) (s1_125 : Int32) => (if s0_125 = s1_125 then z_tn (M_X4_cord h_7 a1 x14_7 (1 : Int32)) fun r126 => z_tn (M_X4_cord h_7 a1 x14_7 (2 : Int32)) fun r127 => z_tn (M_X4_cord h_7 a1 x14_7 (0 : Int32)) fun r128 => (if r128 ≤ (r126 * r127) then (M_L_below (x5 >>> ((3 : Int32) &&& 31)) (24 : Int32)).bind fun r129 => z_tn (M_X4_cell h_7 a1 x14_7 r129 (1 : Int32)) fun r130 => jn1 (fun (s0_131 : Int32) => z_tn (M_X4_cell h_7 a1 x14_7 r129 (0 : Int32)) fun r132 => jn2 (fun (s0_133 : Int32) (s1_133 : Int32) => (if s0_133 = s1_133 then (if r6.1 ≤ r130 then none else z_tn (M_X4_cell h_7 a1 x14_7 r129 (0 : Int32)) fun r134 => z_tn (M_X4_count h_7 a1 (1 : Int32)) fun r135 => (if r134 ≤ r135.1 then wl1 (fun rec136 (x17_136 : Int32) => (if r6.1 ≤ x17_136 then (rec7 (x9_7 + r117) (x14_7 + (1 : Int32)) r135.2) else (z_ck r135.2 a1 5).bind fun _ => z_tn (M_X4_about r135.2 a1 x17_136 (6 : Int32)) fun r138 => jn1 (fun (s0_139 : Int32) => jn0 (jn0 ((rec136 (x17_136 + (1 : Int32)))) fun J141 => (if s0_139 = 0 then J141 else z_tn (M_X4_about r135.2 a1 x17_136 (4 : Int32)) fun r142 => z_tn (M_X4_about r135.2 a1 r130 (4 : Int32)) fun r143 => (if r143 < r142 then none else z_tn (M_X4_about r135.2 a1 x17_136 (4 : Int32)) fun r144 => z_tn (M_X4_about r135.2 a1 r130 (4 : Int32)) fun r145 => (if r144 = r145 then (if r130 ≤ x17_136 then J141 else none) else J141)))) fun J140 => (if x17_136 = r130 then (if s0_139 = 0 then none else J140) else J140)) fun J139 => jn0 ((J139 (0 : Int32))) fun J152 => (if r138 = (1 : Int32) then z_tn (M_X4_about r135.2 a1 x17_136 (0 : Int32)) fun r153 => (if x14_7 < r153 then J152 else z_tn (M_X4_about r135.2 a1 x17_136 (0 : Int32)) fun r154 => z_tn (M_X4_about r135.2 a1 x17_136 (2 : Int32)) fun r155 => (if (r154 + r155) ≤ x14_7 then J152 else z_tn (M_X4_about r135.2 a1 x17_136 (1 : Int32)) fun r156 => (if r129 < r156 then J152 else z_tn (M_X4_about r135.2 a1 x17_136 (1 : Int32)) fun r157 => z_tn (M_X4_about r135.2 a1 x17_136 (3 : Int32)) fun r158 => (if (r157 + r158) ≤ r129 then J152 else (J139 (1 : Int32)))))) else J152))) 700 (0 : Int32) else none)) else none)) fun J133 => (if r132 = 0 then (J133 s0_131 (1 : Int32)) else (J133 s0_131 (0 : Int32)))) fun J131 => (if 0 ≤ r130 then (J131 (0 : Int32)) else (J131 (1 : Int32))) else none) else none)) fun J125 => (if r124 ≤ 0 then (J125 s0_123 (0 : Int32)) else (J125 s0_123 (1 : Int32)))) fun J123 => (if r122 ≤ 0 then (J123 (0 : Int32)) else (J123 (1 : Int32))))))) 700 (0 : Int32) (0 : Int32) r6.2
set_option maxHeartbeats 8000000 in
set_option maxRecDepth 100000 in
theorem w_turn {p : Program} {l : Launch} (hl : l.stackTraces = false) {e : Env} {s : State} {m : MethodId} {below : List Frame} {meth : Method} {c : Code} {G : zG} {lo t0 : Nat} {args : Array Value} {Q : State → Prop} {cells slots : Nat} {Om : Type} (h : zH) (nx : Nat) (a0 : Nat) (a1 : Nat) (a2 : Nat) (x3 : Int32) (x4 : Int32) (x5 : Int32) (T0 : zH → Nat → Nat → Nat → Nat → Int32 → Int32 → Option Om) (o : Om) (C : z_Cx p l s m args meth c cL_law 19 RL (some .boolean) G lo t0) (hcb : cells + 27 ≤ room_1.cells) (hsb : slots + 641 ≤ room_1.slots) (K0 : ∀ (h1 : zH) (n1 : Nat) (b0 : Nat) (b1 : Nat) (b2 : Nat) (y3 : Int32) (y4 : Int32), T0 h1 n1 b0 b1 b2 y3 y4 = some o → z_R p l e room_1 s m args below meth c G lo 19 (cells + 27) (slots + 641) Q 1049 [(0, .ref b0), (1, .ref b1), (2, .ref b2), (3, .int y3), (4, .int y4)] [] h1 n1) (hM : M_turn T0 h nx t0 a0 a1 a2 x3 x4 x5 = some o) : z_R p l e room_1 s m args below meth c G lo 19 (cells + 0) (slots + 0) Q 84 [(0, .ref a0), (1, .ref a1), (2, .ref a2), (3, .int x3), (4, .int x4), (5, .int x5)] [] h nx := by
  unfold M_turn at hM
  refine z_aload_n (k := 1) (pc := 84) C dL_law_84 rfl ?_
  obtain ⟨_, g1, hM⟩ := Option.bind_eq_some_iff.mp hM
  obtain ⟨r2, g2, hM⟩ := Option.bind_eq_some_iff.mp hM
  refine z_goN (kc := (cells + 0)) (ks := (slots + 0)) ([.long r2.1]) (z_callV (pc := 85) (As := []) (rest := []) (n := 0) (ci := 5) C (c_X4_digest l hl G lo t0 h nx a1 r2 g2) g1 rfl q_448 q_449 q_450 q_2 q_451 ⟨rfl, by decide +kernel, by decide +kernel, by decide +kernel⟩ ⟨Nat.le_of_ble_eq_true rfl, Nat.le_of_ble_eq_true rfl⟩ rfl (Nat.le_of_ble_eq_true rfl) dL_law_85 ⟨(zk3 hcb (Nat.le_of_ble_eq_true rfl)), (zk3 hsb (Nat.le_of_ble_eq_true rfl))⟩) rfl (zk2 (Nat.le_of_ble_eq_true rfl)) (zk2 (Nat.le_of_ble_eq_true rfl)) ?_
  refine z_lstore (lv' := [(6, .long r2.1), (0, .ref a0), (1, .ref a1), (2, .ref a2), (3, .int x3), (4, .int x4), (5, .int x5)]) (pc := 88) C dL_law_88 (by decide) rfl ?_
  refine z_aload_n (k := 2) (pc := 90) C dL_law_90 rfl ?_
  refine z_iconst (v := (3 : Int32)) (pc := 91) C dL_law_91 (by decide) ?_
  obtain ⟨_, g3, hM⟩ := Option.bind_eq_some_iff.mp hM
  obtain ⟨r4, g4, hM⟩ := z_tn_c hM
  refine z_goN (kc := (cells + 0)) (ks := (slots + 0)) ([.int r4.1]) (z_callV (pc := 92) (As := [.int (3 : Int32)]) (rest := []) (n := 1) (ci := 5) C (c_X4_count l hl G lo t0 r2.2 nx a1 (3 : Int32) (.inr r4) g4) g3 rfl q_403 q_404 q_405 q_2 q_406 ⟨rfl, by decide +kernel, by decide +kernel, by decide +kernel⟩ ⟨Nat.le_of_ble_eq_true rfl, Nat.le_of_ble_eq_true rfl⟩ rfl (Nat.le_of_ble_eq_true rfl) dL_law_92 ⟨(zk3 hcb (Nat.le_of_ble_eq_true rfl)), (zk3 hsb (Nat.le_of_ble_eq_true rfl))⟩) rfl (zk2 (Nat.le_of_ble_eq_true rfl)) (zk2 (Nat.le_of_ble_eq_true rfl)) ?_
  refine z_istore (lv' := [(8, .int r4.1), (6, .long r2.1), (0, .ref a0), (1, .ref a1), (2, .ref a2), (3, .int x3), (4, .int x4), (5, .int x5)]) (pc := 95) C dL_law_95 (by decide) rfl ?_
  refine z_iconst (v := (0 : Int32)) (pc := 97) C dL_law_97 (by decide) ?_
  refine z_istore (lv' := [(9, .int (0 : Int32)), (8, .int r4.1), (6, .long r2.1), (0, .ref a0), (1, .ref a1), (2, .ref a2), (3, .int x3), (4, .int x4), (5, .int x5)]) (pc := 98) C dL_law_98 (by decide) rfl ?_
  refine z_iconst (v := (0 : Int32)) (pc := 100) C dL_law_100 (by decide) ?_
  refine z_istore (lv' := [(10, .int (0 : Int32)), (9, .int (0 : Int32)), (8, .int r4.1), (6, .long r2.1), (0, .ref a0), (1, .ref a1), (2, .ref a2), (3, .int x3), (4, .int x4), (5, .int x5)]) (pc := 101) C dL_law_101 (by decide) rfl ?_
  refine z_iconst (v := (0 : Int32)) (pc := 103) C dL_law_103 (by decide) ?_
  refine z_istore (lv' := [(11, .int (0 : Int32)), (10, .int (0 : Int32)), (9, .int (0 : Int32)), (8, .int r4.1), (6, .long r2.1), (0, .ref a0), (1, .ref a1), (2, .ref a2), (3, .int x3), (4, .int x4), (5, .int x5)]) (pc := 104) C dL_law_104 (by decide) rfl ?_
  refine z_iconst (v := (0 : Int32)) (pc := 106) C dL_law_106 (by decide) ?_
  refine z_istore (lv' := [(12, .int (0 : Int32)), (11, .int (0 : Int32)), (10, .int (0 : Int32)), (9, .int (0 : Int32)), (8, .int r4.1), (6, .long r2.1), (0, .ref a0), (1, .ref a1), (2, .ref a2), (3, .int x3), (4, .int x4), (5, .int x5)]) (pc := 107) C dL_law_107 (by decide) rfl ?_
  refine z_aload_n (k := 7) (pc := 109) C dL_law_109 rfl ?_
  refine z_iconst (v := (0 : Int32)) (pc := 110) C dL_law_110 (by decide) ?_
  obtain ⟨_, g5, hM⟩ := Option.bind_eq_some_iff.mp hM
  obtain ⟨r6, g6, hM⟩ := z_tn_c hM
  refine z_goN (kc := (cells + 0)) (ks := (slots + 0)) ([.int r6.1]) (z_callV (pc := 111) (As := [.int (0 : Int32)]) (rest := []) (n := 1) (ci := 5) C (c_X4_count l hl G lo t0 r4.2 nx a1 (0 : Int32) (.inr r6) g6) g5 rfl q_403 q_404 q_405 q_2 q_406 ⟨rfl, by decide +kernel, by decide +kernel, by decide +kernel⟩ ⟨Nat.le_of_ble_eq_true rfl, Nat.le_of_ble_eq_true rfl⟩ rfl (Nat.le_of_ble_eq_true rfl) dL_law_111 ⟨(zk3 hcb (Nat.le_of_ble_eq_true rfl)), (zk3 hsb (Nat.le_of_ble_eq_true rfl))⟩) rfl (zk2 (Nat.le_of_ble_eq_true rfl)) (zk2 (Nat.le_of_ble_eq_true rfl)) ?_
  refine z_istore (lv' := [(13, .int r6.1), (12, .int (0 : Int32)), (11, .int (0 : Int32)), (10, .int (0 : Int32)), (9, .int (0 : Int32)), (8, .int r4.1), (6, .long r2.1), (0, .ref a0), (1, .ref a1), (2, .ref a2), (3, .int x3), (4, .int x4), (5, .int x5)]) (pc := 114) C dL_law_114 (by decide) rfl ?_
  refine z_iconst (v := (0 : Int32)) (pc := 116) C dL_law_116 (by decide) ?_
  refine z_istore (lv' := [(14, .int (0 : Int32)), (13, .int r6.1), (12, .int (0 : Int32)), (11, .int (0 : Int32)), (10, .int (0 : Int32)), (9, .int (0 : Int32)), (8, .int r4.1), (6, .long r2.1), (0, .ref a0), (1, .ref a1), (2, .ref a2), (3, .int x3), (4, .int x4), (5, .int x5)]) (pc := 117) C dL_law_117 (by decide) rfl ?_
  refine z_sub [8, 9, 10, 11, 12, 13, 7, 6, 5, 4, 3, 2, 1, 0] rfl (zl3 (fun (x9_7 : Int32) (x14_7 : Int32) (h_7 : zH) => [(0, .ref a0), (1, .ref a1), (2, .ref a2), (3, .int x3), (4, .int x4), (5, .int x5), (6, .long r2.1), (8, .int r4.1), (9, .int x9_7), (10, .int (0 : Int32)), (11, .int (0 : Int32)), (12, .int (0 : Int32)), (13, .int r6.1), (14, .int x14_7)]) (fun (x9_7 : Int32) (x14_7 : Int32) (h_7 : zH) => h_7) (fun (x9_7 : Int32) (x14_7 : Int32) (h_7 : zH) => nx) hM (fun rec7 irec7 x9_7 x14_7 h_7 hM => ?_))
  refine z_iload (k := 13) (pc := 119) C dL_law_119 rfl ?_
  refine z_bipush (v := (24 : Int32)) (pc := 121) C dL_law_121 (by decide) ?_
  refine z_icmp_ge (pc := 123) (tgt := 475) C dL_law_123 (by decide) hM (fun hc176 hM => ?_) (fun hc176 hM => ?_)
  · refine z_iconst (v := (0 : Int32)) (pc := 475) C dL_law_475 (by decide) ?_
    refine z_istore (lv' := [(14, .int (0 : Int32)), (0, .ref a0), (1, .ref a1), (2, .ref a2), (3, .int x3), (4, .int x4), (5, .int x5), (6, .long r2.1), (8, .int r4.1), (9, .int x9_7), (10, .int (0 : Int32)), (11, .int (0 : Int32)), (12, .int (0 : Int32)), (13, .int r6.1)]) (pc := 476) C dL_law_476 (by decide) rfl ?_
    refine z_sub [1, 2, 3, 4, 5, 6, 7, 8, 9, 10, 11, 12, 13, 0] rfl (zl4 (fun (x10_8 : Int32) (x11_8 : Int32) (x12_8 : Int32) (x14_8 : Int32) => [(0, .ref a0), (1, .ref a1), (2, .ref a2), (3, .int x3), (4, .int x4), (5, .int x5), (6, .long r2.1), (8, .int r4.1), (9, .int x9_7), (10, .int x10_8), (11, .int x11_8), (12, .int x12_8), (13, .int r6.1), (14, .int x14_8)]) (fun (x10_8 : Int32) (x11_8 : Int32) (x12_8 : Int32) (x14_8 : Int32) => h_7) (fun (x10_8 : Int32) (x11_8 : Int32) (x12_8 : Int32) (x14_8 : Int32) => nx) hM (fun rec8 irec8 x10_8 x11_8 x12_8 x14_8 hM => ?_))
    refine z_iload (k := 13) (pc := 478) C dL_law_478 rfl ?_
    refine z_iload (k := 12) (pc := 480) C dL_law_480 rfl ?_
    refine z_icmp_ge (pc := 482) (tgt := 624) C dL_law_482 (by decide) hM (fun hc115 hM => ?_) (fun hc115 hM => ?_)
    · refine z_iload (k := 8) (pc := 624) C dL_law_624 rfl ?_
      refine z_iload (k := 7) (pc := 626) C dL_law_626 rfl ?_
      refine z_icmp_ne (pc := 628) (tgt := 667) C dL_law_628 (by decide) hM (fun hc97 hM => ?_) (fun hc97 hM => ?_)
      · refine z_iload (k := 7) (pc := 631) C dL_law_631 rfl ?_
        refine z_iload (k := 10) (pc := 633) C dL_law_633 rfl ?_
        refine z_icmp_gt (pc := 635) (tgt := 667) C dL_law_635 (by decide) hM (fun hc96 hM => ?_) (fun hc96 hM => ?_)
        · cases hM
        · refine z_iload (k := 7) (pc := 638) C dL_law_638 rfl ?_
          refine z_iload (k := 11) (pc := 640) C dL_law_640 rfl ?_
          refine z_icmp_lt (pc := 642) (tgt := 667) C dL_law_642 (by decide) hM (fun hc95 hM => ?_) (fun hc95 hM => ?_)
          · cases hM
          · refine z_iload (k := 7) (pc := 645) C dL_law_645 rfl ?_
            refine z_sipush (v := (576 : Int32)) (pc := 647) C dL_law_647 (by decide) ?_
            refine z_icmp_gt (pc := 650) (tgt := 667) C dL_law_650 (by decide) hM (fun hc94 hM => ?_) (fun hc94 hM => ?_)
            · cases hM
            · refine z_iload (k := 9) (pc := 653) C dL_law_653 rfl ?_
              refine z_aload_n (k := 1) (pc := 655) C dL_law_655 rfl ?_
              refine z_bipush (v := (6 : Int32)) (pc := 656) C dL_law_656 (by decide) ?_
              obtain ⟨_, g9, hM⟩ := Option.bind_eq_some_iff.mp hM
              obtain ⟨r10, g10, hM⟩ := z_tn_c hM
              refine z_goN (kc := (cells + 0)) (ks := (slots + 0)) ([.int r10.1, .int x10_8]) (z_callV (pc := 658) (As := [.int (6 : Int32)]) (rest := [.int x10_8]) (n := 1) (ci := 5) C (c_X4_count l hl G lo t0 h_7 nx a1 (6 : Int32) (.inr r10) g10) g9 rfl q_403 q_404 q_405 q_2 q_406 ⟨rfl, by decide +kernel, by decide +kernel, by decide +kernel⟩ ⟨Nat.le_of_ble_eq_true rfl, Nat.le_of_ble_eq_true rfl⟩ rfl (Nat.le_of_ble_eq_true rfl) dL_law_658 ⟨(zk3 hcb (Nat.le_of_ble_eq_true rfl)), (zk3 hsb (Nat.le_of_ble_eq_true rfl))⟩) rfl (zk2 (Nat.le_of_ble_eq_true rfl)) (zk2 (Nat.le_of_ble_eq_true rfl)) ?_
              refine z_iadd (pc := 661) C dL_law_661 ?_
              refine z_iload (k := 7) (pc := 662) C dL_law_662 rfl ?_
              refine z_icmp_eq (pc := 664) (tgt := 669) C dL_law_664 (by decide) hM (fun hc93 hM => ?_) (fun hc93 hM => ?_)
              · refine z_aload_n (k := 1) (pc := 669) C dL_law_669 rfl ?_
                refine z_iconst (v := (4 : Int32)) (pc := 670) C dL_law_670 (by decide) ?_
                obtain ⟨_, g11, hM⟩ := Option.bind_eq_some_iff.mp hM
                obtain ⟨r12, g12, hM⟩ := z_tn_c hM
                refine z_goN (kc := (cells + 0)) (ks := (slots + 0)) ([.int r12.1]) (z_callV (pc := 671) (As := [.int (4 : Int32)]) (rest := []) (n := 1) (ci := 5) C (c_X4_count l hl G lo t0 r10.2 nx a1 (4 : Int32) (.inr r12) g12) g11 rfl q_403 q_404 q_405 q_2 q_406 ⟨rfl, by decide +kernel, by decide +kernel, by decide +kernel⟩ ⟨Nat.le_of_ble_eq_true rfl, Nat.le_of_ble_eq_true rfl⟩ rfl (Nat.le_of_ble_eq_true rfl) dL_law_671 ⟨(zk3 hcb (Nat.le_of_ble_eq_true rfl)), (zk3 hsb (Nat.le_of_ble_eq_true rfl))⟩) rfl (zk2 (Nat.le_of_ble_eq_true rfl)) (zk2 (Nat.le_of_ble_eq_true rfl)) ?_
                refine z_istore (lv' := [(14, .int r12.1), (0, .ref a0), (1, .ref a1), (2, .ref a2), (3, .int x3), (4, .int x4), (5, .int x5), (6, .long r2.1), (8, .int r4.1), (9, .int x9_7), (10, .int x10_8), (11, .int x11_8), (12, .int x12_8), (13, .int r6.1)]) (pc := 674) C dL_law_674 (by decide) rfl ?_
                refine z_iload (k := 0) (pc := 676) C dL_law_676 rfl ?_
                refine z_iconst (v := (2 : Int32)) (pc := 678) C dL_law_678 (by decide) ?_
                refine z_irem (pc := 679) C dL_law_679 (by decide) ?_
                refine z_if_ne (pc := 680) (tgt := 741) C dL_law_680 (by decide) hM (fun hc92 hM => ?_) (fun hc92 hM => ?_)
                · refine z_iload (k := 0) (pc := 683) C dL_law_683 rfl ?_
                  refine z_iconst (v := (4 : Int32)) (pc := 685) C dL_law_685 (by decide) ?_
                  refine z_iload (k := 8) (pc := 686) C dL_law_686 rfl ?_
                  refine z_imul (pc := 688) C dL_law_688 ?_
                  refine z_icmp_gt (pc := 689) (tgt := 741) C dL_law_689 (by decide) hM (fun hc91 hM => ?_) (fun hc91 hM => ?_)
                  · cases hM
                  · refine z_iload (k := 0) (pc := 692) C dL_law_692 rfl ?_
                    refine z_iload (k := 0) (pc := 694) C dL_law_694 rfl ?_
                    refine z_imul (pc := 696) C dL_law_696 ?_
                    refine z_bipush (v := (16 : Int32)) (pc := 697) C dL_law_697 (by decide) ?_
                    refine z_iload (k := 8) (pc := 699) C dL_law_699 rfl ?_
                    refine z_imul (pc := 701) C dL_law_701 ?_
                    refine z_icmp_lt (pc := 702) (tgt := 741) C dL_law_702 (by decide) hM (fun hc90 hM => ?_) (fun hc90 hM => ?_)
                    · cases hM
                    · refine z_aload_n (k := 2) (pc := 705) C dL_law_705 rfl ?_
                      refine z_iconst (v := (5 : Int32)) (pc := 706) C dL_law_706 (by decide) ?_
                      obtain ⟨_, g13, hM⟩ := Option.bind_eq_some_iff.mp hM
                      obtain ⟨r14, g14, hM⟩ := z_tn_c hM
                      refine z_goN (kc := (cells + 0)) (ks := (slots + 0)) ([.int r14.1]) (z_callV (pc := 707) (As := [.int (5 : Int32)]) (rest := []) (n := 1) (ci := 5) C (c_X4_count l hl G lo t0 r12.2 nx a1 (5 : Int32) (.inr r14) g14) g13 rfl q_403 q_404 q_405 q_2 q_406 ⟨rfl, by decide +kernel, by decide +kernel, by decide +kernel⟩ ⟨Nat.le_of_ble_eq_true rfl, Nat.le_of_ble_eq_true rfl⟩ rfl (Nat.le_of_ble_eq_true rfl) dL_law_707 ⟨(zk3 hcb (Nat.le_of_ble_eq_true rfl)), (zk3 hsb (Nat.le_of_ble_eq_true rfl))⟩) rfl (zk2 (Nat.le_of_ble_eq_true rfl)) (zk2 (Nat.le_of_ble_eq_true rfl)) ?_
                      refine z_iload (k := 8) (pc := 710) C dL_law_710 rfl ?_
                      refine z_icmp_gt (pc := 712) (tgt := 741) C dL_law_712 (by decide) hM (fun hc89 hM => ?_) (fun hc89 hM => ?_)
                      · cases hM
                      · refine z_aload_n (k := 2) (pc := 715) C dL_law_715 rfl ?_
                        refine z_iconst (v := (5 : Int32)) (pc := 716) C dL_law_716 (by decide) ?_
                        obtain ⟨_, g15, hM⟩ := Option.bind_eq_some_iff.mp hM
                        obtain ⟨r16, g16, hM⟩ := z_tn_c hM
                        refine z_goN (kc := (cells + 0)) (ks := (slots + 0)) ([.int r16.1]) (z_callV (pc := 717) (As := [.int (5 : Int32)]) (rest := []) (n := 1) (ci := 5) C (c_X4_count l hl G lo t0 r14.2 nx a1 (5 : Int32) (.inr r16) g16) g15 rfl q_403 q_404 q_405 q_2 q_406 ⟨rfl, by decide +kernel, by decide +kernel, by decide +kernel⟩ ⟨Nat.le_of_ble_eq_true rfl, Nat.le_of_ble_eq_true rfl⟩ rfl (Nat.le_of_ble_eq_true rfl) dL_law_717 ⟨(zk3 hcb (Nat.le_of_ble_eq_true rfl)), (zk3 hsb (Nat.le_of_ble_eq_true rfl))⟩) rfl (zk2 (Nat.le_of_ble_eq_true rfl)) (zk2 (Nat.le_of_ble_eq_true rfl)) ?_
                        refine zj1 (cells + 0) (slots + 0) 728 (fun (s0_17 : Int32) => [(0, .ref a0), (1, .ref a1), (2, .ref a2), (3, .int x3), (4, .int x4), (5, .int x5), (6, .long r2.1), (8, .int r4.1), (13, .int r6.1)]) (fun (s0_17 : Int32) => [.int s0_17]) (fun (s0_17 : Int32) => r16.2) (fun (s0_17 : Int32) => nx) hM (fun s0_17 hM => ?_) (fun J17 iJ17 hM => ?_)
                        · refine z_iload (k := 7) (pc := 728) C dL_law_728 rfl ?_
                          refine zj2 (cells + 0) (slots + 0) 738 (fun (s0_18 : Int32) (s1_18 : Int32) => [(0, .ref a0), (1, .ref a1), (2, .ref a2), (3, .int x3), (4, .int x4), (5, .int x5), (6, .long r2.1), (8, .int r4.1), (13, .int r6.1)]) (fun (s0_18 : Int32) (s1_18 : Int32) => [.int s1_18, .int s0_18]) (fun (s0_18 : Int32) (s1_18 : Int32) => r16.2) (fun (s0_18 : Int32) (s1_18 : Int32) => nx) hM (fun s0_18 s1_18 hM => ?_) (fun J18 iJ18 hM => ?_)
                          · refine z_icmp_eq (pc := 738) (tgt := 743) C dL_law_738 (by decide) hM (fun hc86 hM => ?_) (fun hc86 hM => ?_)
                            · refine z_iconst (v := (0 : Int32)) (pc := 743) C dL_law_743 (by decide) ?_
                              refine z_istore (lv' := [(15, .int (0 : Int32)), (0, .ref a0), (1, .ref a1), (2, .ref a2), (3, .int x3), (4, .int x4), (5, .int x5), (6, .long r2.1), (8, .int r4.1), (13, .int r6.1)]) (pc := 744) C dL_law_744 (by decide) rfl ?_
                              refine z_sub [1, 2, 3, 4, 5, 6, 7, 8, 9, 0] rfl (zl2 (fun (x15_19 : Int32) (h_19 : zH) => [(0, .ref a0), (1, .ref a1), (2, .ref a2), (3, .int x3), (4, .int x4), (5, .int x5), (6, .long r2.1), (8, .int r4.1), (13, .int r6.1), (15, .int x15_19)]) (fun (x15_19 : Int32) (h_19 : zH) => h_19) (fun (x15_19 : Int32) (h_19 : zH) => nx) hM (fun rec19 irec19 x15_19 h_19 hM => ?_))
                              refine z_iload (k := 9) (pc := 746) C dL_law_746 rfl ?_
                              refine z_aload_n (k := 1) (pc := 748) C dL_law_748 rfl ?_
                              refine z_iconst (v := (2 : Int32)) (pc := 749) C dL_law_749 (by decide) ?_
                              obtain ⟨_, g20, hM⟩ := Option.bind_eq_some_iff.mp hM
                              obtain ⟨r21, g21, hM⟩ := z_tn_c hM
                              refine z_goN (kc := (cells + 0)) (ks := (slots + 0)) ([.int r21.1, .int x15_19]) (z_callV (pc := 750) (As := [.int (2 : Int32)]) (rest := [.int x15_19]) (n := 1) (ci := 5) C (c_X4_count l hl G lo t0 h_19 nx a1 (2 : Int32) (.inr r21) g21) g20 rfl q_403 q_404 q_405 q_2 q_406 ⟨rfl, by decide +kernel, by decide +kernel, by decide +kernel⟩ ⟨Nat.le_of_ble_eq_true rfl, Nat.le_of_ble_eq_true rfl⟩ rfl (Nat.le_of_ble_eq_true rfl) dL_law_750 ⟨(zk3 hcb (Nat.le_of_ble_eq_true rfl)), (zk3 hsb (Nat.le_of_ble_eq_true rfl))⟩) rfl (zk2 (Nat.le_of_ble_eq_true rfl)) (zk2 (Nat.le_of_ble_eq_true rfl)) ?_
                              refine z_icmp_ge (pc := 753) (tgt := 803) C dL_law_753 (by decide) hM (fun hc85 hM => ?_) (fun hc85 hM => ?_)
                              · refine z_aload_n (k := 1) (pc := 803) C dL_law_803 rfl ?_
                                obtain ⟨_, g22, hM⟩ := Option.bind_eq_some_iff.mp hM
                                obtain ⟨r23, g23, hM⟩ := Option.bind_eq_some_iff.mp hM
                                refine z_goN (kc := (cells + 0)) (ks := (slots + 0)) ([.int r23]) (z_callV (pc := 804) (As := []) (rest := []) (n := 0) (ci := 5) C (c_X4_advise l hl G lo t0 r21.2 nx a1 r23 g23) g22 rfl q_518 q_519 q_520 q_2 q_521 ⟨rfl, by decide +kernel, by decide +kernel, by decide +kernel⟩ ⟨Nat.le_of_ble_eq_true rfl, Nat.le_of_ble_eq_true rfl⟩ rfl (Nat.le_of_ble_eq_true rfl) dL_law_804 ⟨(zk3 hcb (Nat.le_of_ble_eq_true rfl)), (zk3 hsb (Nat.le_of_ble_eq_true rfl))⟩) rfl (zk2 (Nat.le_of_ble_eq_true rfl)) (zk2 (Nat.le_of_ble_eq_true rfl)) ?_
                                refine z_istore (lv' := [(15, .int r23), (0, .ref a0), (1, .ref a1), (2, .ref a2), (3, .int x3), (4, .int x4), (5, .int x5), (6, .long r2.1), (8, .int r4.1), (13, .int r6.1)]) (pc := 807) C dL_law_807 (by decide) rfl ?_
                                refine z_iload (k := 0) (pc := 809) C dL_law_809 rfl ?_
                                refine zj1 (cells + 0) (slots + 0) 819 (fun (s0_24 : Int32) => [(0, .ref a0), (1, .ref a1), (2, .ref a2), (3, .int x3), (4, .int x4), (5, .int x5), (6, .long r2.1), (8, .int r4.1), (13, .int r6.1), (15, .int r23)]) (fun (s0_24 : Int32) => [.int s0_24]) (fun (s0_24 : Int32) => r21.2) (fun (s0_24 : Int32) => nx) hM (fun s0_24 hM => ?_) (fun J24 iJ24 hM => ?_)
                                · refine z_aload_n (k := 1) (pc := 819) C dL_law_819 rfl ?_
                                  refine z_iconst (v := (1 : Int32)) (pc := 820) C dL_law_820 (by decide) ?_
                                  obtain ⟨r25, g25, hM⟩ := z_tn_c hM
                                  refine z_goN (kc := (cells + 0)) (ks := (slots + 0)) ([.int r25.1, .int s0_24]) (z_callV (pc := 821) (As := [.int (1 : Int32)]) (rest := [.int s0_24]) (n := 1) (ci := 5) C (c_X4_count l hl G lo t0 r21.2 nx a1 (1 : Int32) (.inr r25) g25) g22 rfl q_403 q_404 q_405 q_2 q_406 ⟨rfl, by decide +kernel, by decide +kernel, by decide +kernel⟩ ⟨Nat.le_of_ble_eq_true rfl, Nat.le_of_ble_eq_true rfl⟩ rfl (Nat.le_of_ble_eq_true rfl) dL_law_821 ⟨(zk3 hcb (Nat.le_of_ble_eq_true rfl)), (zk3 hsb (Nat.le_of_ble_eq_true rfl))⟩) rfl (zk2 (Nat.le_of_ble_eq_true rfl)) (zk2 (Nat.le_of_ble_eq_true rfl)) ?_
                                  refine zj2 (cells + 0) (slots + 0) 832 (fun (s0_26 : Int32) (s1_26 : Int32) => [(0, .ref a0), (1, .ref a1), (2, .ref a2), (3, .int x3), (4, .int x4), (5, .int x5), (6, .long r2.1), (8, .int r4.1), (13, .int r6.1), (15, .int r23)]) (fun (s0_26 : Int32) (s1_26 : Int32) => [.int s1_26, .int s0_26]) (fun (s0_26 : Int32) (s1_26 : Int32) => r25.2) (fun (s0_26 : Int32) (s1_26 : Int32) => nx) hM (fun s0_26 s1_26 hM => ?_) (fun J26 iJ26 hM => ?_)
                                  · refine z_icmp_ne (pc := 832) (tgt := 845) C dL_law_832 (by decide) hM (fun hc74 hM => ?_) (fun hc74 hM => ?_)
                                    · refine z_aload_n (k := 1) (pc := 835) C dL_law_835 rfl ?_
                                      obtain ⟨_, g27, hM⟩ := Option.bind_eq_some_iff.mp hM
                                      obtain ⟨r28, g28, hM⟩ := Option.bind_eq_some_iff.mp hM
                                      refine z_goN (kc := (cells + 0)) (ks := (slots + 0)) ([.long r28.1]) (z_callV (pc := 836) (As := []) (rest := []) (n := 0) (ci := 5) C (c_X4_digest l hl G lo t0 r25.2 nx a1 r28 g28) g27 rfl q_448 q_449 q_450 q_2 q_451 ⟨rfl, by decide +kernel, by decide +kernel, by decide +kernel⟩ ⟨Nat.le_of_ble_eq_true rfl, Nat.le_of_ble_eq_true rfl⟩ rfl (Nat.le_of_ble_eq_true rfl) dL_law_836 ⟨(zk3 hcb (Nat.le_of_ble_eq_true rfl)), (zk3 hsb (Nat.le_of_ble_eq_true rfl))⟩) rfl (zk2 (Nat.le_of_ble_eq_true rfl)) (zk2 (Nat.le_of_ble_eq_true rfl)) ?_
                                      refine z_lload (k := 6) (pc := 839) C dL_law_839 rfl ?_
                                      refine z_lcmp (pc := 841) C dL_law_841 ?_
                                      refine z_if_eq (pc := 842) (tgt := 847) C dL_law_842 (by decide) hM (fun hc73 hM => ?_) (fun hc73 hM => ?_)
                                      · refine z_iload (k := 9) (pc := 847) C dL_law_847 rfl ?_
                                        refine zj1 (cells + 0) (slots + 0) 948 (fun (h_29 : zH) => [(0, .ref a0), (1, .ref a1), (2, .ref a2), (3, .int x3), (4, .int x4), (5, .int x5)]) (fun (h_29 : zH) => []) (fun (h_29 : zH) => h_29) (fun (h_29 : zH) => nx) hM (fun h_29 hM => ?_) (fun J29 iJ29 hM => ?_)
                                        · refine z_iconst (v := (1 : Int32)) (pc := 948) C dL_law_948 (by decide) ?_
                                          refine z_iload (k := 5) (pc := 949) C dL_law_949 rfl ?_
                                          refine z_iconst (v := (5 : Int32)) (pc := 951) C dL_law_951 (by decide) ?_
                                          refine z_ishr (pc := 952) C dL_law_952 ?_
                                          refine z_bipush (v := (20 : Int32)) (pc := 953) C dL_law_953 (by decide) ?_
                                          obtain ⟨r30, g30, hM⟩ := Option.bind_eq_some_iff.mp hM
                                          refine z_goN (kc := (cells + 0)) (ks := (slots + 0)) ([.int r30, .int (1 : Int32)]) (z_callS (pc := 955) (As := [.int (x5 >>> ((5 : Int32) &&& 31)), .int (20 : Int32)]) (rest := [.int (1 : Int32)]) (n := 2) C (c_L_below l hl G lo t0 h_29 nx (x5 >>> ((5 : Int32) &&& 31)) (20 : Int32) r30 g30) q_90 q_91 q_67 q_92 ⟨by decide +kernel, by decide +kernel, by decide +kernel⟩ ⟨Nat.le_of_ble_eq_true rfl, Nat.le_of_ble_eq_true rfl⟩ rfl (Nat.le_of_ble_eq_true rfl) dL_law_955 ⟨(zk3 hcb (Nat.le_of_ble_eq_true rfl)), (zk3 hsb (Nat.le_of_ble_eq_true rfl))⟩) rfl (zk2 (Nat.le_of_ble_eq_true rfl)) (zk2 (Nat.le_of_ble_eq_true rfl)) ?_
                                          refine z_iadd (pc := 958) C dL_law_958 ?_
                                          refine z_istore (lv' := [(16, .int ((1 : Int32) + r30)), (0, .ref a0), (1, .ref a1), (2, .ref a2), (3, .int x3), (4, .int x4), (5, .int x5)]) (pc := 959) C dL_law_959 (by decide) rfl ?_
                                          refine z_aload_n (k := 2) (pc := 961) C dL_law_961 rfl ?_
                                          refine z_iload (k := 0) (pc := 962) C dL_law_962 rfl ?_
                                          obtain ⟨_, g31, hM⟩ := Option.bind_eq_some_iff.mp hM
                                          obtain ⟨r32, g32, hM⟩ := z_tn_c hM
                                          refine z_goN (kc := (cells + 0)) (ks := (slots + 0)) ([.int r32.1]) (z_callV (pc := 964) (As := [.int ((1 : Int32) + r30)]) (rest := []) (n := 1) (ci := 5) C (c_X4_rain l hl G lo t0 h_29 nx a1 ((1 : Int32) + r30) (.inr r32) g32) g31 rfl q_320 q_321 q_322 q_2 q_323 ⟨rfl, by decide +kernel, by decide +kernel, by decide +kernel⟩ ⟨Nat.le_of_ble_eq_true rfl, Nat.le_of_ble_eq_true rfl⟩ rfl (Nat.le_of_ble_eq_true rfl) dL_law_964 ⟨(zk3 hcb (Nat.le_of_ble_eq_true rfl)), (zk3 hsb (Nat.le_of_ble_eq_true rfl))⟩) rfl (zk2 (Nat.le_of_ble_eq_true rfl)) (zk2 (Nat.le_of_ble_eq_true rfl)) ?_
                                          refine z_istore (lv' := [(17, .int r32.1), (16, .int ((1 : Int32) + r30)), (0, .ref a0), (1, .ref a1), (2, .ref a2), (3, .int x3), (4, .int x4), (5, .int x5)]) (pc := 967) C dL_law_967 (by decide) rfl ?_
                                          refine z_aload_n (k := 4) (pc := 969) C dL_law_969 rfl ?_
                                          refine z_iload (k := 1) (pc := 970) C dL_law_970 rfl ?_
                                          obtain ⟨_, g33, hM⟩ := Option.bind_eq_some_iff.mp hM
                                          obtain ⟨r34, g34, hM⟩ := Option.bind_eq_some_iff.mp hM
                                          refine z_goN (kc := (cells + 27)) (ks := (slots + 641)) ([.int r34.1]) (z_callV (pc := 972) (As := [.int ((1 : Int32) + r30)]) (rest := []) (n := 1) (ci := 6) C (c_X5_rain l hl G lo t0 r32.2 nx a2 ((1 : Int32) + r30) r34 g34) g33 rfl q_389 q_390 q_391 q_71 q_392 ⟨rfl, by decide +kernel, by decide +kernel, by decide +kernel⟩ ⟨Nat.le_of_ble_eq_true rfl, Nat.le_of_ble_eq_true rfl⟩ rfl (Nat.le_of_ble_eq_true rfl) dL_law_972 ⟨(zk3 hcb (Nat.le_of_ble_eq_true rfl)), (zk3 hsb (Nat.le_of_ble_eq_true rfl))⟩) rfl (zk2 (Nat.le_of_ble_eq_true rfl)) (zk2 (Nat.le_of_ble_eq_true rfl)) ?_
                                          refine z_iload (k := 0) (pc := 975) C dL_law_975 rfl ?_
                                          refine z_icmp_ne (pc := 977) (tgt := 1033) C dL_law_977 (by decide) hM (fun hc51 hM => ?_) (fun hc51 hM => ?_)
                                          · refine z_iload (k := 0) (pc := 980) C dL_law_980 rfl ?_
                                            refine z_if_lt (pc := 982) (tgt := 1033) C dL_law_982 (by decide) hM (fun hc50 hM => ?_) (fun hc50 hM => ?_)
                                            · cases hM
                                            · refine z_iload (k := 0) (pc := 985) C dL_law_985 rfl ?_
                                              refine z_sipush (v := (576 : Int32)) (pc := 987) C dL_law_987 (by decide) ?_
                                              refine z_iload (k := 1) (pc := 990) C dL_law_990 rfl ?_
                                              refine z_imul (pc := 992) C dL_law_992 ?_
                                              refine z_icmp_gt (pc := 993) (tgt := 1033) C dL_law_993 (by decide) hM (fun hc49 hM => ?_) (fun hc49 hM => ?_)
                                              · cases hM
                                              · refine z_aload_n (k := 3) (pc := 996) C dL_law_996 rfl ?_
                                                refine z_bipush (v := (8 : Int32)) (pc := 997) C dL_law_997 (by decide) ?_
                                                obtain ⟨_, g35, hM⟩ := Option.bind_eq_some_iff.mp hM
                                                obtain ⟨r36, g36, hM⟩ := z_tn_c hM
                                                refine z_goN (kc := (cells + 27)) (ks := (slots + 641)) ([.int r36.1]) (z_callV (pc := 999) (As := [.int (8 : Int32)]) (rest := []) (n := 1) (ci := 5) C (c_X4_count l hl G lo t0 r34.2.1 r34.2.2 a1 (8 : Int32) (.inr r36) g36) g35 rfl q_403 q_404 q_405 q_2 q_406 ⟨rfl, by decide +kernel, by decide +kernel, by decide +kernel⟩ ⟨Nat.le_of_ble_eq_true rfl, Nat.le_of_ble_eq_true rfl⟩ rfl (Nat.le_of_ble_eq_true rfl) dL_law_999 ⟨(zk3 hcb (Nat.le_of_ble_eq_true rfl)), (zk3 hsb (Nat.le_of_ble_eq_true rfl))⟩) rfl (zk2 (Nat.le_of_ble_eq_true rfl)) (zk2 (Nat.le_of_ble_eq_true rfl)) ?_
                                                refine z_aload_n (k := 3) (pc := 1002) C dL_law_1002 rfl ?_
                                                refine z_bipush (v := (9 : Int32)) (pc := 1003) C dL_law_1003 (by decide) ?_
                                                obtain ⟨_, g37, hM⟩ := Option.bind_eq_some_iff.mp hM
                                                obtain ⟨r38, g38, hM⟩ := z_tn_c hM
                                                refine z_goN (kc := (cells + 27)) (ks := (slots + 641)) ([.int r38.1, .int r36.1]) (z_callV (pc := 1005) (As := [.int (9 : Int32)]) (rest := [.int r36.1]) (n := 1) (ci := 5) C (c_X4_count l hl G lo t0 r36.2 r34.2.2 a1 (9 : Int32) (.inr r38) g38) g37 rfl q_403 q_404 q_405 q_2 q_406 ⟨rfl, by decide +kernel, by decide +kernel, by decide +kernel⟩ ⟨Nat.le_of_ble_eq_true rfl, Nat.le_of_ble_eq_true rfl⟩ rfl (Nat.le_of_ble_eq_true rfl) dL_law_1005 ⟨(zk3 hcb (Nat.le_of_ble_eq_true rfl)), (zk3 hsb (Nat.le_of_ble_eq_true rfl))⟩) rfl (zk2 (Nat.le_of_ble_eq_true rfl)) (zk2 (Nat.le_of_ble_eq_true rfl)) ?_
                                                refine z_iadd (pc := 1008) C dL_law_1008 ?_
                                                refine z_iload_n (k := 5) (pc := 1009) C dL_law_1009 rfl ?_
                                                refine z_icmp_le (pc := 1010) (tgt := 1033) C dL_law_1010 (by decide) hM (fun hc48 hM => ?_) (fun hc48 hM => ?_)
                                                · cases hM
                                                · refine z_aload_n (k := 3) (pc := 1013) C dL_law_1013 rfl ?_
                                                  refine z_bipush (v := (8 : Int32)) (pc := 1014) C dL_law_1014 (by decide) ?_
                                                  obtain ⟨_, g39, hM⟩ := Option.bind_eq_some_iff.mp hM
                                                  obtain ⟨r40, g40, hM⟩ := z_tn_c hM
                                                  refine z_goN (kc := (cells + 27)) (ks := (slots + 641)) ([.int r40.1]) (z_callV (pc := 1016) (As := [.int (8 : Int32)]) (rest := []) (n := 1) (ci := 5) C (c_X4_count l hl G lo t0 r38.2 r34.2.2 a1 (8 : Int32) (.inr r40) g40) g39 rfl q_403 q_404 q_405 q_2 q_406 ⟨rfl, by decide +kernel, by decide +kernel, by decide +kernel⟩ ⟨Nat.le_of_ble_eq_true rfl, Nat.le_of_ble_eq_true rfl⟩ rfl (Nat.le_of_ble_eq_true rfl) dL_law_1016 ⟨(zk3 hcb (Nat.le_of_ble_eq_true rfl)), (zk3 hsb (Nat.le_of_ble_eq_true rfl))⟩) rfl (zk2 (Nat.le_of_ble_eq_true rfl)) (zk2 (Nat.le_of_ble_eq_true rfl)) ?_
                                                  refine z_aload_n (k := 3) (pc := 1019) C dL_law_1019 rfl ?_
                                                  refine z_bipush (v := (9 : Int32)) (pc := 1020) C dL_law_1020 (by decide) ?_
                                                  obtain ⟨_, g41, hM⟩ := Option.bind_eq_some_iff.mp hM
                                                  obtain ⟨r42, g42, hM⟩ := z_tn_c hM
                                                  refine z_goN (kc := (cells + 27)) (ks := (slots + 641)) ([.int r42.1, .int r40.1]) (z_callV (pc := 1022) (As := [.int (9 : Int32)]) (rest := [.int r40.1]) (n := 1) (ci := 5) C (c_X4_count l hl G lo t0 r40.2 r34.2.2 a1 (9 : Int32) (.inr r42) g42) g41 rfl q_403 q_404 q_405 q_2 q_406 ⟨rfl, by decide +kernel, by decide +kernel, by decide +kernel⟩ ⟨Nat.le_of_ble_eq_true rfl, Nat.le_of_ble_eq_true rfl⟩ rfl (Nat.le_of_ble_eq_true rfl) dL_law_1022 ⟨(zk3 hcb (Nat.le_of_ble_eq_true rfl)), (zk3 hsb (Nat.le_of_ble_eq_true rfl))⟩) rfl (zk2 (Nat.le_of_ble_eq_true rfl)) (zk2 (Nat.le_of_ble_eq_true rfl)) ?_
                                                  refine z_iadd (pc := 1025) C dL_law_1025 ?_
                                                  refine z_sipush (v := (576 : Int32)) (pc := 1026) C dL_law_1026 (by decide) ?_
                                                  refine z_irem (pc := 1029) C dL_law_1029 (by decide) ?_
                                                  refine z_if_eq (pc := 1030) (tgt := 1035) C dL_law_1030 (by decide) hM (fun hc47 hM => ?_) (fun hc47 hM => ?_)
                                                  · refine z_aload_n (k := 3) (pc := 1035) C dL_law_1035 rfl ?_
                                                    refine z_bipush (v := (8 : Int32)) (pc := 1036) C dL_law_1036 (by decide) ?_
                                                    obtain ⟨_, g43, hM⟩ := Option.bind_eq_some_iff.mp hM
                                                    obtain ⟨r44, g44, hM⟩ := z_tn_c hM
                                                    refine z_goN (kc := (cells + 27)) (ks := (slots + 641)) ([.int r44.1]) (z_callV (pc := 1038) (As := [.int (8 : Int32)]) (rest := []) (n := 1) (ci := 5) C (c_X4_count l hl G lo t0 r42.2 r34.2.2 a1 (8 : Int32) (.inr r44) g44) g43 rfl q_403 q_404 q_405 q_2 q_406 ⟨rfl, by decide +kernel, by decide +kernel, by decide +kernel⟩ ⟨Nat.le_of_ble_eq_true rfl, Nat.le_of_ble_eq_true rfl⟩ rfl (Nat.le_of_ble_eq_true rfl) dL_law_1038 ⟨(zk3 hcb (Nat.le_of_ble_eq_true rfl)), (zk3 hsb (Nat.le_of_ble_eq_true rfl))⟩) rfl (zk2 (Nat.le_of_ble_eq_true rfl)) (zk2 (Nat.le_of_ble_eq_true rfl)) ?_
                                                    refine z_aload_n (k := 3) (pc := 1041) C dL_law_1041 rfl ?_
                                                    refine z_bipush (v := (9 : Int32)) (pc := 1042) C dL_law_1042 (by decide) ?_
                                                    obtain ⟨_, g45, hM⟩ := Option.bind_eq_some_iff.mp hM
                                                    obtain ⟨r46, g46, hM⟩ := z_tn_c hM
                                                    refine z_goN (kc := (cells + 27)) (ks := (slots + 641)) ([.int r46.1, .int r44.1]) (z_callV (pc := 1044) (As := [.int (9 : Int32)]) (rest := [.int r44.1]) (n := 1) (ci := 5) C (c_X4_count l hl G lo t0 r44.2 r34.2.2 a1 (9 : Int32) (.inr r46) g46) g45 rfl q_403 q_404 q_405 q_2 q_406 ⟨rfl, by decide +kernel, by decide +kernel, by decide +kernel⟩ ⟨Nat.le_of_ble_eq_true rfl, Nat.le_of_ble_eq_true rfl⟩ rfl (Nat.le_of_ble_eq_true rfl) dL_law_1044 ⟨(zk3 hcb (Nat.le_of_ble_eq_true rfl)), (zk3 hsb (Nat.le_of_ble_eq_true rfl))⟩) rfl (zk2 (Nat.le_of_ble_eq_true rfl)) (zk2 (Nat.le_of_ble_eq_true rfl)) ?_
                                                    refine z_iadd (pc := 1047) C dL_law_1047 ?_
                                                    refine z_istore_n (lv' := [(3, .int (r44.1 + r46.1)), (17, .int r32.1), (16, .int ((1 : Int32) + r30)), (0, .ref a0), (1, .ref a1), (2, .ref a2), (4, .int x4), (5, .int x5)]) (pc := 1048) C dL_law_1048 (by decide) rfl ?_
                                                    exact z_sub [3, 4, 5, 0, 6] rfl (K0 r46.2 r34.2.2 a0 a1 a2 (r44.1 + r46.1) x4 hM)
                                                  · cases hM
                                          · cases hM
                                        refine z_if_lt (pc := 849) (tgt := 948) C dL_law_849 (by decide) hM (fun hc72 hM => ?_) (fun hc72 hM => ?_)
                                        · exact z_sub [0, 1, 2, 3, 4, 5] rfl (iJ29 r28.2 hM)
                                        · refine z_aload_n (k := 1) (pc := 852) C dL_law_852 rfl ?_
                                          refine z_iload (k := 9) (pc := 853) C dL_law_853 rfl ?_
                                          refine z_bipush (v := (7 : Int32)) (pc := 855) C dL_law_855 (by decide) ?_
                                          obtain ⟨_, g52, hM⟩ := Option.bind_eq_some_iff.mp hM
                                          obtain ⟨r53, g53, hM⟩ := z_tn_c hM
                                          refine z_goN (kc := (cells + 0)) (ks := (slots + 0)) ([.int r53]) (z_callV (pc := 857) (As := [.int r23, .int (7 : Int32)]) (rest := []) (n := 2) (ci := 5) C (c_X4_about l hl G lo t0 r28.2 nx a1 r23 (7 : Int32) (.inr r53) g53) g52 rfl q_510 q_456 q_457 q_2 q_458 ⟨rfl, by decide +kernel, by decide +kernel, by decide +kernel⟩ ⟨Nat.le_of_ble_eq_true rfl, Nat.le_of_ble_eq_true rfl⟩ rfl (Nat.le_of_ble_eq_true rfl) dL_law_857 ⟨(zk3 hcb (Nat.le_of_ble_eq_true rfl)), (zk3 hsb (Nat.le_of_ble_eq_true rfl))⟩) rfl (zk2 (Nat.le_of_ble_eq_true rfl)) (zk2 (Nat.le_of_ble_eq_true rfl)) ?_
                                          refine z_istore (lv' := [(16, .int r53), (0, .ref a0), (1, .ref a1), (2, .ref a2), (3, .int x3), (4, .int x4), (5, .int x5), (6, .long r2.1), (8, .int r4.1), (13, .int r6.1), (15, .int r23)]) (pc := 860) C dL_law_860 (by decide) rfl ?_
                                          refine z_iconst (v := (0 : Int32)) (pc := 862) C dL_law_862 (by decide) ?_
                                          refine z_istore (lv' := [(17, .int (0 : Int32)), (16, .int r53), (0, .ref a0), (1, .ref a1), (2, .ref a2), (3, .int x3), (4, .int x4), (5, .int x5), (6, .long r2.1), (8, .int r4.1), (13, .int r6.1), (15, .int r23)]) (pc := 863) C dL_law_863 (by decide) rfl ?_
                                          refine z_sub [2, 3, 4, 5, 6, 7, 8, 9, 10, 11, 1, 0] rfl (zl1 (fun (x17_54 : Int32) => [(0, .ref a0), (1, .ref a1), (2, .ref a2), (3, .int x3), (4, .int x4), (5, .int x5), (6, .long r2.1), (8, .int r4.1), (13, .int r6.1), (15, .int r23), (16, .int r53), (17, .int x17_54)]) (fun (x17_54 : Int32) => r28.2) (fun (x17_54 : Int32) => nx) hM (fun rec54 irec54 x17_54 hM => ?_))
                                          refine z_iload (k := 11) (pc := 865) C dL_law_865 rfl ?_
                                          refine z_iload (k := 8) (pc := 867) C dL_law_867 rfl ?_
                                          refine z_icmp_ge (pc := 869) (tgt := 905) C dL_law_869 (by decide) hM (fun hc71 hM => ?_) (fun hc71 hM => ?_)
                                          · refine z_aload_n (k := 1) (pc := 905) C dL_law_905 rfl ?_
                                            refine z_iload (k := 9) (pc := 906) C dL_law_906 rfl ?_
                                            obtain ⟨r55, g55, hM⟩ := z_tn_c hM
                                            refine z_goN (kc := (cells + 0)) (ks := (slots + 0)) ([.int r55.1]) (z_callV (pc := 908) (As := [.int r23]) (rest := []) (n := 1) (ci := 5) C (c_X4_roll l hl G lo t0 r28.2 nx a1 r23 (.inr r55) g55) g52 rfl q_225 q_226 q_227 q_2 q_228 ⟨rfl, by decide +kernel, by decide +kernel, by decide +kernel⟩ ⟨Nat.le_of_ble_eq_true rfl, Nat.le_of_ble_eq_true rfl⟩ rfl (Nat.le_of_ble_eq_true rfl) dL_law_908 ⟨(zk3 hcb (Nat.le_of_ble_eq_true rfl)), (zk3 hsb (Nat.le_of_ble_eq_true rfl))⟩) rfl (zk2 (Nat.le_of_ble_eq_true rfl)) (zk2 (Nat.le_of_ble_eq_true rfl)) ?_
                                            refine z_if_ne (pc := 911) (tgt := 946) C dL_law_911 (by decide) hM (fun hc65 hM => ?_) (fun hc65 hM => ?_)
                                            · refine z_aload_n (k := 1) (pc := 914) C dL_law_914 rfl ?_
                                              refine z_iconst (v := (3 : Int32)) (pc := 915) C dL_law_915 (by decide) ?_
                                              obtain ⟨_, g56, hM⟩ := Option.bind_eq_some_iff.mp hM
                                              obtain ⟨r57, g57, hM⟩ := z_tn_c hM
                                              refine z_goN (kc := (cells + 0)) (ks := (slots + 0)) ([.int r57.1]) (z_callV (pc := 916) (As := [.int (3 : Int32)]) (rest := []) (n := 1) (ci := 5) C (c_X4_count l hl G lo t0 r55.2 nx a1 (3 : Int32) (.inr r57) g57) g56 rfl q_403 q_404 q_405 q_2 q_406 ⟨rfl, by decide +kernel, by decide +kernel, by decide +kernel⟩ ⟨Nat.le_of_ble_eq_true rfl, Nat.le_of_ble_eq_true rfl⟩ rfl (Nat.le_of_ble_eq_true rfl) dL_law_916 ⟨(zk3 hcb (Nat.le_of_ble_eq_true rfl)), (zk3 hsb (Nat.le_of_ble_eq_true rfl))⟩) rfl (zk2 (Nat.le_of_ble_eq_true rfl)) (zk2 (Nat.le_of_ble_eq_true rfl)) ?_
                                              refine z_iload (k := 7) (pc := 919) C dL_law_919 rfl ?_
                                              refine z_iload (k := 10) (pc := 921) C dL_law_921 rfl ?_
                                              refine z_isub (pc := 923) C dL_law_923 ?_
                                              refine z_icmp_ne (pc := 924) (tgt := 946) C dL_law_924 (by decide) hM (fun hc64 hM => ?_) (fun hc64 hM => ?_)
                                              · refine z_aload_n (k := 1) (pc := 927) C dL_law_927 rfl ?_
                                                refine z_iload (k := 9) (pc := 928) C dL_law_928 rfl ?_
                                                obtain ⟨_, g58, hM⟩ := Option.bind_eq_some_iff.mp hM
                                                obtain ⟨r59, g59, hM⟩ := z_tn_c hM
                                                refine z_goN (kc := (cells + 0)) (ks := (slots + 0)) ([.int r59.1]) (z_callV (pc := 930) (As := [.int r23]) (rest := []) (n := 1) (ci := 5) C (c_X4_roll l hl G lo t0 r57.2 nx a1 r23 (.inr r59) g59) g58 rfl q_225 q_226 q_227 q_2 q_228 ⟨rfl, by decide +kernel, by decide +kernel, by decide +kernel⟩ ⟨Nat.le_of_ble_eq_true rfl, Nat.le_of_ble_eq_true rfl⟩ rfl (Nat.le_of_ble_eq_true rfl) dL_law_930 ⟨(zk3 hcb (Nat.le_of_ble_eq_true rfl)), (zk3 hsb (Nat.le_of_ble_eq_true rfl))⟩) rfl (zk2 (Nat.le_of_ble_eq_true rfl)) (zk2 (Nat.le_of_ble_eq_true rfl)) ?_
                                                refine z_if_eq (pc := 933) (tgt := 946) C dL_law_933 (by decide) hM (fun hc63 hM => ?_) (fun hc63 hM => ?_)
                                                · cases hM
                                                · refine z_aload_n (k := 1) (pc := 936) C dL_law_936 rfl ?_
                                                  obtain ⟨_, g60, hM⟩ := Option.bind_eq_some_iff.mp hM
                                                  obtain ⟨r61, g61, hM⟩ := Option.bind_eq_some_iff.mp hM
                                                  refine z_goN (kc := (cells + 0)) (ks := (slots + 0)) ([.long r61.1]) (z_callV (pc := 937) (As := []) (rest := []) (n := 0) (ci := 5) C (c_X4_digest l hl G lo t0 r59.2 nx a1 r61 g61) g60 rfl q_448 q_449 q_450 q_2 q_451 ⟨rfl, by decide +kernel, by decide +kernel, by decide +kernel⟩ ⟨Nat.le_of_ble_eq_true rfl, Nat.le_of_ble_eq_true rfl⟩ rfl (Nat.le_of_ble_eq_true rfl) dL_law_937 ⟨(zk3 hcb (Nat.le_of_ble_eq_true rfl)), (zk3 hsb (Nat.le_of_ble_eq_true rfl))⟩) rfl (zk2 (Nat.le_of_ble_eq_true rfl)) (zk2 (Nat.le_of_ble_eq_true rfl)) ?_
                                                  refine z_lload (k := 6) (pc := 940) C dL_law_940 rfl ?_
                                                  refine z_lcmp (pc := 942) C dL_law_942 ?_
                                                  refine z_if_eq (pc := 943) (tgt := 948) C dL_law_943 (by decide) hM (fun hc62 hM => ?_) (fun hc62 hM => ?_)
                                                  · exact z_sub [0, 1, 2, 3, 4, 5] rfl (iJ29 r61.2 hM)
                                                  · cases hM
                                              · cases hM
                                            · cases hM
                                          · refine z_aload_n (k := 1) (pc := 872) C dL_law_872 rfl ?_
                                            refine z_iload (k := 11) (pc := 873) C dL_law_873 rfl ?_
                                            refine z_bipush (v := (6 : Int32)) (pc := 875) C dL_law_875 (by decide) ?_
                                            obtain ⟨r66, g66, hM⟩ := z_tn_c hM
                                            refine z_goN (kc := (cells + 0)) (ks := (slots + 0)) ([.int r66]) (z_callV (pc := 877) (As := [.int x17_54, .int (6 : Int32)]) (rest := []) (n := 2) (ci := 5) C (c_X4_about l hl G lo t0 r28.2 nx a1 x17_54 (6 : Int32) (.inr r66) g66) g52 rfl q_510 q_456 q_457 q_2 q_458 ⟨rfl, by decide +kernel, by decide +kernel, by decide +kernel⟩ ⟨Nat.le_of_ble_eq_true rfl, Nat.le_of_ble_eq_true rfl⟩ rfl (Nat.le_of_ble_eq_true rfl) dL_law_877 ⟨(zk3 hcb (Nat.le_of_ble_eq_true rfl)), (zk3 hsb (Nat.le_of_ble_eq_true rfl))⟩) rfl (zk2 (Nat.le_of_ble_eq_true rfl)) (zk2 (Nat.le_of_ble_eq_true rfl)) ?_
                                            refine z_iconst (v := (1 : Int32)) (pc := 880) C dL_law_880 (by decide) ?_
                                            refine zj0 (cells + 0) (slots + 0) 899 ([(0, .ref a0), (1, .ref a1), (2, .ref a2), (3, .int x3), (4, .int x4), (5, .int x5), (6, .long r2.1), (8, .int r4.1), (13, .int r6.1), (15, .int r23), (16, .int r53), (17, .int x17_54)]) ([]) (r28.2) (nx) hM (fun  hM => ?_) (fun J67 iJ67 hM => ?_)
                                            · refine z_iinc (k := 11) (v := (x17_54 + (1 : Int32))) (lv' := [(17, .int (x17_54 + (1 : Int32))), (0, .ref a0), (1, .ref a1), (2, .ref a2), (3, .int x3), (4, .int x4), (5, .int x5), (6, .long r2.1), (8, .int r4.1), (13, .int r6.1), (15, .int r23), (16, .int r53)]) (pc := 899) C dL_law_899 rfl (by first | rfl | decide) (by decide) rfl ?_
                                              refine z_goto (pc := 902) (tgt := 865) C dL_law_902 (by decide) ?_
                                              exact z_sub [1, 2, 3, 4, 5, 6, 7, 8, 9, 10, 11, 0] rfl (irec54 (x17_54 + (1 : Int32)) hM)
                                            refine z_icmp_ne (pc := 881) (tgt := 899) C dL_law_881 (by decide) hM (fun hc70 hM => ?_) (fun hc70 hM => ?_)
                                            · refine z_aload_n (k := 1) (pc := 884) C dL_law_884 rfl ?_
                                              refine z_iload (k := 11) (pc := 885) C dL_law_885 rfl ?_
                                              refine z_bipush (v := (7 : Int32)) (pc := 887) C dL_law_887 (by decide) ?_
                                              obtain ⟨r68, g68, hM⟩ := z_tn_c hM
                                              refine z_goN (kc := (cells + 0)) (ks := (slots + 0)) ([.int r68]) (z_callV (pc := 889) (As := [.int x17_54, .int (7 : Int32)]) (rest := []) (n := 2) (ci := 5) C (c_X4_about l hl G lo t0 r28.2 nx a1 x17_54 (7 : Int32) (.inr r68) g68) g52 rfl q_510 q_456 q_457 q_2 q_458 ⟨rfl, by decide +kernel, by decide +kernel, by decide +kernel⟩ ⟨Nat.le_of_ble_eq_true rfl, Nat.le_of_ble_eq_true rfl⟩ rfl (Nat.le_of_ble_eq_true rfl) dL_law_889 ⟨(zk3 hcb (Nat.le_of_ble_eq_true rfl)), (zk3 hsb (Nat.le_of_ble_eq_true rfl))⟩) rfl (zk2 (Nat.le_of_ble_eq_true rfl)) (zk2 (Nat.le_of_ble_eq_true rfl)) ?_
                                              refine z_iload (k := 10) (pc := 892) C dL_law_892 rfl ?_
                                              refine z_icmp_ge (pc := 894) (tgt := 899) C dL_law_894 (by decide) hM (fun hc69 hM => ?_) (fun hc69 hM => ?_)
                                              · exact z_sub [0, 1, 2, 3, 4, 5, 6, 7, 8, 9, 10, 11] rfl (iJ67 hM)
                                              · cases hM
                                            · exact z_sub [0, 1, 2, 3, 4, 5, 6, 7, 8, 9, 10, 11] rfl (iJ67 hM)
                                      · cases hM
                                    · cases hM
                                  refine z_if_ne (pc := 824) (tgt := 831) C dL_law_824 (by decide) hM (fun hc75 hM => ?_) (fun hc75 hM => ?_)
                                  · refine z_iconst (v := (1 : Int32)) (pc := 827) C dL_law_827 (by decide) ?_
                                    refine z_goto (pc := 828) (tgt := 832) C dL_law_828 (by decide) ?_
                                    exact z_sub [0, 1, 2, 3, 4, 5, 6, 7, 8, 9] rfl (iJ26 s0_24 (1 : Int32) hM)
                                  · refine z_iconst (v := (0 : Int32)) (pc := 831) C dL_law_831 (by decide) ?_
                                    exact z_sub [0, 1, 2, 3, 4, 5, 6, 7, 8, 9] rfl (iJ26 s0_24 (0 : Int32) hM)
                                refine z_if_ge (pc := 811) (tgt := 818) C dL_law_811 (by decide) hM (fun hc76 hM => ?_) (fun hc76 hM => ?_)
                                · refine z_iconst (v := (0 : Int32)) (pc := 818) C dL_law_818 (by decide) ?_
                                  exact z_sub [1, 2, 3, 4, 5, 6, 7, 8, 9, 0] rfl (iJ24 (0 : Int32) hM)
                                · refine z_iconst (v := (1 : Int32)) (pc := 814) C dL_law_814 (by decide) ?_
                                  refine z_goto (pc := 815) (tgt := 819) C dL_law_815 (by decide) ?_
                                  exact z_sub [1, 2, 3, 4, 5, 6, 7, 8, 9, 0] rfl (iJ24 (1 : Int32) hM)
                              · refine z_aload_n (k := 1) (pc := 756) C dL_law_756 rfl ?_
                                refine z_iload (k := 9) (pc := 757) C dL_law_757 rfl ?_
                                refine z_iconst (v := (2 : Int32)) (pc := 759) C dL_law_759 (by decide) ?_
                                obtain ⟨_, g77, hM⟩ := Option.bind_eq_some_iff.mp hM
                                obtain ⟨r78, g78, hM⟩ := z_tn_c hM
                                refine z_goN (kc := (cells + 0)) (ks := (slots + 0)) ([.int r78]) (z_callV (pc := 760) (As := [.int x15_19, .int (2 : Int32)]) (rest := []) (n := 2) (ci := 5) C (c_X4_told l hl G lo t0 r21.2 nx a1 x15_19 (2 : Int32) (.inr r78) g78) g77 rfl q_517 q_466 q_467 q_2 q_468 ⟨rfl, by decide +kernel, by decide +kernel, by decide +kernel⟩ ⟨Nat.le_of_ble_eq_true rfl, Nat.le_of_ble_eq_true rfl⟩ rfl (Nat.le_of_ble_eq_true rfl) dL_law_760 ⟨(zk3 hcb (Nat.le_of_ble_eq_true rfl)), (zk3 hsb (Nat.le_of_ble_eq_true rfl))⟩) rfl (zk2 (Nat.le_of_ble_eq_true rfl)) (zk2 (Nat.le_of_ble_eq_true rfl)) ?_
                                refine z_aload_n (k := 1) (pc := 763) C dL_law_763 rfl ?_
                                refine z_aload_n (k := 1) (pc := 764) C dL_law_764 rfl ?_
                                refine z_iload (k := 9) (pc := 765) C dL_law_765 rfl ?_
                                refine z_iconst (v := (0 : Int32)) (pc := 767) C dL_law_767 (by decide) ?_
                                obtain ⟨r79, g79, hM⟩ := z_tn_c hM
                                refine z_goN (kc := (cells + 0)) (ks := (slots + 0)) ([.int r79, .ref a1, .int r78]) (z_callV (pc := 768) (As := [.int x15_19, .int (0 : Int32)]) (rest := [.ref a1, .int r78]) (n := 2) (ci := 5) C (c_X4_told l hl G lo t0 r21.2 nx a1 x15_19 (0 : Int32) (.inr r79) g79) g77 rfl q_517 q_466 q_467 q_2 q_468 ⟨rfl, by decide +kernel, by decide +kernel, by decide +kernel⟩ ⟨Nat.le_of_ble_eq_true rfl, Nat.le_of_ble_eq_true rfl⟩ rfl (Nat.le_of_ble_eq_true rfl) dL_law_768 ⟨(zk3 hcb (Nat.le_of_ble_eq_true rfl)), (zk3 hsb (Nat.le_of_ble_eq_true rfl))⟩) rfl (zk2 (Nat.le_of_ble_eq_true rfl)) (zk2 (Nat.le_of_ble_eq_true rfl)) ?_
                                refine z_aload_n (k := 1) (pc := 771) C dL_law_771 rfl ?_
                                refine z_iload (k := 9) (pc := 772) C dL_law_772 rfl ?_
                                refine z_iconst (v := (1 : Int32)) (pc := 774) C dL_law_774 (by decide) ?_
                                obtain ⟨r80, g80, hM⟩ := z_tn_c hM
                                refine z_goN (kc := (cells + 0)) (ks := (slots + 0)) ([.int r80, .int r79, .ref a1, .int r78]) (z_callV (pc := 775) (As := [.int x15_19, .int (1 : Int32)]) (rest := [.int r79, .ref a1, .int r78]) (n := 2) (ci := 5) C (c_X4_told l hl G lo t0 r21.2 nx a1 x15_19 (1 : Int32) (.inr r80) g80) g77 rfl q_517 q_466 q_467 q_2 q_468 ⟨rfl, by decide +kernel, by decide +kernel, by decide +kernel⟩ ⟨Nat.le_of_ble_eq_true rfl, Nat.le_of_ble_eq_true rfl⟩ rfl (Nat.le_of_ble_eq_true rfl) dL_law_775 ⟨(zk3 hcb (Nat.le_of_ble_eq_true rfl)), (zk3 hsb (Nat.le_of_ble_eq_true rfl))⟩) rfl (zk2 (Nat.le_of_ble_eq_true rfl)) (zk2 (Nat.le_of_ble_eq_true rfl)) ?_
                                refine z_iconst (v := (2 : Int32)) (pc := 778) C dL_law_778 (by decide) ?_
                                obtain ⟨r81, g81, hM⟩ := z_tn_c hM
                                refine z_goN (kc := (cells + 0)) (ks := (slots + 0)) ([.int r81, .int r78]) (z_callV (pc := 779) (As := [.int r79, .int r80, .int (2 : Int32)]) (rest := [.int r78]) (n := 3) (ci := 5) C (c_X4_cell l hl G lo t0 r21.2 nx a1 r79 r80 (2 : Int32) (.inr r81) g81) g77 rfl q_509 q_504 q_505 q_2 q_506 ⟨rfl, by decide +kernel, by decide +kernel, by decide +kernel⟩ ⟨Nat.le_of_ble_eq_true rfl, Nat.le_of_ble_eq_true rfl⟩ rfl (Nat.le_of_ble_eq_true rfl) dL_law_779 ⟨(zk3 hcb (Nat.le_of_ble_eq_true rfl)), (zk3 hsb (Nat.le_of_ble_eq_true rfl))⟩) rfl (zk2 (Nat.le_of_ble_eq_true rfl)) (zk2 (Nat.le_of_ble_eq_true rfl)) ?_
                                refine z_icmp_gt (pc := 782) (tgt := 795) C dL_law_782 (by decide) hM (fun hc84 hM => ?_) (fun hc84 hM => ?_)
                                · cases hM
                                · refine z_aload_n (k := 1) (pc := 785) C dL_law_785 rfl ?_
                                  refine z_iload (k := 9) (pc := 786) C dL_law_786 rfl ?_
                                  refine z_iconst (v := (2 : Int32)) (pc := 788) C dL_law_788 (by decide) ?_
                                  obtain ⟨r82, g82, hM⟩ := z_tn_c hM
                                  refine z_goN (kc := (cells + 0)) (ks := (slots + 0)) ([.int r82]) (z_callV (pc := 789) (As := [.int x15_19, .int (2 : Int32)]) (rest := []) (n := 2) (ci := 5) C (c_X4_told l hl G lo t0 r21.2 nx a1 x15_19 (2 : Int32) (.inr r82) g82) g77 rfl q_517 q_466 q_467 q_2 q_468 ⟨rfl, by decide +kernel, by decide +kernel, by decide +kernel⟩ ⟨Nat.le_of_ble_eq_true rfl, Nat.le_of_ble_eq_true rfl⟩ rfl (Nat.le_of_ble_eq_true rfl) dL_law_789 ⟨(zk3 hcb (Nat.le_of_ble_eq_true rfl)), (zk3 hsb (Nat.le_of_ble_eq_true rfl))⟩) rfl (zk2 (Nat.le_of_ble_eq_true rfl)) (zk2 (Nat.le_of_ble_eq_true rfl)) ?_
                                  refine z_if_ge (pc := 792) (tgt := 797) C dL_law_792 (by decide) hM (fun hc83 hM => ?_) (fun hc83 hM => ?_)
                                  · refine z_iinc (k := 9) (v := (x15_19 + (1 : Int32))) (lv' := [(15, .int (x15_19 + (1 : Int32))), (0, .ref a0), (1, .ref a1), (2, .ref a2), (3, .int x3), (4, .int x4), (5, .int x5), (6, .long r2.1), (8, .int r4.1), (13, .int r6.1)]) (pc := 797) C dL_law_797 rfl (by first | rfl | decide) (by decide) rfl ?_
                                    refine z_goto (pc := 800) (tgt := 746) C dL_law_800 (by decide) ?_
                                    exact z_sub [1, 2, 3, 4, 5, 6, 7, 8, 9, 0] rfl (irec19 (x15_19 + (1 : Int32)) r21.2 hM)
                                  · cases hM
                            · cases hM
                          refine z_if_ne (pc := 730) (tgt := 737) C dL_law_730 (by decide) hM (fun hc87 hM => ?_) (fun hc87 hM => ?_)
                          · refine z_iconst (v := (1 : Int32)) (pc := 733) C dL_law_733 (by decide) ?_
                            refine z_goto (pc := 734) (tgt := 738) C dL_law_734 (by decide) ?_
                            exact z_sub [0, 1, 2, 3, 4, 5, 6, 7, 8] rfl (iJ18 s0_17 (1 : Int32) hM)
                          · refine z_iconst (v := (0 : Int32)) (pc := 737) C dL_law_737 (by decide) ?_
                            exact z_sub [0, 1, 2, 3, 4, 5, 6, 7, 8] rfl (iJ18 s0_17 (0 : Int32) hM)
                        refine z_if_ne (pc := 720) (tgt := 727) C dL_law_720 (by decide) hM (fun hc88 hM => ?_) (fun hc88 hM => ?_)
                        · refine z_iconst (v := (1 : Int32)) (pc := 723) C dL_law_723 (by decide) ?_
                          refine z_goto (pc := 724) (tgt := 728) C dL_law_724 (by decide) ?_
                          exact z_sub [1, 2, 3, 4, 5, 6, 7, 8, 13] rfl (iJ17 (1 : Int32) hM)
                        · refine z_iconst (v := (0 : Int32)) (pc := 727) C dL_law_727 (by decide) ?_
                          exact z_sub [1, 2, 3, 4, 5, 6, 7, 8, 13] rfl (iJ17 (0 : Int32) hM)
                · cases hM
              · cases hM
      · cases hM
    · refine z_aload_n (k := 1) (pc := 485) C dL_law_485 rfl ?_
      refine z_iload (k := 13) (pc := 486) C dL_law_486 rfl ?_
      refine z_bipush (v := (6 : Int32)) (pc := 488) C dL_law_488 (by decide) ?_
      obtain ⟨_, g98, hM⟩ := Option.bind_eq_some_iff.mp hM
      obtain ⟨r99, g99, hM⟩ := z_tn_c hM
      refine z_goN (kc := (cells + 0)) (ks := (slots + 0)) ([.int r99]) (z_callV (pc := 490) (As := [.int x14_8, .int (6 : Int32)]) (rest := []) (n := 2) (ci := 5) C (c_X4_about l hl G lo t0 h_7 nx a1 x14_8 (6 : Int32) (.inr r99) g99) g98 rfl q_510 q_456 q_457 q_2 q_458 ⟨rfl, by decide +kernel, by decide +kernel, by decide +kernel⟩ ⟨Nat.le_of_ble_eq_true rfl, Nat.le_of_ble_eq_true rfl⟩ rfl (Nat.le_of_ble_eq_true rfl) dL_law_490 ⟨(zk3 hcb (Nat.le_of_ble_eq_true rfl)), (zk3 hsb (Nat.le_of_ble_eq_true rfl))⟩) rfl (zk2 (Nat.le_of_ble_eq_true rfl)) (zk2 (Nat.le_of_ble_eq_true rfl)) ?_
      refine z_iconst (v := (1 : Int32)) (pc := 493) C dL_law_493 (by decide) ?_
      refine zj1 (cells + 0) (slots + 0) 516 (fun (s0_100 : Int32) => [(0, .ref a0), (1, .ref a1), (2, .ref a2), (3, .int x3), (4, .int x4), (5, .int x5), (6, .long r2.1), (8, .int r4.1), (9, .int x9_7), (10, .int x10_8), (11, .int x11_8), (12, .int x12_8), (13, .int r6.1), (14, .int x14_8)]) (fun (s0_100 : Int32) => [.int s0_100]) (fun (s0_100 : Int32) => h_7) (fun (s0_100 : Int32) => nx) hM (fun s0_100 hM => ?_) (fun J100 iJ100 hM => ?_)
      · refine z_istore (lv' := [(15, .int s0_100), (0, .ref a0), (1, .ref a1), (2, .ref a2), (3, .int x3), (4, .int x4), (5, .int x5), (6, .long r2.1), (8, .int r4.1), (9, .int x9_7), (10, .int x10_8), (11, .int x11_8), (12, .int x12_8), (13, .int r6.1), (14, .int x14_8)]) (pc := 516) C dL_law_516 (by decide) rfl ?_
        refine z_iload (k := 11) (pc := 518) C dL_law_518 rfl ?_
        refine z_iload (k := 0) (pc := 520) C dL_law_520 rfl ?_
        refine z_iadd (pc := 522) C dL_law_522 ?_
        refine z_istore (lv' := [(11, .int (x11_8 + s0_100)), (15, .int s0_100), (0, .ref a0), (1, .ref a1), (2, .ref a2), (3, .int x3), (4, .int x4), (5, .int x5), (6, .long r2.1), (8, .int r4.1), (9, .int x9_7), (10, .int x10_8), (12, .int x12_8), (13, .int r6.1), (14, .int x14_8)]) (pc := 523) C dL_law_523 (by decide) rfl ?_
        refine z_iload (k := 11) (pc := 525) C dL_law_525 rfl ?_
        refine z_aload_n (k := 3) (pc := 527) C dL_law_527 rfl ?_
        refine z_iload (k := 14) (pc := 528) C dL_law_528 rfl ?_
        refine z_bipush (v := (7 : Int32)) (pc := 530) C dL_law_530 (by decide) ?_
        obtain ⟨r101, g101, hM⟩ := z_tn_c hM
        refine z_goN (kc := (cells + 0)) (ks := (slots + 0)) ([.int r101, .int x10_8]) (z_callV (pc := 532) (As := [.int x14_8, .int (7 : Int32)]) (rest := [.int x10_8]) (n := 2) (ci := 5) C (c_X4_about l hl G lo t0 h_7 nx a1 x14_8 (7 : Int32) (.inr r101) g101) g98 rfl q_510 q_456 q_457 q_2 q_458 ⟨rfl, by decide +kernel, by decide +kernel, by decide +kernel⟩ ⟨Nat.le_of_ble_eq_true rfl, Nat.le_of_ble_eq_true rfl⟩ rfl (Nat.le_of_ble_eq_true rfl) dL_law_532 ⟨(zk3 hcb (Nat.le_of_ble_eq_true rfl)), (zk3 hsb (Nat.le_of_ble_eq_true rfl))⟩) rfl (zk2 (Nat.le_of_ble_eq_true rfl)) (zk2 (Nat.le_of_ble_eq_true rfl)) ?_
        refine z_iadd (pc := 535) C dL_law_535 ?_
        refine z_istore (lv' := [(10, .int (x10_8 + r101)), (11, .int (x11_8 + s0_100)), (15, .int s0_100), (0, .ref a0), (1, .ref a1), (2, .ref a2), (3, .int x3), (4, .int x4), (5, .int x5), (6, .long r2.1), (8, .int r4.1), (9, .int x9_7), (12, .int x12_8), (13, .int r6.1), (14, .int x14_8)]) (pc := 536) C dL_law_536 (by decide) rfl ?_
        refine z_iload (k := 12) (pc := 538) C dL_law_538 rfl ?_
        refine z_iload (k := 2) (pc := 540) C dL_law_540 rfl ?_
        refine z_max (pc := 542) C q_3 q_4 q_5 q_6 (Nat.le_of_ble_eq_true rfl) (Nat.le_of_ble_eq_true rfl) (zk0 hcb (Nat.le_of_ble_eq_true rfl)) (zk0 hsb (Nat.le_of_ble_eq_true rfl)) dL_law_542 ?_
        refine z_istore (lv' := [(12, .int (if x12_8 < s0_100 then s0_100 else x12_8)), (10, .int (x10_8 + r101)), (11, .int (x11_8 + s0_100)), (15, .int s0_100), (0, .ref a0), (1, .ref a1), (2, .ref a2), (3, .int x3), (4, .int x4), (5, .int x5), (6, .long r2.1), (8, .int r4.1), (9, .int x9_7), (13, .int r6.1), (14, .int x14_8)]) (pc := 545) C dL_law_545 (by decide) rfl ?_
        refine z_iload (k := 9) (pc := 547) C dL_law_547 rfl ?_
        refine z_iconst (v := (2 : Int32)) (pc := 549) C dL_law_549 (by decide) ?_
        refine z_ishr (pc := 550) C dL_law_550 ?_
        refine z_iload (k := 13) (pc := 551) C dL_law_551 rfl ?_
        obtain ⟨r102, g102, hM⟩ := Option.bind_eq_some_iff.mp hM
        refine z_goN (kc := (cells + 0)) (ks := (slots + 0)) ([.int r102]) (z_callS (pc := 553) (As := [.int (x5 >>> ((2 : Int32) &&& 31)), .int r6.1]) (rest := []) (n := 2) C (c_L_below l hl G lo t0 h_7 nx (x5 >>> ((2 : Int32) &&& 31)) r6.1 r102 g102) q_90 q_91 q_67 q_92 ⟨by decide +kernel, by decide +kernel, by decide +kernel⟩ ⟨Nat.le_of_ble_eq_true rfl, Nat.le_of_ble_eq_true rfl⟩ rfl (Nat.le_of_ble_eq_true rfl) dL_law_553 ⟨(zk3 hcb (Nat.le_of_ble_eq_true rfl)), (zk3 hsb (Nat.le_of_ble_eq_true rfl))⟩) rfl (zk2 (Nat.le_of_ble_eq_true rfl)) (zk2 (Nat.le_of_ble_eq_true rfl)) ?_
        refine z_istore (lv' := [(16, .int r102), (12, .int (if x12_8 < s0_100 then s0_100 else x12_8)), (10, .int (x10_8 + r101)), (11, .int (x11_8 + s0_100)), (15, .int s0_100), (0, .ref a0), (1, .ref a1), (2, .ref a2), (3, .int x3), (4, .int x4), (5, .int x5), (6, .long r2.1), (8, .int r4.1), (9, .int x9_7), (13, .int r6.1), (14, .int x14_8)]) (pc := 556) C dL_law_556 (by decide) rfl ?_
        refine z_aload_n (k := 6) (pc := 558) C dL_law_558 rfl ?_
        refine z_iload (k := 15) (pc := 559) C dL_law_559 rfl ?_
        refine z_bipush (v := (7 : Int32)) (pc := 561) C dL_law_561 (by decide) ?_
        obtain ⟨r103, g103, hM⟩ := z_tn_c hM
        refine z_goN (kc := (cells + 0)) (ks := (slots + 0)) ([.int r103]) (z_callV (pc := 563) (As := [.int x14_8, .int (7 : Int32)]) (rest := []) (n := 2) (ci := 5) C (c_X4_about l hl G lo t0 h_7 nx a1 x14_8 (7 : Int32) (.inr r103) g103) g98 rfl q_510 q_456 q_457 q_2 q_458 ⟨rfl, by decide +kernel, by decide +kernel, by decide +kernel⟩ ⟨Nat.le_of_ble_eq_true rfl, Nat.le_of_ble_eq_true rfl⟩ rfl (Nat.le_of_ble_eq_true rfl) dL_law_563 ⟨(zk3 hcb (Nat.le_of_ble_eq_true rfl)), (zk3 hsb (Nat.le_of_ble_eq_true rfl))⟩) rfl (zk2 (Nat.le_of_ble_eq_true rfl)) (zk2 (Nat.le_of_ble_eq_true rfl)) ?_
        refine z_iload (k := 4) (pc := 566) C dL_law_566 rfl ?_
        refine z_icmp_gt (pc := 568) (tgt := 616) C dL_law_568 (by decide) hM (fun hc111 hM => ?_) (fun hc111 hM => ?_)
        · cases hM
        · refine z_aload_n (k := 6) (pc := 571) C dL_law_571 rfl ?_
          refine z_iload (k := 15) (pc := 572) C dL_law_572 rfl ?_
          refine z_iload (k := 15) (pc := 574) C dL_law_574 rfl ?_
          obtain ⟨r104, g104, hM⟩ := z_tn_c hM
          refine z_goN (kc := (cells + 0)) (ks := (slots + 0)) ([.int r104]) (z_callV (pc := 576) (As := [.int x14_8, .int x14_8]) (rest := []) (n := 2) (ci := 5) C (c_X4_share l hl G lo t0 h_7 nx a1 x14_8 x14_8 (.inr r104) g104) g98 rfl q_511 q_512 q_513 q_2 q_514 ⟨rfl, by decide +kernel, by decide +kernel, by decide +kernel⟩ ⟨Nat.le_of_ble_eq_true rfl, Nat.le_of_ble_eq_true rfl⟩ rfl (Nat.le_of_ble_eq_true rfl) dL_law_576 ⟨(zk3 hcb (Nat.le_of_ble_eq_true rfl)), (zk3 hsb (Nat.le_of_ble_eq_true rfl))⟩) rfl (zk2 (Nat.le_of_ble_eq_true rfl)) (zk2 (Nat.le_of_ble_eq_true rfl)) ?_
          refine z_iload (k := 4) (pc := 579) C dL_law_579 rfl ?_
          refine z_icmp_ne (pc := 581) (tgt := 616) C dL_law_581 (by decide) hM (fun hc110 hM => ?_) (fun hc110 hM => ?_)
          · refine z_aload_n (k := 6) (pc := 584) C dL_law_584 rfl ?_
            refine z_iload (k := 15) (pc := 585) C dL_law_585 rfl ?_
            refine z_iload (k := 0) (pc := 587) C dL_law_587 rfl ?_
            obtain ⟨r105, g105, hM⟩ := z_tn_c hM
            refine z_goN (kc := (cells + 0)) (ks := (slots + 0)) ([.int r105]) (z_callV (pc := 589) (As := [.int x14_8, .int r102]) (rest := []) (n := 2) (ci := 5) C (c_X4_share l hl G lo t0 h_7 nx a1 x14_8 r102 (.inr r105) g105) g98 rfl q_511 q_512 q_513 q_2 q_514 ⟨rfl, by decide +kernel, by decide +kernel, by decide +kernel⟩ ⟨Nat.le_of_ble_eq_true rfl, Nat.le_of_ble_eq_true rfl⟩ rfl (Nat.le_of_ble_eq_true rfl) dL_law_589 ⟨(zk3 hcb (Nat.le_of_ble_eq_true rfl)), (zk3 hsb (Nat.le_of_ble_eq_true rfl))⟩) rfl (zk2 (Nat.le_of_ble_eq_true rfl)) (zk2 (Nat.le_of_ble_eq_true rfl)) ?_
            refine z_aload_n (k := 6) (pc := 592) C dL_law_592 rfl ?_
            refine z_iload (k := 0) (pc := 593) C dL_law_593 rfl ?_
            refine z_iload (k := 15) (pc := 595) C dL_law_595 rfl ?_
            obtain ⟨r106, g106, hM⟩ := z_tn_c hM
            refine z_goN (kc := (cells + 0)) (ks := (slots + 0)) ([.int r106, .int r105]) (z_callV (pc := 597) (As := [.int r102, .int x14_8]) (rest := [.int r105]) (n := 2) (ci := 5) C (c_X4_share l hl G lo t0 h_7 nx a1 r102 x14_8 (.inr r106) g106) g98 rfl q_511 q_512 q_513 q_2 q_514 ⟨rfl, by decide +kernel, by decide +kernel, by decide +kernel⟩ ⟨Nat.le_of_ble_eq_true rfl, Nat.le_of_ble_eq_true rfl⟩ rfl (Nat.le_of_ble_eq_true rfl) dL_law_597 ⟨(zk3 hcb (Nat.le_of_ble_eq_true rfl)), (zk3 hsb (Nat.le_of_ble_eq_true rfl))⟩) rfl (zk2 (Nat.le_of_ble_eq_true rfl)) (zk2 (Nat.le_of_ble_eq_true rfl)) ?_
            refine z_icmp_ne (pc := 600) (tgt := 616) C dL_law_600 (by decide) hM (fun hc109 hM => ?_) (fun hc109 hM => ?_)
            · refine z_aload_n (k := 6) (pc := 603) C dL_law_603 rfl ?_
              refine z_iload (k := 15) (pc := 604) C dL_law_604 rfl ?_
              refine z_iload (k := 0) (pc := 606) C dL_law_606 rfl ?_
              obtain ⟨r107, g107, hM⟩ := z_tn_c hM
              refine z_goN (kc := (cells + 0)) (ks := (slots + 0)) ([.int r107]) (z_callV (pc := 608) (As := [.int x14_8, .int r102]) (rest := []) (n := 2) (ci := 5) C (c_X4_share l hl G lo t0 h_7 nx a1 x14_8 r102 (.inr r107) g107) g98 rfl q_511 q_512 q_513 q_2 q_514 ⟨rfl, by decide +kernel, by decide +kernel, by decide +kernel⟩ ⟨Nat.le_of_ble_eq_true rfl, Nat.le_of_ble_eq_true rfl⟩ rfl (Nat.le_of_ble_eq_true rfl) dL_law_608 ⟨(zk3 hcb (Nat.le_of_ble_eq_true rfl)), (zk3 hsb (Nat.le_of_ble_eq_true rfl))⟩) rfl (zk2 (Nat.le_of_ble_eq_true rfl)) (zk2 (Nat.le_of_ble_eq_true rfl)) ?_
              refine z_iload (k := 4) (pc := 611) C dL_law_611 rfl ?_
              refine z_icmp_le (pc := 613) (tgt := 618) C dL_law_613 (by decide) hM (fun hc108 hM => ?_) (fun hc108 hM => ?_)
              · refine z_iinc (k := 15) (v := (x14_8 + (1 : Int32))) (lv' := [(14, .int (x14_8 + (1 : Int32))), (16, .int r102), (12, .int (if x12_8 < s0_100 then s0_100 else x12_8)), (10, .int (x10_8 + r101)), (11, .int (x11_8 + s0_100)), (15, .int s0_100), (0, .ref a0), (1, .ref a1), (2, .ref a2), (3, .int x3), (4, .int x4), (5, .int x5), (6, .long r2.1), (8, .int r4.1), (9, .int x9_7), (13, .int r6.1)]) (pc := 618) C dL_law_618 rfl (by first | rfl | decide) (by decide) rfl ?_
                refine z_goto (pc := 621) (tgt := 478) C dL_law_621 (by decide) ?_
                exact z_sub [6, 7, 8, 9, 10, 11, 12, 13, 14, 3, 4, 2, 15, 0] rfl (irec8 (x10_8 + r101) (x11_8 + s0_100) (if x12_8 < s0_100 then s0_100 else x12_8) (x14_8 + (1 : Int32)) hM)
              · cases hM
            · cases hM
          · cases hM
      refine z_icmp_ne (pc := 494) (tgt := 515) C dL_law_494 (by decide) hM (fun hc114 hM => ?_) (fun hc114 hM => ?_)
      · refine z_aload_n (k := 1) (pc := 497) C dL_law_497 rfl ?_
        refine z_iload (k := 13) (pc := 498) C dL_law_498 rfl ?_
        refine z_iconst (v := (2 : Int32)) (pc := 500) C dL_law_500 (by decide) ?_
        obtain ⟨r112, g112, hM⟩ := z_tn_c hM
        refine z_goN (kc := (cells + 0)) (ks := (slots + 0)) ([.int r112]) (z_callV (pc := 501) (As := [.int x14_8, .int (2 : Int32)]) (rest := []) (n := 2) (ci := 5) C (c_X4_about l hl G lo t0 h_7 nx a1 x14_8 (2 : Int32) (.inr r112) g112) g98 rfl q_510 q_456 q_457 q_2 q_458 ⟨rfl, by decide +kernel, by decide +kernel, by decide +kernel⟩ ⟨Nat.le_of_ble_eq_true rfl, Nat.le_of_ble_eq_true rfl⟩ rfl (Nat.le_of_ble_eq_true rfl) dL_law_501 ⟨(zk3 hcb (Nat.le_of_ble_eq_true rfl)), (zk3 hsb (Nat.le_of_ble_eq_true rfl))⟩) rfl (zk2 (Nat.le_of_ble_eq_true rfl)) (zk2 (Nat.le_of_ble_eq_true rfl)) ?_
        refine z_aload_n (k := 1) (pc := 504) C dL_law_504 rfl ?_
        refine z_iload (k := 13) (pc := 505) C dL_law_505 rfl ?_
        refine z_iconst (v := (3 : Int32)) (pc := 507) C dL_law_507 (by decide) ?_
        obtain ⟨r113, g113, hM⟩ := z_tn_c hM
        refine z_goN (kc := (cells + 0)) (ks := (slots + 0)) ([.int r113, .int r112]) (z_callV (pc := 508) (As := [.int x14_8, .int (3 : Int32)]) (rest := [.int r112]) (n := 2) (ci := 5) C (c_X4_about l hl G lo t0 h_7 nx a1 x14_8 (3 : Int32) (.inr r113) g113) g98 rfl q_510 q_456 q_457 q_2 q_458 ⟨rfl, by decide +kernel, by decide +kernel, by decide +kernel⟩ ⟨Nat.le_of_ble_eq_true rfl, Nat.le_of_ble_eq_true rfl⟩ rfl (Nat.le_of_ble_eq_true rfl) dL_law_508 ⟨(zk3 hcb (Nat.le_of_ble_eq_true rfl)), (zk3 hsb (Nat.le_of_ble_eq_true rfl))⟩) rfl (zk2 (Nat.le_of_ble_eq_true rfl)) (zk2 (Nat.le_of_ble_eq_true rfl)) ?_
        refine z_imul (pc := 511) C dL_law_511 ?_
        refine z_goto (pc := 512) (tgt := 516) C dL_law_512 (by decide) ?_
        exact z_sub [0, 1, 2, 3, 4, 5, 6, 7, 8, 9, 10, 11, 12, 13] rfl (iJ100 (r112 * r113) hM)
      · refine z_iconst (v := (0 : Int32)) (pc := 515) C dL_law_515 (by decide) ?_
        exact z_sub [0, 1, 2, 3, 4, 5, 6, 7, 8, 9, 10, 11, 12, 13] rfl (iJ100 (0 : Int32) hM)
  · refine z_iload (k := 8) (pc := 126) C dL_law_126 rfl ?_
    refine z_aload_n (k := 1) (pc := 128) C dL_law_128 rfl ?_
    refine z_iload (k := 13) (pc := 129) C dL_law_129 rfl ?_
    refine z_iconst (v := (0 : Int32)) (pc := 131) C dL_law_131 (by decide) ?_
    obtain ⟨_, g116, hM⟩ := Option.bind_eq_some_iff.mp hM
    obtain ⟨r117, g117, hM⟩ := z_tn_c hM
    refine z_goN (kc := (cells + 0)) (ks := (slots + 0)) ([.int r117, .int x9_7]) (z_callV (pc := 132) (As := [.int x14_7, .int (0 : Int32)]) (rest := [.int x9_7]) (n := 2) (ci := 5) C (c_X4_cord l hl G lo t0 h_7 nx a1 x14_7 (0 : Int32) (.inr r117) g117) g116 rfl q_508 q_483 q_484 q_2 q_485 ⟨rfl, by decide +kernel, by decide +kernel, by decide +kernel⟩ ⟨Nat.le_of_ble_eq_true rfl, Nat.le_of_ble_eq_true rfl⟩ rfl (Nat.le_of_ble_eq_true rfl) dL_law_132 ⟨(zk3 hcb (Nat.le_of_ble_eq_true rfl)), (zk3 hsb (Nat.le_of_ble_eq_true rfl))⟩) rfl (zk2 (Nat.le_of_ble_eq_true rfl)) (zk2 (Nat.le_of_ble_eq_true rfl)) ?_
    refine z_iadd (pc := 135) C dL_law_135 ?_
    refine z_istore (lv' := [(9, .int (x9_7 + r117)), (0, .ref a0), (1, .ref a1), (2, .ref a2), (3, .int x3), (4, .int x4), (5, .int x5), (6, .long r2.1), (8, .int r4.1), (10, .int (0 : Int32)), (11, .int (0 : Int32)), (12, .int (0 : Int32)), (13, .int r6.1), (14, .int x14_7)]) (pc := 136) C dL_law_136 (by decide) rfl ?_
    refine z_aload_n (k := 2) (pc := 138) C dL_law_138 rfl ?_
    refine z_iload (k := 13) (pc := 139) C dL_law_139 rfl ?_
    refine z_iconst (v := (2 : Int32)) (pc := 141) C dL_law_141 (by decide) ?_
    obtain ⟨r118, g118, hM⟩ := z_tn_c hM
    refine z_goN (kc := (cells + 0)) (ks := (slots + 0)) ([.int r118]) (z_callV (pc := 142) (As := [.int x14_7, .int (2 : Int32)]) (rest := []) (n := 2) (ci := 5) C (c_X4_cord l hl G lo t0 h_7 nx a1 x14_7 (2 : Int32) (.inr r118) g118) g116 rfl q_508 q_483 q_484 q_2 q_485 ⟨rfl, by decide +kernel, by decide +kernel, by decide +kernel⟩ ⟨Nat.le_of_ble_eq_true rfl, Nat.le_of_ble_eq_true rfl⟩ rfl (Nat.le_of_ble_eq_true rfl) dL_law_142 ⟨(zk3 hcb (Nat.le_of_ble_eq_true rfl)), (zk3 hsb (Nat.le_of_ble_eq_true rfl))⟩) rfl (zk2 (Nat.le_of_ble_eq_true rfl)) (zk2 (Nat.le_of_ble_eq_true rfl)) ?_
    refine z_aload_n (k := 2) (pc := 145) C dL_law_145 rfl ?_
    refine z_iload (k := 13) (pc := 146) C dL_law_146 rfl ?_
    refine z_iconst (v := (0 : Int32)) (pc := 148) C dL_law_148 (by decide) ?_
    obtain ⟨r119, g119, hM⟩ := z_tn_c hM
    refine z_goN (kc := (cells + 0)) (ks := (slots + 0)) ([.int r119, .int r118]) (z_callV (pc := 149) (As := [.int x14_7, .int (0 : Int32)]) (rest := [.int r118]) (n := 2) (ci := 5) C (c_X4_cord l hl G lo t0 h_7 nx a1 x14_7 (0 : Int32) (.inr r119) g119) g116 rfl q_508 q_483 q_484 q_2 q_485 ⟨rfl, by decide +kernel, by decide +kernel, by decide +kernel⟩ ⟨Nat.le_of_ble_eq_true rfl, Nat.le_of_ble_eq_true rfl⟩ rfl (Nat.le_of_ble_eq_true rfl) dL_law_149 ⟨(zk3 hcb (Nat.le_of_ble_eq_true rfl)), (zk3 hsb (Nat.le_of_ble_eq_true rfl))⟩) rfl (zk2 (Nat.le_of_ble_eq_true rfl)) (zk2 (Nat.le_of_ble_eq_true rfl)) ?_
    refine z_icmp_gt (pc := 152) (tgt := 230) C dL_law_152 (by decide) hM (fun hc175 hM => ?_) (fun hc175 hM => ?_)
    · cases hM
    · refine z_aload_n (k := 2) (pc := 155) C dL_law_155 rfl ?_
      refine z_iload (k := 13) (pc := 156) C dL_law_156 rfl ?_
      refine z_iconst (v := (1 : Int32)) (pc := 158) C dL_law_158 (by decide) ?_
      obtain ⟨r120, g120, hM⟩ := z_tn_c hM
      refine z_goN (kc := (cells + 0)) (ks := (slots + 0)) ([.int r120]) (z_callV (pc := 159) (As := [.int x14_7, .int (1 : Int32)]) (rest := []) (n := 2) (ci := 5) C (c_X4_cord l hl G lo t0 h_7 nx a1 x14_7 (1 : Int32) (.inr r120) g120) g116 rfl q_508 q_483 q_484 q_2 q_485 ⟨rfl, by decide +kernel, by decide +kernel, by decide +kernel⟩ ⟨Nat.le_of_ble_eq_true rfl, Nat.le_of_ble_eq_true rfl⟩ rfl (Nat.le_of_ble_eq_true rfl) dL_law_159 ⟨(zk3 hcb (Nat.le_of_ble_eq_true rfl)), (zk3 hsb (Nat.le_of_ble_eq_true rfl))⟩) rfl (zk2 (Nat.le_of_ble_eq_true rfl)) (zk2 (Nat.le_of_ble_eq_true rfl)) ?_
      refine z_aload_n (k := 2) (pc := 162) C dL_law_162 rfl ?_
      refine z_iload (k := 13) (pc := 163) C dL_law_163 rfl ?_
      refine z_iconst (v := (0 : Int32)) (pc := 165) C dL_law_165 (by decide) ?_
      obtain ⟨r121, g121, hM⟩ := z_tn_c hM
      refine z_goN (kc := (cells + 0)) (ks := (slots + 0)) ([.int r121, .int r120]) (z_callV (pc := 166) (As := [.int x14_7, .int (0 : Int32)]) (rest := [.int r120]) (n := 2) (ci := 5) C (c_X4_cord l hl G lo t0 h_7 nx a1 x14_7 (0 : Int32) (.inr r121) g121) g116 rfl q_508 q_483 q_484 q_2 q_485 ⟨rfl, by decide +kernel, by decide +kernel, by decide +kernel⟩ ⟨Nat.le_of_ble_eq_true rfl, Nat.le_of_ble_eq_true rfl⟩ rfl (Nat.le_of_ble_eq_true rfl) dL_law_166 ⟨(zk3 hcb (Nat.le_of_ble_eq_true rfl)), (zk3 hsb (Nat.le_of_ble_eq_true rfl))⟩) rfl (zk2 (Nat.le_of_ble_eq_true rfl)) (zk2 (Nat.le_of_ble_eq_true rfl)) ?_
      refine z_icmp_gt (pc := 169) (tgt := 230) C dL_law_169 (by decide) hM (fun hc174 hM => ?_) (fun hc174 hM => ?_)
      · cases hM
      · refine z_aload_n (k := 2) (pc := 172) C dL_law_172 rfl ?_
        refine z_iload (k := 13) (pc := 173) C dL_law_173 rfl ?_
        refine z_iconst (v := (0 : Int32)) (pc := 175) C dL_law_175 (by decide) ?_
        obtain ⟨r122, g122, hM⟩ := z_tn_c hM
        refine z_goN (kc := (cells + 0)) (ks := (slots + 0)) ([.int r122]) (z_callV (pc := 176) (As := [.int x14_7, .int (0 : Int32)]) (rest := []) (n := 2) (ci := 5) C (c_X4_cord l hl G lo t0 h_7 nx a1 x14_7 (0 : Int32) (.inr r122) g122) g116 rfl q_508 q_483 q_484 q_2 q_485 ⟨rfl, by decide +kernel, by decide +kernel, by decide +kernel⟩ ⟨Nat.le_of_ble_eq_true rfl, Nat.le_of_ble_eq_true rfl⟩ rfl (Nat.le_of_ble_eq_true rfl) dL_law_176 ⟨(zk3 hcb (Nat.le_of_ble_eq_true rfl)), (zk3 hsb (Nat.le_of_ble_eq_true rfl))⟩) rfl (zk2 (Nat.le_of_ble_eq_true rfl)) (zk2 (Nat.le_of_ble_eq_true rfl)) ?_
        refine zj1 (cells + 0) (slots + 0) 187 (fun (s0_123 : Int32) => [(0, .ref a0), (1, .ref a1), (2, .ref a2), (3, .int x3), (4, .int x4), (5, .int x5), (6, .long r2.1), (8, .int r4.1), (9, .int (x9_7 + r117)), (10, .int (0 : Int32)), (11, .int (0 : Int32)), (12, .int (0 : Int32)), (13, .int r6.1), (14, .int x14_7)]) (fun (s0_123 : Int32) => [.int s0_123]) (fun (s0_123 : Int32) => h_7) (fun (s0_123 : Int32) => nx) hM (fun s0_123 hM => ?_) (fun J123 iJ123 hM => ?_)
        · refine z_aload_n (k := 1) (pc := 187) C dL_law_187 rfl ?_
          refine z_iload (k := 13) (pc := 188) C dL_law_188 rfl ?_
          refine z_iconst (v := (3 : Int32)) (pc := 190) C dL_law_190 (by decide) ?_
          obtain ⟨r124, g124, hM⟩ := z_tn_c hM
          refine z_goN (kc := (cells + 0)) (ks := (slots + 0)) ([.int r124, .int s0_123]) (z_callV (pc := 191) (As := [.int x14_7, .int (3 : Int32)]) (rest := [.int s0_123]) (n := 2) (ci := 5) C (c_X4_cord l hl G lo t0 h_7 nx a1 x14_7 (3 : Int32) (.inr r124) g124) g116 rfl q_508 q_483 q_484 q_2 q_485 ⟨rfl, by decide +kernel, by decide +kernel, by decide +kernel⟩ ⟨Nat.le_of_ble_eq_true rfl, Nat.le_of_ble_eq_true rfl⟩ rfl (Nat.le_of_ble_eq_true rfl) dL_law_191 ⟨(zk3 hcb (Nat.le_of_ble_eq_true rfl)), (zk3 hsb (Nat.le_of_ble_eq_true rfl))⟩) rfl (zk2 (Nat.le_of_ble_eq_true rfl)) (zk2 (Nat.le_of_ble_eq_true rfl)) ?_
          refine zj2 (cells + 0) (slots + 0) 202 (fun (s0_125 : Int32) (s1_125 : Int32) => [(0, .ref a0), (1, .ref a1), (2, .ref a2), (3, .int x3), (4, .int x4), (5, .int x5), (6, .long r2.1), (8, .int r4.1), (9, .int (x9_7 + r117)), (10, .int (0 : Int32)), (11, .int (0 : Int32)), (12, .int (0 : Int32)), (13, .int r6.1), (14, .int x14_7)]) (fun (s0_125 : Int32) (s1_125 : Int32) => [.int s1_125, .int s0_125]) (fun (s0_125 : Int32) (s1_125 : Int32) => h_7) (fun (s0_125 : Int32) (s1_125 : Int32) => nx) hM (fun s0_125 s1_125 hM => ?_) (fun J125 iJ125 hM => ?_)
          · refine z_icmp_ne (pc := 202) (tgt := 230) C dL_law_202 (by decide) hM (fun hc171 hM => ?_) (fun hc171 hM => ?_)
            · refine z_aload_n (k := 1) (pc := 205) C dL_law_205 rfl ?_
              refine z_iload (k := 13) (pc := 206) C dL_law_206 rfl ?_
              refine z_iconst (v := (1 : Int32)) (pc := 208) C dL_law_208 (by decide) ?_
              obtain ⟨r126, g126, hM⟩ := z_tn_c hM
              refine z_goN (kc := (cells + 0)) (ks := (slots + 0)) ([.int r126]) (z_callV (pc := 209) (As := [.int x14_7, .int (1 : Int32)]) (rest := []) (n := 2) (ci := 5) C (c_X4_cord l hl G lo t0 h_7 nx a1 x14_7 (1 : Int32) (.inr r126) g126) g116 rfl q_508 q_483 q_484 q_2 q_485 ⟨rfl, by decide +kernel, by decide +kernel, by decide +kernel⟩ ⟨Nat.le_of_ble_eq_true rfl, Nat.le_of_ble_eq_true rfl⟩ rfl (Nat.le_of_ble_eq_true rfl) dL_law_209 ⟨(zk3 hcb (Nat.le_of_ble_eq_true rfl)), (zk3 hsb (Nat.le_of_ble_eq_true rfl))⟩) rfl (zk2 (Nat.le_of_ble_eq_true rfl)) (zk2 (Nat.le_of_ble_eq_true rfl)) ?_
              refine z_aload_n (k := 1) (pc := 212) C dL_law_212 rfl ?_
              refine z_iload (k := 13) (pc := 213) C dL_law_213 rfl ?_
              refine z_iconst (v := (2 : Int32)) (pc := 215) C dL_law_215 (by decide) ?_
              obtain ⟨r127, g127, hM⟩ := z_tn_c hM
              refine z_goN (kc := (cells + 0)) (ks := (slots + 0)) ([.int r127, .int r126]) (z_callV (pc := 216) (As := [.int x14_7, .int (2 : Int32)]) (rest := [.int r126]) (n := 2) (ci := 5) C (c_X4_cord l hl G lo t0 h_7 nx a1 x14_7 (2 : Int32) (.inr r127) g127) g116 rfl q_508 q_483 q_484 q_2 q_485 ⟨rfl, by decide +kernel, by decide +kernel, by decide +kernel⟩ ⟨Nat.le_of_ble_eq_true rfl, Nat.le_of_ble_eq_true rfl⟩ rfl (Nat.le_of_ble_eq_true rfl) dL_law_216 ⟨(zk3 hcb (Nat.le_of_ble_eq_true rfl)), (zk3 hsb (Nat.le_of_ble_eq_true rfl))⟩) rfl (zk2 (Nat.le_of_ble_eq_true rfl)) (zk2 (Nat.le_of_ble_eq_true rfl)) ?_
              refine z_imul (pc := 219) C dL_law_219 ?_
              refine z_aload_n (k := 1) (pc := 220) C dL_law_220 rfl ?_
              refine z_iload (k := 13) (pc := 221) C dL_law_221 rfl ?_
              refine z_iconst (v := (0 : Int32)) (pc := 223) C dL_law_223 (by decide) ?_
              obtain ⟨r128, g128, hM⟩ := z_tn_c hM
              refine z_goN (kc := (cells + 0)) (ks := (slots + 0)) ([.int r128, .int (r126 * r127)]) (z_callV (pc := 224) (As := [.int x14_7, .int (0 : Int32)]) (rest := [.int (r126 * r127)]) (n := 2) (ci := 5) C (c_X4_cord l hl G lo t0 h_7 nx a1 x14_7 (0 : Int32) (.inr r128) g128) g116 rfl q_508 q_483 q_484 q_2 q_485 ⟨rfl, by decide +kernel, by decide +kernel, by decide +kernel⟩ ⟨Nat.le_of_ble_eq_true rfl, Nat.le_of_ble_eq_true rfl⟩ rfl (Nat.le_of_ble_eq_true rfl) dL_law_224 ⟨(zk3 hcb (Nat.le_of_ble_eq_true rfl)), (zk3 hsb (Nat.le_of_ble_eq_true rfl))⟩) rfl (zk2 (Nat.le_of_ble_eq_true rfl)) (zk2 (Nat.le_of_ble_eq_true rfl)) ?_
              refine z_icmp_ge (pc := 227) (tgt := 232) C dL_law_227 (by decide) hM (fun hc170 hM => ?_) (fun hc170 hM => ?_)
              · refine z_iload (k := 5) (pc := 232) C dL_law_232 rfl ?_
                refine z_iconst (v := (3 : Int32)) (pc := 234) C dL_law_234 (by decide) ?_
                refine z_ishr (pc := 235) C dL_law_235 ?_
                refine z_bipush (v := (24 : Int32)) (pc := 236) C dL_law_236 (by decide) ?_
                obtain ⟨r129, g129, hM⟩ := Option.bind_eq_some_iff.mp hM
                refine z_goN (kc := (cells + 0)) (ks := (slots + 0)) ([.int r129]) (z_callS (pc := 238) (As := [.int (x5 >>> ((3 : Int32) &&& 31)), .int (24 : Int32)]) (rest := []) (n := 2) C (c_L_below l hl G lo t0 h_7 nx (x5 >>> ((3 : Int32) &&& 31)) (24 : Int32) r129 g129) q_90 q_91 q_67 q_92 ⟨by decide +kernel, by decide +kernel, by decide +kernel⟩ ⟨Nat.le_of_ble_eq_true rfl, Nat.le_of_ble_eq_true rfl⟩ rfl (Nat.le_of_ble_eq_true rfl) dL_law_238 ⟨(zk3 hcb (Nat.le_of_ble_eq_true rfl)), (zk3 hsb (Nat.le_of_ble_eq_true rfl))⟩) rfl (zk2 (Nat.le_of_ble_eq_true rfl)) (zk2 (Nat.le_of_ble_eq_true rfl)) ?_
                refine z_istore (lv' := [(15, .int r129), (0, .ref a0), (1, .ref a1), (2, .ref a2), (3, .int x3), (4, .int x4), (5, .int x5), (6, .long r2.1), (8, .int r4.1), (9, .int (x9_7 + r117)), (10, .int (0 : Int32)), (11, .int (0 : Int32)), (12, .int (0 : Int32)), (13, .int r6.1), (14, .int x14_7)]) (pc := 241) C dL_law_241 (by decide) rfl ?_
                refine z_aload_n (k := 2) (pc := 243) C dL_law_243 rfl ?_
                refine z_iload (k := 14) (pc := 244) C dL_law_244 rfl ?_
                refine z_iload (k := 0) (pc := 246) C dL_law_246 rfl ?_
                refine z_iconst (v := (1 : Int32)) (pc := 248) C dL_law_248 (by decide) ?_
                obtain ⟨r130, g130, hM⟩ := z_tn_c hM
                refine z_goN (kc := (cells + 0)) (ks := (slots + 0)) ([.int r130]) (z_callV (pc := 249) (As := [.int x14_7, .int r129, .int (1 : Int32)]) (rest := []) (n := 3) (ci := 5) C (c_X4_cell l hl G lo t0 h_7 nx a1 x14_7 r129 (1 : Int32) (.inr r130) g130) g116 rfl q_509 q_504 q_505 q_2 q_506 ⟨rfl, by decide +kernel, by decide +kernel, by decide +kernel⟩ ⟨Nat.le_of_ble_eq_true rfl, Nat.le_of_ble_eq_true rfl⟩ rfl (Nat.le_of_ble_eq_true rfl) dL_law_249 ⟨(zk3 hcb (Nat.le_of_ble_eq_true rfl)), (zk3 hsb (Nat.le_of_ble_eq_true rfl))⟩) rfl (zk2 (Nat.le_of_ble_eq_true rfl)) (zk2 (Nat.le_of_ble_eq_true rfl)) ?_
                refine z_istore (lv' := [(16, .int r130), (15, .int r129), (0, .ref a0), (1, .ref a1), (2, .ref a2), (3, .int x3), (4, .int x4), (5, .int x5), (6, .long r2.1), (8, .int r4.1), (9, .int (x9_7 + r117)), (10, .int (0 : Int32)), (11, .int (0 : Int32)), (12, .int (0 : Int32)), (13, .int r6.1), (14, .int x14_7)]) (pc := 252) C dL_law_252 (by decide) rfl ?_
                refine z_iload (k := 0) (pc := 254) C dL_law_254 rfl ?_
                refine zj1 (cells + 0) (slots + 0) 264 (fun (s0_131 : Int32) => [(0, .ref a0), (1, .ref a1), (2, .ref a2), (3, .int x3), (4, .int x4), (5, .int x5), (6, .long r2.1), (8, .int r4.1), (9, .int (x9_7 + r117)), (10, .int (0 : Int32)), (11, .int (0 : Int32)), (12, .int (0 : Int32)), (13, .int r6.1), (14, .int x14_7), (15, .int r129), (16, .int r130)]) (fun (s0_131 : Int32) => [.int s0_131]) (fun (s0_131 : Int32) => h_7) (fun (s0_131 : Int32) => nx) hM (fun s0_131 hM => ?_) (fun J131 iJ131 hM => ?_)
                · refine z_aload_n (k := 1) (pc := 264) C dL_law_264 rfl ?_
                  refine z_iload (k := 13) (pc := 265) C dL_law_265 rfl ?_
                  refine z_iload (k := 14) (pc := 267) C dL_law_267 rfl ?_
                  refine z_iconst (v := (0 : Int32)) (pc := 269) C dL_law_269 (by decide) ?_
                  obtain ⟨r132, g132, hM⟩ := z_tn_c hM
                  refine z_goN (kc := (cells + 0)) (ks := (slots + 0)) ([.int r132, .int s0_131]) (z_callV (pc := 270) (As := [.int x14_7, .int r129, .int (0 : Int32)]) (rest := [.int s0_131]) (n := 3) (ci := 5) C (c_X4_cell l hl G lo t0 h_7 nx a1 x14_7 r129 (0 : Int32) (.inr r132) g132) g116 rfl q_509 q_504 q_505 q_2 q_506 ⟨rfl, by decide +kernel, by decide +kernel, by decide +kernel⟩ ⟨Nat.le_of_ble_eq_true rfl, Nat.le_of_ble_eq_true rfl⟩ rfl (Nat.le_of_ble_eq_true rfl) dL_law_270 ⟨(zk3 hcb (Nat.le_of_ble_eq_true rfl)), (zk3 hsb (Nat.le_of_ble_eq_true rfl))⟩) rfl (zk2 (Nat.le_of_ble_eq_true rfl)) (zk2 (Nat.le_of_ble_eq_true rfl)) ?_
                  refine zj2 (cells + 0) (slots + 0) 281 (fun (s0_133 : Int32) (s1_133 : Int32) => [(0, .ref a0), (1, .ref a1), (2, .ref a2), (3, .int x3), (4, .int x4), (5, .int x5), (6, .long r2.1), (8, .int r4.1), (9, .int (x9_7 + r117)), (10, .int (0 : Int32)), (11, .int (0 : Int32)), (12, .int (0 : Int32)), (13, .int r6.1), (14, .int x14_7), (15, .int r129), (16, .int r130)]) (fun (s0_133 : Int32) (s1_133 : Int32) => [.int s1_133, .int s0_133]) (fun (s0_133 : Int32) (s1_133 : Int32) => h_7) (fun (s0_133 : Int32) (s1_133 : Int32) => nx) hM (fun s0_133 s1_133 hM => ?_) (fun J133 iJ133 hM => ?_)
                  · refine z_icmp_ne (pc := 281) (tgt := 308) C dL_law_281 (by decide) hM (fun hc167 hM => ?_) (fun hc167 hM => ?_)
                    · refine z_iload (k := 15) (pc := 284) C dL_law_284 rfl ?_
                      refine z_iload (k := 12) (pc := 286) C dL_law_286 rfl ?_
                      refine z_icmp_ge (pc := 288) (tgt := 308) C dL_law_288 (by decide) hM (fun hc166 hM => ?_) (fun hc166 hM => ?_)
                      · cases hM
                      · refine z_aload_n (k := 1) (pc := 291) C dL_law_291 rfl ?_
                        refine z_iload (k := 13) (pc := 292) C dL_law_292 rfl ?_
                        refine z_iload (k := 14) (pc := 294) C dL_law_294 rfl ?_
                        refine z_iconst (v := (0 : Int32)) (pc := 296) C dL_law_296 (by decide) ?_
                        obtain ⟨r134, g134, hM⟩ := z_tn_c hM
                        refine z_goN (kc := (cells + 0)) (ks := (slots + 0)) ([.int r134]) (z_callV (pc := 297) (As := [.int x14_7, .int r129, .int (0 : Int32)]) (rest := []) (n := 3) (ci := 5) C (c_X4_cell l hl G lo t0 h_7 nx a1 x14_7 r129 (0 : Int32) (.inr r134) g134) g116 rfl q_509 q_504 q_505 q_2 q_506 ⟨rfl, by decide +kernel, by decide +kernel, by decide +kernel⟩ ⟨Nat.le_of_ble_eq_true rfl, Nat.le_of_ble_eq_true rfl⟩ rfl (Nat.le_of_ble_eq_true rfl) dL_law_297 ⟨(zk3 hcb (Nat.le_of_ble_eq_true rfl)), (zk3 hsb (Nat.le_of_ble_eq_true rfl))⟩) rfl (zk2 (Nat.le_of_ble_eq_true rfl)) (zk2 (Nat.le_of_ble_eq_true rfl)) ?_
                        refine z_aload_n (k := 1) (pc := 300) C dL_law_300 rfl ?_
                        refine z_iconst (v := (1 : Int32)) (pc := 301) C dL_law_301 (by decide) ?_
                        obtain ⟨r135, g135, hM⟩ := z_tn_c hM
                        refine z_goN (kc := (cells + 0)) (ks := (slots + 0)) ([.int r135.1, .int r134]) (z_callV (pc := 302) (As := [.int (1 : Int32)]) (rest := [.int r134]) (n := 1) (ci := 5) C (c_X4_count l hl G lo t0 h_7 nx a1 (1 : Int32) (.inr r135) g135) g116 rfl q_403 q_404 q_405 q_2 q_406 ⟨rfl, by decide +kernel, by decide +kernel, by decide +kernel⟩ ⟨Nat.le_of_ble_eq_true rfl, Nat.le_of_ble_eq_true rfl⟩ rfl (Nat.le_of_ble_eq_true rfl) dL_law_302 ⟨(zk3 hcb (Nat.le_of_ble_eq_true rfl)), (zk3 hsb (Nat.le_of_ble_eq_true rfl))⟩) rfl (zk2 (Nat.le_of_ble_eq_true rfl)) (zk2 (Nat.le_of_ble_eq_true rfl)) ?_
                        refine z_icmp_le (pc := 305) (tgt := 310) C dL_law_305 (by decide) hM (fun hc165 hM => ?_) (fun hc165 hM => ?_)
                        · refine z_iconst (v := (0 : Int32)) (pc := 310) C dL_law_310 (by decide) ?_
                          refine z_istore (lv' := [(17, .int (0 : Int32)), (0, .ref a0), (1, .ref a1), (2, .ref a2), (3, .int x3), (4, .int x4), (5, .int x5), (6, .long r2.1), (8, .int r4.1), (9, .int (x9_7 + r117)), (10, .int (0 : Int32)), (11, .int (0 : Int32)), (12, .int (0 : Int32)), (13, .int r6.1), (14, .int x14_7), (15, .int r129), (16, .int r130)]) (pc := 311) C dL_law_311 (by decide) rfl ?_
                          refine z_sub [1, 2, 3, 4, 5, 6, 7, 8, 9, 10, 11, 12, 13, 14, 15, 16, 0] rfl (zl1 (fun (x17_136 : Int32) => [(0, .ref a0), (1, .ref a1), (2, .ref a2), (3, .int x3), (4, .int x4), (5, .int x5), (6, .long r2.1), (8, .int r4.1), (9, .int (x9_7 + r117)), (10, .int (0 : Int32)), (11, .int (0 : Int32)), (12, .int (0 : Int32)), (13, .int r6.1), (14, .int x14_7), (15, .int r129), (16, .int r130), (17, .int x17_136)]) (fun (x17_136 : Int32) => r135.2) (fun (x17_136 : Int32) => nx) hM (fun rec136 irec136 x17_136 hM => ?_))
                          refine z_iload (k := 16) (pc := 313) C dL_law_313 rfl ?_
                          refine z_iload (k := 12) (pc := 315) C dL_law_315 rfl ?_
                          refine z_icmp_ge (pc := 317) (tgt := 469) C dL_law_317 (by decide) hM (fun hc164 hM => ?_) (fun hc164 hM => ?_)
                          · refine z_iinc (k := 13) (v := (x14_7 + (1 : Int32))) (lv' := [(14, .int (x14_7 + (1 : Int32))), (0, .ref a0), (1, .ref a1), (2, .ref a2), (3, .int x3), (4, .int x4), (5, .int x5), (6, .long r2.1), (8, .int r4.1), (9, .int (x9_7 + r117)), (10, .int (0 : Int32)), (11, .int (0 : Int32)), (12, .int (0 : Int32)), (13, .int r6.1), (15, .int r129), (16, .int r130), (17, .int x17_136)]) (pc := 469) C dL_law_469 rfl (by first | rfl | decide) (by decide) rfl ?_
                            refine z_goto (pc := 472) (tgt := 119) C dL_law_472 (by decide) ?_
                            exact z_sub [1, 2, 3, 4, 5, 6, 7, 8, 9, 10, 11, 12, 13, 0] rfl (irec7 (x9_7 + r117) (x14_7 + (1 : Int32)) r135.2 hM)
                          · refine z_aload_n (k := 1) (pc := 320) C dL_law_320 rfl ?_
                            refine z_iload (k := 16) (pc := 321) C dL_law_321 rfl ?_
                            refine z_bipush (v := (6 : Int32)) (pc := 323) C dL_law_323 (by decide) ?_
                            obtain ⟨_, g137, hM⟩ := Option.bind_eq_some_iff.mp hM
                            obtain ⟨r138, g138, hM⟩ := z_tn_c hM
                            refine z_goN (kc := (cells + 0)) (ks := (slots + 0)) ([.int r138]) (z_callV (pc := 325) (As := [.int x17_136, .int (6 : Int32)]) (rest := []) (n := 2) (ci := 5) C (c_X4_about l hl G lo t0 r135.2 nx a1 x17_136 (6 : Int32) (.inr r138) g138) g137 rfl q_510 q_456 q_457 q_2 q_458 ⟨rfl, by decide +kernel, by decide +kernel, by decide +kernel⟩ ⟨Nat.le_of_ble_eq_true rfl, Nat.le_of_ble_eq_true rfl⟩ rfl (Nat.le_of_ble_eq_true rfl) dL_law_325 ⟨(zk3 hcb (Nat.le_of_ble_eq_true rfl)), (zk3 hsb (Nat.le_of_ble_eq_true rfl))⟩) rfl (zk2 (Nat.le_of_ble_eq_true rfl)) (zk2 (Nat.le_of_ble_eq_true rfl)) ?_
                            refine z_iconst (v := (1 : Int32)) (pc := 328) C dL_law_328 (by decide) ?_
                            refine zj1 (cells + 0) (slots + 0) 401 (fun (s0_139 : Int32) => [(0, .ref a0), (1, .ref a1), (2, .ref a2), (3, .int x3), (4, .int x4), (5, .int x5), (6, .long r2.1), (8, .int r4.1), (9, .int (x9_7 + r117)), (10, .int (0 : Int32)), (11, .int (0 : Int32)), (12, .int (0 : Int32)), (13, .int r6.1), (14, .int x14_7), (15, .int r129), (16, .int r130), (17, .int x17_136)]) (fun (s0_139 : Int32) => [.int s0_139]) (fun (s0_139 : Int32) => r135.2) (fun (s0_139 : Int32) => nx) hM (fun s0_139 hM => ?_) (fun J139 iJ139 hM => ?_)
                            · refine z_istore (lv' := [(18, .int s0_139), (0, .ref a0), (1, .ref a1), (2, .ref a2), (3, .int x3), (4, .int x4), (5, .int x5), (6, .long r2.1), (8, .int r4.1), (9, .int (x9_7 + r117)), (10, .int (0 : Int32)), (11, .int (0 : Int32)), (12, .int (0 : Int32)), (13, .int r6.1), (14, .int x14_7), (15, .int r129), (16, .int r130), (17, .int x17_136)]) (pc := 401) C dL_law_401 (by decide) rfl ?_
                              refine z_iload (k := 17) (pc := 403) C dL_law_403 rfl ?_
                              refine z_iload (k := 16) (pc := 405) C dL_law_405 rfl ?_
                              refine zj0 (cells + 0) (slots + 0) 415 ([(0, .ref a0), (1, .ref a1), (2, .ref a2), (3, .int x3), (4, .int x4), (5, .int x5), (6, .long r2.1), (8, .int r4.1), (9, .int (x9_7 + r117)), (10, .int (0 : Int32)), (11, .int (0 : Int32)), (12, .int (0 : Int32)), (13, .int r6.1), (14, .int x14_7), (15, .int r129), (16, .int r130), (17, .int x17_136), (18, .int s0_139)]) ([]) (r135.2) (nx) hM (fun  hM => ?_) (fun J140 iJ140 hM => ?_)
                              · refine z_iload (k := 17) (pc := 415) C dL_law_415 rfl ?_
                                refine zj0 (cells + 0) (slots + 0) 463 ([(0, .ref a0), (1, .ref a1), (2, .ref a2), (3, .int x3), (4, .int x4), (5, .int x5), (6, .long r2.1), (8, .int r4.1), (9, .int (x9_7 + r117)), (10, .int (0 : Int32)), (11, .int (0 : Int32)), (12, .int (0 : Int32)), (13, .int r6.1), (14, .int x14_7), (15, .int r129), (16, .int r130), (17, .int x17_136)]) ([]) (r135.2) (nx) hM (fun  hM => ?_) (fun J141 iJ141 hM => ?_)
                                · refine z_iinc (k := 16) (v := (x17_136 + (1 : Int32))) (lv' := [(17, .int (x17_136 + (1 : Int32))), (0, .ref a0), (1, .ref a1), (2, .ref a2), (3, .int x3), (4, .int x4), (5, .int x5), (6, .long r2.1), (8, .int r4.1), (9, .int (x9_7 + r117)), (10, .int (0 : Int32)), (11, .int (0 : Int32)), (12, .int (0 : Int32)), (13, .int r6.1), (14, .int x14_7), (15, .int r129), (16, .int r130)]) (pc := 463) C dL_law_463 rfl (by first | rfl | decide) (by decide) rfl ?_
                                  refine z_goto (pc := 466) (tgt := 313) C dL_law_466 (by decide) ?_
                                  exact z_sub [1, 2, 3, 4, 5, 6, 7, 8, 9, 10, 11, 12, 13, 14, 15, 16, 0] rfl (irec136 (x17_136 + (1 : Int32)) hM)
                                refine z_if_eq (pc := 417) (tgt := 463) C dL_law_417 (by decide) hM (fun hc149 hM => ?_) (fun hc149 hM => ?_)
                                · exact z_sub [0, 1, 2, 3, 4, 5, 6, 7, 8, 9, 10, 11, 12, 13, 14, 15, 16] rfl (iJ141 hM)
                                · refine z_aload_n (k := 1) (pc := 420) C dL_law_420 rfl ?_
                                  refine z_iload (k := 16) (pc := 421) C dL_law_421 rfl ?_
                                  refine z_iconst (v := (4 : Int32)) (pc := 423) C dL_law_423 (by decide) ?_
                                  obtain ⟨r142, g142, hM⟩ := z_tn_c hM
                                  refine z_goN (kc := (cells + 0)) (ks := (slots + 0)) ([.int r142]) (z_callV (pc := 424) (As := [.int x17_136, .int (4 : Int32)]) (rest := []) (n := 2) (ci := 5) C (c_X4_about l hl G lo t0 r135.2 nx a1 x17_136 (4 : Int32) (.inr r142) g142) g137 rfl q_510 q_456 q_457 q_2 q_458 ⟨rfl, by decide +kernel, by decide +kernel, by decide +kernel⟩ ⟨Nat.le_of_ble_eq_true rfl, Nat.le_of_ble_eq_true rfl⟩ rfl (Nat.le_of_ble_eq_true rfl) dL_law_424 ⟨(zk3 hcb (Nat.le_of_ble_eq_true rfl)), (zk3 hsb (Nat.le_of_ble_eq_true rfl))⟩) rfl (zk2 (Nat.le_of_ble_eq_true rfl)) (zk2 (Nat.le_of_ble_eq_true rfl)) ?_
                                  refine z_aload_n (k := 1) (pc := 427) C dL_law_427 rfl ?_
                                  refine z_iload (k := 15) (pc := 428) C dL_law_428 rfl ?_
                                  refine z_iconst (v := (4 : Int32)) (pc := 430) C dL_law_430 (by decide) ?_
                                  obtain ⟨r143, g143, hM⟩ := z_tn_c hM
                                  refine z_goN (kc := (cells + 0)) (ks := (slots + 0)) ([.int r143, .int r142]) (z_callV (pc := 431) (As := [.int r130, .int (4 : Int32)]) (rest := [.int r142]) (n := 2) (ci := 5) C (c_X4_about l hl G lo t0 r135.2 nx a1 r130 (4 : Int32) (.inr r143) g143) g137 rfl q_510 q_456 q_457 q_2 q_458 ⟨rfl, by decide +kernel, by decide +kernel, by decide +kernel⟩ ⟨Nat.le_of_ble_eq_true rfl, Nat.le_of_ble_eq_true rfl⟩ rfl (Nat.le_of_ble_eq_true rfl) dL_law_431 ⟨(zk3 hcb (Nat.le_of_ble_eq_true rfl)), (zk3 hsb (Nat.le_of_ble_eq_true rfl))⟩) rfl (zk2 (Nat.le_of_ble_eq_true rfl)) (zk2 (Nat.le_of_ble_eq_true rfl)) ?_
                                  refine z_icmp_gt (pc := 434) (tgt := 461) C dL_law_434 (by decide) hM (fun hc148 hM => ?_) (fun hc148 hM => ?_)
                                  · cases hM
                                  · refine z_aload_n (k := 1) (pc := 437) C dL_law_437 rfl ?_
                                    refine z_iload (k := 16) (pc := 438) C dL_law_438 rfl ?_
                                    refine z_iconst (v := (4 : Int32)) (pc := 440) C dL_law_440 (by decide) ?_
                                    obtain ⟨r144, g144, hM⟩ := z_tn_c hM
                                    refine z_goN (kc := (cells + 0)) (ks := (slots + 0)) ([.int r144]) (z_callV (pc := 441) (As := [.int x17_136, .int (4 : Int32)]) (rest := []) (n := 2) (ci := 5) C (c_X4_about l hl G lo t0 r135.2 nx a1 x17_136 (4 : Int32) (.inr r144) g144) g137 rfl q_510 q_456 q_457 q_2 q_458 ⟨rfl, by decide +kernel, by decide +kernel, by decide +kernel⟩ ⟨Nat.le_of_ble_eq_true rfl, Nat.le_of_ble_eq_true rfl⟩ rfl (Nat.le_of_ble_eq_true rfl) dL_law_441 ⟨(zk3 hcb (Nat.le_of_ble_eq_true rfl)), (zk3 hsb (Nat.le_of_ble_eq_true rfl))⟩) rfl (zk2 (Nat.le_of_ble_eq_true rfl)) (zk2 (Nat.le_of_ble_eq_true rfl)) ?_
                                    refine z_aload_n (k := 1) (pc := 444) C dL_law_444 rfl ?_
                                    refine z_iload (k := 15) (pc := 445) C dL_law_445 rfl ?_
                                    refine z_iconst (v := (4 : Int32)) (pc := 447) C dL_law_447 (by decide) ?_
                                    obtain ⟨r145, g145, hM⟩ := z_tn_c hM
                                    refine z_goN (kc := (cells + 0)) (ks := (slots + 0)) ([.int r145, .int r144]) (z_callV (pc := 448) (As := [.int r130, .int (4 : Int32)]) (rest := [.int r144]) (n := 2) (ci := 5) C (c_X4_about l hl G lo t0 r135.2 nx a1 r130 (4 : Int32) (.inr r145) g145) g137 rfl q_510 q_456 q_457 q_2 q_458 ⟨rfl, by decide +kernel, by decide +kernel, by decide +kernel⟩ ⟨Nat.le_of_ble_eq_true rfl, Nat.le_of_ble_eq_true rfl⟩ rfl (Nat.le_of_ble_eq_true rfl) dL_law_448 ⟨(zk3 hcb (Nat.le_of_ble_eq_true rfl)), (zk3 hsb (Nat.le_of_ble_eq_true rfl))⟩) rfl (zk2 (Nat.le_of_ble_eq_true rfl)) (zk2 (Nat.le_of_ble_eq_true rfl)) ?_
                                    refine z_icmp_ne (pc := 451) (tgt := 463) C dL_law_451 (by decide) hM (fun hc147 hM => ?_) (fun hc147 hM => ?_)
                                    · refine z_iload (k := 16) (pc := 454) C dL_law_454 rfl ?_
                                      refine z_iload (k := 15) (pc := 456) C dL_law_456 rfl ?_
                                      refine z_icmp_ge (pc := 458) (tgt := 463) C dL_law_458 (by decide) hM (fun hc146 hM => ?_) (fun hc146 hM => ?_)
                                      · exact z_sub [0, 1, 2, 3, 4, 5, 6, 7, 8, 9, 10, 11, 12, 13, 14, 15, 16] rfl (iJ141 hM)
                                      · cases hM
                                    · exact z_sub [0, 1, 2, 3, 4, 5, 6, 7, 8, 9, 10, 11, 12, 13, 14, 15, 16] rfl (iJ141 hM)
                              refine z_icmp_ne (pc := 407) (tgt := 415) C dL_law_407 (by decide) hM (fun hc151 hM => ?_) (fun hc151 hM => ?_)
                              · refine z_iload (k := 0) (pc := 410) C dL_law_410 rfl ?_
                                refine z_if_eq (pc := 412) (tgt := 461) C dL_law_412 (by decide) hM (fun hc150 hM => ?_) (fun hc150 hM => ?_)
                                · cases hM
                                · exact z_sub [1, 2, 3, 4, 5, 6, 7, 8, 9, 10, 11, 12, 13, 14, 15, 16, 17, 0] rfl (iJ140 hM)
                              · exact z_sub [1, 2, 3, 4, 5, 6, 7, 8, 9, 10, 11, 12, 13, 14, 15, 16, 17, 0] rfl (iJ140 hM)
                            refine zj0 (cells + 0) (slots + 0) 400 ([(0, .ref a0), (1, .ref a1), (2, .ref a2), (3, .int x3), (4, .int x4), (5, .int x5), (6, .long r2.1), (8, .int r4.1), (9, .int (x9_7 + r117)), (10, .int (0 : Int32)), (11, .int (0 : Int32)), (12, .int (0 : Int32)), (13, .int r6.1), (14, .int x14_7), (15, .int r129), (16, .int r130), (17, .int x17_136)]) ([]) (r135.2) (nx) hM (fun  hM => ?_) (fun J152 iJ152 hM => ?_)
                            · refine z_iconst (v := (0 : Int32)) (pc := 400) C dL_law_400 (by decide) ?_
                              exact z_sub [0, 1, 2, 3, 4, 5, 6, 7, 8, 9, 10, 11, 12, 13, 14, 15, 16] rfl (iJ139 (0 : Int32) hM)
                            refine z_icmp_ne (pc := 329) (tgt := 400) C dL_law_329 (by decide) hM (fun hc163 hM => ?_) (fun hc163 hM => ?_)
                            · refine z_iload (k := 13) (pc := 332) C dL_law_332 rfl ?_
                              refine z_aload_n (k := 1) (pc := 334) C dL_law_334 rfl ?_
                              refine z_iload (k := 16) (pc := 335) C dL_law_335 rfl ?_
                              refine z_iconst (v := (0 : Int32)) (pc := 337) C dL_law_337 (by decide) ?_
                              obtain ⟨r153, g153, hM⟩ := z_tn_c hM
                              refine z_goN (kc := (cells + 0)) (ks := (slots + 0)) ([.int r153, .int x14_7]) (z_callV (pc := 338) (As := [.int x17_136, .int (0 : Int32)]) (rest := [.int x14_7]) (n := 2) (ci := 5) C (c_X4_about l hl G lo t0 r135.2 nx a1 x17_136 (0 : Int32) (.inr r153) g153) g137 rfl q_510 q_456 q_457 q_2 q_458 ⟨rfl, by decide +kernel, by decide +kernel, by decide +kernel⟩ ⟨Nat.le_of_ble_eq_true rfl, Nat.le_of_ble_eq_true rfl⟩ rfl (Nat.le_of_ble_eq_true rfl) dL_law_338 ⟨(zk3 hcb (Nat.le_of_ble_eq_true rfl)), (zk3 hsb (Nat.le_of_ble_eq_true rfl))⟩) rfl (zk2 (Nat.le_of_ble_eq_true rfl)) (zk2 (Nat.le_of_ble_eq_true rfl)) ?_
                              refine z_icmp_lt (pc := 341) (tgt := 400) C dL_law_341 (by decide) hM (fun hc162 hM => ?_) (fun hc162 hM => ?_)
                              · exact z_sub [0, 1, 2, 3, 4, 5, 6, 7, 8, 9, 10, 11, 12, 13, 14, 15, 16] rfl (iJ152 hM)
                              · refine z_iload (k := 13) (pc := 344) C dL_law_344 rfl ?_
                                refine z_aload_n (k := 1) (pc := 346) C dL_law_346 rfl ?_
                                refine z_iload (k := 16) (pc := 347) C dL_law_347 rfl ?_
                                refine z_iconst (v := (0 : Int32)) (pc := 349) C dL_law_349 (by decide) ?_
                                obtain ⟨r154, g154, hM⟩ := z_tn_c hM
                                refine z_goN (kc := (cells + 0)) (ks := (slots + 0)) ([.int r154, .int x14_7]) (z_callV (pc := 350) (As := [.int x17_136, .int (0 : Int32)]) (rest := [.int x14_7]) (n := 2) (ci := 5) C (c_X4_about l hl G lo t0 r135.2 nx a1 x17_136 (0 : Int32) (.inr r154) g154) g137 rfl q_510 q_456 q_457 q_2 q_458 ⟨rfl, by decide +kernel, by decide +kernel, by decide +kernel⟩ ⟨Nat.le_of_ble_eq_true rfl, Nat.le_of_ble_eq_true rfl⟩ rfl (Nat.le_of_ble_eq_true rfl) dL_law_350 ⟨(zk3 hcb (Nat.le_of_ble_eq_true rfl)), (zk3 hsb (Nat.le_of_ble_eq_true rfl))⟩) rfl (zk2 (Nat.le_of_ble_eq_true rfl)) (zk2 (Nat.le_of_ble_eq_true rfl)) ?_
                                refine z_aload_n (k := 1) (pc := 353) C dL_law_353 rfl ?_
                                refine z_iload (k := 16) (pc := 354) C dL_law_354 rfl ?_
                                refine z_iconst (v := (2 : Int32)) (pc := 356) C dL_law_356 (by decide) ?_
                                obtain ⟨r155, g155, hM⟩ := z_tn_c hM
                                refine z_goN (kc := (cells + 0)) (ks := (slots + 0)) ([.int r155, .int r154, .int x14_7]) (z_callV (pc := 357) (As := [.int x17_136, .int (2 : Int32)]) (rest := [.int r154, .int x14_7]) (n := 2) (ci := 5) C (c_X4_about l hl G lo t0 r135.2 nx a1 x17_136 (2 : Int32) (.inr r155) g155) g137 rfl q_510 q_456 q_457 q_2 q_458 ⟨rfl, by decide +kernel, by decide +kernel, by decide +kernel⟩ ⟨Nat.le_of_ble_eq_true rfl, Nat.le_of_ble_eq_true rfl⟩ rfl (Nat.le_of_ble_eq_true rfl) dL_law_357 ⟨(zk3 hcb (Nat.le_of_ble_eq_true rfl)), (zk3 hsb (Nat.le_of_ble_eq_true rfl))⟩) rfl (zk2 (Nat.le_of_ble_eq_true rfl)) (zk2 (Nat.le_of_ble_eq_true rfl)) ?_
                                refine z_iadd (pc := 360) C dL_law_360 ?_
                                refine z_icmp_ge (pc := 361) (tgt := 400) C dL_law_361 (by decide) hM (fun hc161 hM => ?_) (fun hc161 hM => ?_)
                                · exact z_sub [0, 1, 2, 3, 4, 5, 6, 7, 8, 9, 10, 11, 12, 13, 14, 15, 16] rfl (iJ152 hM)
                                · refine z_iload (k := 14) (pc := 364) C dL_law_364 rfl ?_
                                  refine z_aload_n (k := 1) (pc := 366) C dL_law_366 rfl ?_
                                  refine z_iload (k := 16) (pc := 367) C dL_law_367 rfl ?_
                                  refine z_iconst (v := (1 : Int32)) (pc := 369) C dL_law_369 (by decide) ?_
                                  obtain ⟨r156, g156, hM⟩ := z_tn_c hM
                                  refine z_goN (kc := (cells + 0)) (ks := (slots + 0)) ([.int r156, .int r129]) (z_callV (pc := 370) (As := [.int x17_136, .int (1 : Int32)]) (rest := [.int r129]) (n := 2) (ci := 5) C (c_X4_about l hl G lo t0 r135.2 nx a1 x17_136 (1 : Int32) (.inr r156) g156) g137 rfl q_510 q_456 q_457 q_2 q_458 ⟨rfl, by decide +kernel, by decide +kernel, by decide +kernel⟩ ⟨Nat.le_of_ble_eq_true rfl, Nat.le_of_ble_eq_true rfl⟩ rfl (Nat.le_of_ble_eq_true rfl) dL_law_370 ⟨(zk3 hcb (Nat.le_of_ble_eq_true rfl)), (zk3 hsb (Nat.le_of_ble_eq_true rfl))⟩) rfl (zk2 (Nat.le_of_ble_eq_true rfl)) (zk2 (Nat.le_of_ble_eq_true rfl)) ?_
                                  refine z_icmp_lt (pc := 373) (tgt := 400) C dL_law_373 (by decide) hM (fun hc160 hM => ?_) (fun hc160 hM => ?_)
                                  · exact z_sub [0, 1, 2, 3, 4, 5, 6, 7, 8, 9, 10, 11, 12, 13, 14, 15, 16] rfl (iJ152 hM)
                                  · refine z_iload (k := 14) (pc := 376) C dL_law_376 rfl ?_
                                    refine z_aload_n (k := 1) (pc := 378) C dL_law_378 rfl ?_
                                    refine z_iload (k := 16) (pc := 379) C dL_law_379 rfl ?_
                                    refine z_iconst (v := (1 : Int32)) (pc := 381) C dL_law_381 (by decide) ?_
                                    obtain ⟨r157, g157, hM⟩ := z_tn_c hM
                                    refine z_goN (kc := (cells + 0)) (ks := (slots + 0)) ([.int r157, .int r129]) (z_callV (pc := 382) (As := [.int x17_136, .int (1 : Int32)]) (rest := [.int r129]) (n := 2) (ci := 5) C (c_X4_about l hl G lo t0 r135.2 nx a1 x17_136 (1 : Int32) (.inr r157) g157) g137 rfl q_510 q_456 q_457 q_2 q_458 ⟨rfl, by decide +kernel, by decide +kernel, by decide +kernel⟩ ⟨Nat.le_of_ble_eq_true rfl, Nat.le_of_ble_eq_true rfl⟩ rfl (Nat.le_of_ble_eq_true rfl) dL_law_382 ⟨(zk3 hcb (Nat.le_of_ble_eq_true rfl)), (zk3 hsb (Nat.le_of_ble_eq_true rfl))⟩) rfl (zk2 (Nat.le_of_ble_eq_true rfl)) (zk2 (Nat.le_of_ble_eq_true rfl)) ?_
                                    refine z_aload_n (k := 1) (pc := 385) C dL_law_385 rfl ?_
                                    refine z_iload (k := 16) (pc := 386) C dL_law_386 rfl ?_
                                    refine z_iconst (v := (3 : Int32)) (pc := 388) C dL_law_388 (by decide) ?_
                                    obtain ⟨r158, g158, hM⟩ := z_tn_c hM
                                    refine z_goN (kc := (cells + 0)) (ks := (slots + 0)) ([.int r158, .int r157, .int r129]) (z_callV (pc := 389) (As := [.int x17_136, .int (3 : Int32)]) (rest := [.int r157, .int r129]) (n := 2) (ci := 5) C (c_X4_about l hl G lo t0 r135.2 nx a1 x17_136 (3 : Int32) (.inr r158) g158) g137 rfl q_510 q_456 q_457 q_2 q_458 ⟨rfl, by decide +kernel, by decide +kernel, by decide +kernel⟩ ⟨Nat.le_of_ble_eq_true rfl, Nat.le_of_ble_eq_true rfl⟩ rfl (Nat.le_of_ble_eq_true rfl) dL_law_389 ⟨(zk3 hcb (Nat.le_of_ble_eq_true rfl)), (zk3 hsb (Nat.le_of_ble_eq_true rfl))⟩) rfl (zk2 (Nat.le_of_ble_eq_true rfl)) (zk2 (Nat.le_of_ble_eq_true rfl)) ?_
                                    refine z_iadd (pc := 392) C dL_law_392 ?_
                                    refine z_icmp_ge (pc := 393) (tgt := 400) C dL_law_393 (by decide) hM (fun hc159 hM => ?_) (fun hc159 hM => ?_)
                                    · exact z_sub [0, 1, 2, 3, 4, 5, 6, 7, 8, 9, 10, 11, 12, 13, 14, 15, 16] rfl (iJ152 hM)
                                    · refine z_iconst (v := (1 : Int32)) (pc := 396) C dL_law_396 (by decide) ?_
                                      refine z_goto (pc := 397) (tgt := 401) C dL_law_397 (by decide) ?_
                                      exact z_sub [0, 1, 2, 3, 4, 5, 6, 7, 8, 9, 10, 11, 12, 13, 14, 15, 16] rfl (iJ139 (1 : Int32) hM)
                            · exact z_sub [0, 1, 2, 3, 4, 5, 6, 7, 8, 9, 10, 11, 12, 13, 14, 15, 16] rfl (iJ152 hM)
                        · cases hM
                    · cases hM
                  refine z_if_ne (pc := 273) (tgt := 280) C dL_law_273 (by decide) hM (fun hc168 hM => ?_) (fun hc168 hM => ?_)
                  · refine z_iconst (v := (1 : Int32)) (pc := 276) C dL_law_276 (by decide) ?_
                    refine z_goto (pc := 277) (tgt := 281) C dL_law_277 (by decide) ?_
                    exact z_sub [0, 1, 2, 3, 4, 5, 6, 7, 8, 9, 10, 11, 12, 13, 14, 15] rfl (iJ133 s0_131 (1 : Int32) hM)
                  · refine z_iconst (v := (0 : Int32)) (pc := 280) C dL_law_280 (by decide) ?_
                    exact z_sub [0, 1, 2, 3, 4, 5, 6, 7, 8, 9, 10, 11, 12, 13, 14, 15] rfl (iJ133 s0_131 (0 : Int32) hM)
                refine z_if_ge (pc := 256) (tgt := 263) C dL_law_256 (by decide) hM (fun hc169 hM => ?_) (fun hc169 hM => ?_)
                · refine z_iconst (v := (0 : Int32)) (pc := 263) C dL_law_263 (by decide) ?_
                  exact z_sub [2, 3, 4, 5, 6, 7, 8, 9, 10, 11, 12, 13, 14, 15, 1, 0] rfl (iJ131 (0 : Int32) hM)
                · refine z_iconst (v := (1 : Int32)) (pc := 259) C dL_law_259 (by decide) ?_
                  refine z_goto (pc := 260) (tgt := 264) C dL_law_260 (by decide) ?_
                  exact z_sub [2, 3, 4, 5, 6, 7, 8, 9, 10, 11, 12, 13, 14, 15, 1, 0] rfl (iJ131 (1 : Int32) hM)
              · cases hM
            · cases hM
          refine z_if_le (pc := 194) (tgt := 201) C dL_law_194 (by decide) hM (fun hc172 hM => ?_) (fun hc172 hM => ?_)
          · refine z_iconst (v := (0 : Int32)) (pc := 201) C dL_law_201 (by decide) ?_
            exact z_sub [0, 1, 2, 3, 4, 5, 6, 7, 8, 9, 10, 11, 12, 13] rfl (iJ125 s0_123 (0 : Int32) hM)
          · refine z_iconst (v := (1 : Int32)) (pc := 197) C dL_law_197 (by decide) ?_
            refine z_goto (pc := 198) (tgt := 202) C dL_law_198 (by decide) ?_
            exact z_sub [0, 1, 2, 3, 4, 5, 6, 7, 8, 9, 10, 11, 12, 13] rfl (iJ125 s0_123 (1 : Int32) hM)
        refine z_if_le (pc := 179) (tgt := 186) C dL_law_179 (by decide) hM (fun hc173 hM => ?_) (fun hc173 hM => ?_)
        · refine z_iconst (v := (0 : Int32)) (pc := 186) C dL_law_186 (by decide) ?_
          exact z_sub [1, 2, 3, 4, 5, 6, 7, 8, 0, 9, 10, 11, 12, 13] rfl (iJ123 (0 : Int32) hM)
        · refine z_iconst (v := (1 : Int32)) (pc := 182) C dL_law_182 (by decide) ?_
          refine z_goto (pc := 183) (tgt := 187) C dL_law_183 (by decide) ?_
          exact z_sub [1, 2, 3, 4, 5, 6, 7, 8, 0, 9, 10, 11, 12, 13] rfl (iJ123 (1 : Int32) hM)
