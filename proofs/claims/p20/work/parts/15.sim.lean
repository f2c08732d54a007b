/-! by program out of the bytecode (wip/whole/gen.py): the mirrors, then the walks -/
noncomputable def M_X5_init (h : zH) (nx : Nat) (a0 : Nat) : Option (zH × Nat) := (if ¬(0 : Int32) < 0 ∧ (0 : Int32).toNatClampNeg ≤ 16 then (z_pV (z_up h nx (zD (0 : Int32).toNatClampNeg (fun _ => none))) a0 6 0 (.ref nx)).bind fun h_2 => (if ¬(0 : Int32) < 0 ∧ (0 : Int32).toNatClampNeg ≤ 16 then (z_pV (z_up h_2 (nx + 1) (zD (0 : Int32).toNatClampNeg (fun _ => none))) a0 6 1 (.ref (nx + 1))).bind fun h_4 => (z_pV (z_mm h_4 ((nx + 1) + 1) 24 24) a0 6 2 (.ref ((nx + 1) + 1))).bind fun h_5 => (some (h_5, (((nx + 1) + 1) + 1 + 24))) else none) else none)
noncomputable def M_X5_with (h : zH) (nx : Nat) (a0 : Nat) (a1 : Nat) : Option (Nat × zH × Nat) := (z_al h a0).bind fun r1 => (if ¬(r1 + (1 : Int32)) < 0 ∧ (r1 + (1 : Int32)).toNatClampNeg ≤ 16 then wl2 (fun rec3 (x3_3 : Int32) (h_3 : zH) => (z_al h_3 a0).bind fun r4 => (if r4 ≤ x3_3 then (z_al h_3 a0).bind fun r5 => (z_sD h_3 nx r5 a1).bind fun h_6 => (some (nx, h_6, (nx + 1))) else (z_aD h_3 a0 x3_3).bind fun r7 => (z_sD h_3 nx x3_3 r7).bind fun h_8 => (rec3 (x3_3 + (1 : Int32)) h_8))) 700 (0 : Int32) (z_up h nx (zD (r1 + (1 : Int32)).toNatClampNeg (fun _ => none))) else none)
noncomputable def M_X5_without (h : zH) (nx : Nat) (a0 : Nat) (x1 : Int32) : Option (Nat × zH × Nat) := (z_al h a0).bind fun r1 => (if ¬(r1 - (1 : Int32)) < 0 ∧ (r1 - (1 : Int32)).toNatClampNeg ≤ 16 then wl2 (fun rec3 (x3_3 : Int32) (h_3 : zH) => (z_al h_3 nx).bind fun r4 => (if r4 ≤ x3_3 then (some (nx, h_3, (nx + 1))) else jn4 (fun (b0_5 : Nat) (s1_5 : Int32) (b2_5 : Nat) (s3_5 : Int32) => (z_aD h_3 b2_5 s3_5).bind fun r6 => (z_sD h_3 b0_5 s1_5 r6).bind fun h_7 => (rec3 (x3_3 + (1 : Int32)) h_7)) fun J5 => (if x1 ≤ x3_3 then (J5 nx x3_3 a0 (x3_3 + (1 : Int32))) else (J5 nx x3_3 a0 x3_3)))) 700 (0 : Int32) (z_up h nx (zD (r1 - (1 : Int32)).toNatClampNeg (fun _ => none))) else none)
noncomputable def M_X5_lies (h : zH) (a0 : Nat) (x1 : Int32) (x2 : Int32) (x3 : Int32) : Option (Int32) := (z_gR h a0 6 0).bind fun r1 => (z_aD h r1 x1).bind fun r2 => (z_aI h r2 (6 : Int32)).bind fun r3 => jn0 ((some (0 : Int32))) fun J4 => (if r3 = (1 : Int32) then (z_aI h r2 (0 : Int32)).bind fun r5 => (if x2 < r5 then J4 else (z_aI h r2 (0 : Int32)).bind fun r6 => (z_aI h r2 (2 : Int32)).bind fun r7 => (if (r6 + r7) ≤ x2 then J4 else (z_aI h r2 (1 : Int32)).bind fun r8 => (if x3 < r8 then J4 else (z_aI h r2 (1 : Int32)).bind fun r9 => (z_aI h r2 (3 : Int32)).bind fun r10 => (if (r9 + r10) ≤ x3 then J4 else (some (1 : Int32)))))) else J4)
noncomputable def M_X5_lying (h : zH) (a0 : Nat) (x1 : Int32) (x2 : Int32) : Option (Int32) := wl2 (fun rec1 (x3_1 : Int32) (x4_1 : Int32) => (z_gR h a0 6 0).bind fun r2 => (z_al h r2).bind fun r3 => (if r3 ≤ x4_1 then (some x3_1) else (z_ck h a0 6).bind fun _ => (M_X5_lies h a0 x4_1 x1 x2).bind fun r5 => jn2 (fun (s0_6 : Int32) (s1_6 : Int32) => (rec1 (s0_6 + s1_6) (x4_1 + (1 : Int32)))) fun J6 => (if r5 = 0 then (J6 x3_1 (0 : Int32)) else (J6 x3_1 (1 : Int32))))) 700 (0 : Int32) (0 : Int32)
noncomputable def M_X5_isCovered (h : zH) (a0 : Nat) (x1 : Int32) (x2 : Int32) : Option (Int32) := jn0 ((some (0 : Int32))) fun J1 => (if x1 < 0 then J1 else (if x2 < 0 then J1 else (if (24 : Int32) ≤ x1 then J1 else (if (24 : Int32) ≤ x2 then J1 else (z_ck h a0 6).bind fun _ => (M_X5_lying h a0 x1 x2).bind fun r3 => (if r3 ≤ 0 then J1 else (some (1 : Int32)))))))
noncomputable def M_X5_highest (h : zH) (a0 : Nat) (x1 : Int32) (x2 : Int32) (x3 : Int32) : Option (Int32) := (z_gR h a0 6 0).bind fun r1 => (z_al h r1).bind fun r2 => wl2 (fun rec3 (x4_3 : Int32) (x5_3 : Int32) => (if x5_3 < 0 then (some x4_3) else (z_ck h a0 6).bind fun _ => (M_X5_lies h a0 x5_3 x1 x2).bind fun r5 => jn1 (fun (x4_6 : Int32) => (rec3 x4_6 (x5_3 + (-1 : Int32)))) fun J6 => (if r5 = 0 then (J6 x4_3) else (z_gR h a0 6 0).bind fun r7 => (z_aD h r7 x5_3).bind fun r8 => (z_aI h r8 (4 : Int32)).bind fun r9 => (if x3 ≤ r9 then (J6 x4_3) else jn0 ((J6 x5_3)) fun J10 => (if x4_3 < 0 then J10 else (z_gR h a0 6 0).bind fun r11 => (z_aD h r11 x5_3).bind fun r12 => (z_aI h r12 (4 : Int32)).bind fun r13 => (z_gR h a0 6 0).bind fun r14 => (z_aD h r14 x4_3).bind fun r15 => (z_aI h r15 (4 : Int32)).bind fun r16 => (if r13 < r16 then (J6 x4_3) else J10)))))) 700 (-1 : Int32) (r2 - (1 : Int32))
noncomputable def M_X5_hour (h : zH) (nx : Nat) (a0 : Nat) (x1 : Int32) : Option (Nat × zH × Nat) := (z_gR (z_mm h nx 25 24) a0 6 0).bind fun r1 => (z_al (z_mm h nx 25 24) r1).bind fun r2 => (if ¬(r2 + (1 : Int32)) < 0 ∧ (r2 + (1 : Int32)).toNatClampNeg ≤ 16 then (z_sD (z_up (z_mm h nx 25 24) (nx + 1 + 25) (zI (r2 + (1 : Int32)).toNatClampNeg (fun _ => 0))) nx (24 : Int32) (nx + 1 + 25)).bind fun h_4 => (z_aD h_4 nx (24 : Int32)).bind fun r5 => wl2 (fun rec6 (x4_6 : Int32) (h_6 : zH) => (if (24 : Int32) ≤ x4_6 then wl2 (fun rec7 (x4_7 : Int32) (h_7 : zH) => (if x4_7 ≤ 0 then (some (nx, h_7, ((nx + 1 + 25) + 1))) else wl2 (fun rec8 (x5_8 : Int32) (h_8 : zH) => (z_gR h_8 a0 6 0).bind fun r9 => (z_al h_8 r9).bind fun r10 => (if r10 ≤ x5_8 then (rec7 (x4_7 + (-1 : Int32)) h_8) else (z_gR h_8 a0 6 0).bind fun r11 => (z_aD h_8 r11 x5_8).bind fun r12 => (z_aI h_8 r12 (4 : Int32)).bind fun r13 => jn1 (fun (h_14 : zH) => (rec8 (x5_8 + (1 : Int32)) h_14)) fun J14 => (if r13 = x4_7 then (z_aI h_8 r12 (6 : Int32)).bind fun r15 => (if r15 = 0 then (J14 h_8) else (z_aI h_8 r12 (5 : Int32)).bind fun r16 => jn1 (fun (s0_17 : Int32) => (z_aI h_8 r5 x5_8).bind fun r18 => wl3 (fun rec19 (x8_19 : Int32) (x9_19 : Int32) (h_19 : zH) => (if s0_17 ≤ x9_19 then (J14 h_19) else (if (s0_17 - x9_19) = 0 then none else (z_aI h_19 r12 (5 : Int32)).bind fun r21 => jn1 (fun (s0_22 : Int32) => (z_aI h_19 r12 (5 : Int32)).bind fun r23 => jn1 (fun (s0_24 : Int32) => jn1 (fun (h_25 : zH) => (rec19 (x8_19 - ((((x8_19 + s0_17) - x9_19) - (1 : Int32)) / (s0_17 - x9_19))) (x9_19 + (1 : Int32)) h_25)) fun J25 => jn0 ((z_gR h_19 a0 6 0).bind fun r27 => (z_al h_19 r27).bind fun r28 => (z_aI h_19 r5 r28).bind fun r29 => (z_sI h_19 r5 r28 (r29 + ((((x8_19 + s0_17) - x9_19) - (1 : Int32)) / (s0_17 - x9_19)))).bind fun h_30 => (J25 h_30)) fun J26 => (if s0_22 < 0 then J26 else (if s0_24 < 0 then J26 else (if (23 : Int32) < s0_22 then J26 else (if s0_24 ≤ (23 : Int32) then (z_ck h_19 a0 6).bind fun _ => (M_X5_highest h_19 a0 s0_22 s0_24 x4_7).bind fun r32 => (if 0 ≤ r32 then (z_aI h_19 r5 r32).bind fun r33 => (z_sI h_19 r5 r32 (r33 + ((((x8_19 + s0_17) - x9_19) - (1 : Int32)) / (s0_17 - x9_19)))).bind fun h_34 => (J25 h_34) else (z_aD h_19 nx s0_22).bind fun r35 => (z_aI h_19 r35 s0_24).bind fun r36 => (z_sI h_19 r35 s0_24 (r36 + ((((x8_19 + s0_17) - x9_19) - (1 : Int32)) / (s0_17 - x9_19)))).bind fun h_37 => (J25 h_37)) else J26))))) fun J24 => (if r23 = (1 : Int32) then (z_aI h_19 r12 (1 : Int32)).bind fun r48 => (J24 (r48 - (1 : Int32))) else (z_aI h_19 r12 (5 : Int32)).bind fun r43 => (if r43 = (3 : Int32) then (z_aI h_19 r12 (1 : Int32)).bind fun r45 => (z_aI h_19 r12 (3 : Int32)).bind fun r46 => (J24 (r45 + r46)) else (z_aI h_19 r12 (1 : Int32)).bind fun r44 => (J24 (r44 + x9_19))))) fun J22 => (if r21 = 0 then (z_aI h_19 r12 (0 : Int32)).bind fun r55 => (J22 (r55 - (1 : Int32))) else (z_aI h_19 r12 (5 : Int32)).bind fun r50 => (if r50 = (2 : Int32) then (z_aI h_19 r12 (0 : Int32)).bind fun r52 => (z_aI h_19 r12 (2 : Int32)).bind fun r53 => (J22 (r52 + r53)) else (z_aI h_19 r12 (0 : Int32)).bind fun r51 => (J22 (r51 + x9_19))))))) 700 r18 (0 : Int32) h_8) fun J17 => jn0 ((z_aI h_8 r12 (3 : Int32)).bind fun r59 => (J17 r59)) fun J58 => (if r16 = 0 then J58 else (z_aI h_8 r12 (5 : Int32)).bind fun r60 => (if r60 = (2 : Int32) then J58 else (z_aI h_8 r12 (2 : Int32)).bind fun r61 => (J17 r61)))) else (J14 h_8)))) 700 (0 : Int32) h_7)) 700 (9 : Int32) h_6 else wl2 (fun rec68 (x5_68 : Int32) (h_68 : zH) => (if (24 : Int32) ≤ x5_68 then (rec6 (x4_6 + (1 : Int32)) h_68) else (z_ck h_68 a0 6).bind fun _ => (M_X5_highest h_68 a0 x4_6 x5_68 (10 : Int32)).bind fun r70 => jn1 (fun (h_71 : zH) => (rec68 (x5_68 + (1 : Int32)) h_71)) fun J71 => (if 0 ≤ r70 then (z_aI h_68 r5 r70).bind fun r72 => (z_sI h_68 r5 r70 (r72 + x1)).bind fun h_73 => (J71 h_73) else (z_aD h_68 nx x4_6).bind fun r74 => (z_aI h_68 r74 x5_68).bind fun r75 => (z_sI h_68 r74 x5_68 (r75 + x1)).bind fun h_76 => (J71 h_76)))) 700 (0 : Int32) h_6)) 700 (0 : Int32) h_4 else none)
noncomputable def M_X5_rain (h : zH) (nx : Nat) (a0 : Nat) (x1 : Int32) : Option (Int32 × zH × Nat) := (z_ck h a0 6).bind fun _ => (M_X5_hour h nx a0 x1).bind fun r2 => wl3 (fun rec3 (x3_3 : Int32) (x4_3 : Int32) (h_3 : zH) => (if (24 : Int32) ≤ x4_3 then wl2 (fun rec4 (x4_4 : Int32) (h_4 : zH) => (z_gR h_4 a0 6 0).bind fun r5 => (z_al h_4 r5).bind fun r6 => (if r6 ≤ x4_4 then (z_gR h_4 a0 6 1).bind fun r7 => (z_al h_4 r7).bind fun r8 => wl2 (fun rec9 (x6_9 : Int32) (h_9 : zH) => (if r8 ≤ x6_9 then (z_gI h_9 a0 6 4).bind fun r10 => (z_aD h_9 r2.1 (24 : Int32)).bind fun r11 => (z_gR h_9 a0 6 0).bind fun r12 => (z_al h_9 r12).bind fun r13 => (z_aI h_9 r11 r13).bind fun r14 => (z_pV h_9 a0 6 4 (.int (r10 + r14))).bind fun h_15 => (z_gI h_15 a0 6 3).bind fun r16 => (z_pV h_15 a0 6 3 (.int (r16 + (1 : Int32)))).bind fun h_17 => (some (x3_3, h_17, r2.2.2)) else (z_aD h_9 r7 x6_9).bind fun r18 => (z_aI h_9 r18 (2 : Int32)).bind fun r19 => (z_aI h_9 r18 (0 : Int32)).bind fun r20 => (z_aD h_9 r2.1 r20).bind fun r21 => (z_aI h_9 r18 (1 : Int32)).bind fun r22 => (z_aI h_9 r21 r22).bind fun r23 => (z_sI h_9 r18 (2 : Int32) (r19 + r23)).bind fun h_24 => (rec9 (x6_9 + (1 : Int32)) h_24))) 700 (0 : Int32) h_4 else (z_gR h_4 a0 6 0).bind fun r26 => (z_aD h_4 r26 x4_4).bind fun r27 => (z_aI h_4 r27 (7 : Int32)).bind fun r28 => (z_aD h_4 r2.1 (24 : Int32)).bind fun r29 => (z_aI h_4 r29 x4_4).bind fun r30 => (z_sI h_4 r27 (7 : Int32) (r28 + r30)).bind fun h_31 => (rec4 (x4_4 + (1 : Int32)) h_31))) 700 (0 : Int32) h_3 else wl3 (fun rec33 (x3_33 : Int32) (x5_33 : Int32) (h_33 : zH) => (if (24 : Int32) ≤ x5_33 then (rec3 x3_33 (x4_3 + (1 : Int32)) h_33) else (z_gR h_33 a0 6 2).bind fun r34 => (z_aD h_33 r34 x4_3).bind fun r35 => (z_aI h_33 r35 x5_33).bind fun r36 => (z_aD h_33 r2.1 x4_3).bind fun r37 => (z_aI h_33 r37 x5_33).bind fun r38 => (z_sI h_33 r35 x5_33 (r36 + r38)).bind fun h_39 => (z_aD h_39 r2.1 x4_3).bind fun r40 => (z_aI h_39 r40 x5_33).bind fun r41 => (rec33 (x3_33 + r41) (x5_33 + (1 : Int32)) h_39))) 700 x3_3 (0 : Int32) h_3)) 700 (0 : Int32) (0 : Int32) r2.2.1
noncomputable def M_X5_own (h : zH) (a0 : Nat) (x1 : Int32) : Option (Int32) := wl2 (fun rec1 (x2_1 : Int32) (x3_1 : Int32) => (if (24 : Int32) ≤ x3_1 then (some x2_1) else wl2 (fun rec2 (x2_2 : Int32) (x4_2 : Int32) => (if (24 : Int32) ≤ x4_2 then (rec1 x2_2 (x3_1 + (1 : Int32))) else (z_ck h a0 6).bind fun _ => (M_X5_lies h a0 x1 x3_1 x4_2).bind fun r4 => jn2 (fun (s0_5 : Int32) (s1_5 : Int32) => (rec2 (s0_5 + s1_5) (x4_2 + (1 : Int32)))) fun J5 => jn1 (fun (s0_6 : Int32) => (J5 s0_6 (0 : Int32))) fun J6 => (if r4 = 0 then (J6 x2_2) else (M_X5_lying h a0 x3_1 x4_2).bind fun r7 => (if r7 = (1 : Int32) then (J5 x2_2 (1 : Int32)) else (J6 x2_2))))) 700 x2_1 (0 : Int32))) 700 (0 : Int32) (0 : Int32)
noncomputable def M_X5_covered (h : zH) (a0 : Nat) : Option (Int32) := wl2 (fun rec1 (x1_1 : Int32) (x2_1 : Int32) => (if (24 : Int32) ≤ x2_1 then (some x1_1) else wl2 (fun rec2 (x1_2 : Int32) (x3_2 : Int32) => (if (24 : Int32) ≤ x3_2 then (rec1 x1_2 (x2_1 + (1 : Int32))) else (z_ck h a0 6).bind fun _ => (M_X5_isCovered h a0 x2_1 x3_2).bind fun r4 => jn2 (fun (s0_5 : Int32) (s1_5 : Int32) => (rec2 (s0_5 + s1_5) (x3_2 + (1 : Int32)))) fun J5 => (if r4 = 0 then (J5 x1_2 (0 : Int32)) else (J5 x1_2 (1 : Int32))))) 700 x1_1 (0 : Int32))) 700 (0 : Int32) (0 : Int32)
noncomputable def M_X5_outline (h : zH) (a0 : Nat) : Option (Int32) := wl2 (fun rec1 (x1_1 : Int32) (x2_1 : Int32) => (if (24 : Int32) ≤ x2_1 then (some x1_1) else wl2 (fun rec2 (x1_2 : Int32) (x3_2 : Int32) => (if (24 : Int32) ≤ x3_2 then (rec1 x1_2 (x2_1 + (1 : Int32))) else (z_ck h a0 6).bind fun _ => (M_X5_isCovered h a0 x2_1 x3_2).bind fun r4 => jn1 (fun (x1_5 : Int32) => (rec2 x1_5 (x3_2 + (1 : Int32)))) fun J5 => (if r4 = 0 then (J5 x1_2) else (M_X5_isCovered h a0 (x2_1 - (1 : Int32)) x3_2).bind fun r6 => jn2 (fun (s0_7 : Int32) (s1_7 : Int32) => (M_X5_isCovered h a0 (x2_1 + (1 : Int32)) x3_2).bind fun r8 => jn3 (fun (s0_9 : Int32) (s1_9 : Int32) (s2_9 : Int32) => (M_X5_isCovered h a0 x2_1 (x3_2 - (1 : Int32))).bind fun r10 => jn3 (fun (s0_11 : Int32) (s1_11 : Int32) (s2_11 : Int32) => (M_X5_isCovered h a0 x2_1 (x3_2 + (1 : Int32))).bind fun r12 => jn3 (fun (s0_13 : Int32) (s1_13 : Int32) (s2_13 : Int32) => (J5 (s0_13 + (s1_13 + s2_13)))) fun J13 => (if r12 = 0 then (J13 s0_11 (s1_11 + s2_11) (1 : Int32)) else (J13 s0_11 (s1_11 + s2_11) (0 : Int32)))) fun J11 => (if r10 = 0 then (J11 s0_9 (s1_9 + s2_9) (1 : Int32)) else (J11 s0_9 (s1_9 + s2_9) (0 : Int32)))) fun J9 => (if r8 = 0 then (J9 s0_7 s1_7 (1 : Int32)) else (J9 s0_7 s1_7 (0 : Int32)))) fun J7 => (if r6 = 0 then (J7 x1_2 (1 : Int32)) else (J7 x1_2 (0 : Int32)))))) 700 x1_1 (0 : Int32))) 700 (0 : Int32) (0 : Int32)
noncomputable def M_X5_parts (h : zH) (nx : Nat) (a0 : Nat) : Option (Int32 × zH × Nat) := wl2 (fun rec1 (x2_1 : Int32) (h_1 : zH) => (if (24 : Int32) ≤ x2_1 then wl2 (fun rec2 (x2_2 : Int32) (h_2 : zH) => (if x2_2 = 0 then wl2 (fun rec3 (x3_3 : Int32) (x4_3 : Int32) => (if (24 : Int32) ≤ x4_3 then (some (x3_3, h_2, (nx + 1 + 26))) else wl2 (fun rec4 (x3_4 : Int32) (x5_4 : Int32) => (if (24 : Int32) ≤ x5_4 then (rec3 x3_4 (x4_3 + (1 : Int32))) else (z_aD h_2 nx (x4_3 + (1 : Int32))).bind fun r5 => (z_aI h_2 r5 (x5_4 + (1 : Int32))).bind fun r6 => jn2 (fun (s0_7 : Int32) (s1_7 : Int32) => (rec4 (s0_7 + s1_7) (x5_4 + (1 : Int32)))) fun J7 => (if r6 = (((1 : Int32) + ((24 : Int32) * x4_3)) + x5_4) then (J7 x3_4 (1 : Int32)) else (J7 x3_4 (0 : Int32))))) zfu x3_3 (0 : Int32))) zfu (0 : Int32) (0 : Int32) else wl3 (fun rec11 (x2_11 : Int32) (x3_11 : Int32) (h_11 : zH) => (if (1152 : Int32) ≤ x3_11 then (rec2 x2_11 h_11) else jn1 (fun (s0_12 : Int32) => (z_aD h_11 nx ((1 : Int32) + (s0_12 / (24 : Int32)))).bind fun r13 => (z_aI h_11 r13 ((1 : Int32) + (s0_12 - s0_12 / (24 : Int32) * (24 : Int32)))).bind fun r14 => jn2 (fun (x2_15 : Int32) (h_15 : zH) => (rec11 x2_15 (x3_11 + (1 : Int32)) h_15)) fun J15 => (if r14 = 0 then (J15 x2_11 h_11) else (z_aD h_11 nx (((1 : Int32) + (s0_12 / (24 : Int32))) - (1 : Int32))).bind fun r16 => (z_aI h_11 r16 ((1 : Int32) + (s0_12 - s0_12 / (24 : Int32) * (24 : Int32)))).bind fun r17 => (z_aD h_11 nx (((1 : Int32) + (s0_12 / (24 : Int32))) + (1 : Int32))).bind fun r18 => (z_aI h_11 r18 ((1 : Int32) + (s0_12 - s0_12 / (24 : Int32) * (24 : Int32)))).bind fun r19 => (z_aD h_11 nx ((1 : Int32) + (s0_12 / (24 : Int32)))).bind fun r20 => (z_aI h_11 r20 (((1 : Int32) + (s0_12 - s0_12 / (24 : Int32) * (24 : Int32))) - (1 : Int32))).bind fun r21 => (z_aD h_11 nx ((1 : Int32) + (s0_12 / (24 : Int32)))).bind fun r22 => (z_aI h_11 r22 (((1 : Int32) + (s0_12 - s0_12 / (24 : Int32) * (24 : Int32))) + (1 : Int32))).bind fun r23 => (z_aD h_11 nx ((1 : Int32) + (s0_12 / (24 : Int32)))).bind fun r24 => (z_aI h_11 r24 ((1 : Int32) + (s0_12 - s0_12 / (24 : Int32) * (24 : Int32)))).bind fun r25 => (if r25 < (if (if r17 < r19 then r19 else r17) < (if r21 < r23 then r23 else r21) then (if r21 < r23 then r23 else r21) else (if r17 < r19 then r19 else r17)) then (z_aD h_11 nx ((1 : Int32) + (s0_12 / (24 : Int32)))).bind fun r26 => (z_sI h_11 r26 ((1 : Int32) + (s0_12 - s0_12 / (24 : Int32) * (24 : Int32))) (if (if r17 < r19 then r19 else r17) < (if r21 < r23 then r23 else r21) then (if r21 < r23 then r23 else r21) else (if r17 < r19 then r19 else r17))).bind fun h_27 => (J15 (1 : Int32) h_27) else (J15 x2_11 h_11)))) fun J12 => (if (576 : Int32) ≤ x3_11 then (J12 ((1151 : Int32) - x3_11)) else (J12 x3_11)))) zfu (0 : Int32) (0 : Int32) h_2)) zfu (1 : Int32) h_1 else wl2 (fun rec33 (x3_33 : Int32) (h_33 : zH) => (if (24 : Int32) ≤ x3_33 then (rec1 (x2_1 + (1 : Int32)) h_33) else (z_aD h_33 nx (x2_1 + (1 : Int32))).bind fun r34 => (z_ck h_33 a0 6).bind fun _ => (M_X5_isCovered h_33 a0 x2_1 x3_33).bind fun r36 => jn3 (fun (b0_37 : Nat) (s1_37 : Int32) (s2_37 : Int32) => (z_sI h_33 b0_37 s1_37 s2_37).bind fun h_38 => (rec33 (x3_33 + (1 : Int32)) h_38)) fun J37 => (if r36 = 0 then (J37 r34 (x3_33 + (1 : Int32)) (0 : Int32)) else (J37 r34 (x3_33 + (1 : Int32)) (((1 : Int32) + ((24 : Int32) * x2_1)) + x3_33))))) zfu (0 : Int32) h_1)) zfu (0 : Int32) (z_mm h nx 26 26)
noncomputable def M_X5_shared (h : zH) (a0 : Nat) (x1 : Int32) (x2 : Int32) : Option (Int32) := wl2 (fun rec1 (x3_1 : Int32) (x4_1 : Int32) => (if (24 : Int32) ≤ x4_1 then (some x3_1) else wl2 (fun rec2 (x3_2 : Int32) (x5_2 : Int32) => (if (24 : Int32) ≤ x5_2 then (rec1 x3_2 (x4_1 + (1 : Int32))) else (z_ck h a0 6).bind fun _ => (M_X5_lies h a0 x1 x4_1 x5_2).bind fun r4 => jn2 (fun (s0_5 : Int32) (s1_5 : Int32) => (rec2 (s0_5 + s1_5) (x5_2 + (1 : Int32)))) fun J5 => jn1 (fun (s0_6 : Int32) => (J5 s0_6 (0 : Int32))) fun J6 => (if r4 = 0 then (J6 x3_2) else (M_X5_lies h a0 x2 x4_1 x5_2).bind fun r7 => (if r7 = 0 then (J6 x3_2) else (J5 x3_2 (1 : Int32)))))) 700 x3_1 (0 : Int32))) 700 (0 : Int32) (0 : Int32)
noncomputable def M_L_below (x0 : Int32) (x1 : Int32) : Option (Int32) := (if x1 = 0 then none else (some ((x0 &&& (2147483647 : Int32)) - (x0 &&& (2147483647 : Int32)) / x1 * x1)))
noncomputable def M_L_cell (h : zH) (a0 : Nat) (x1 : Int32) : Option (Int32) := (z_sl h a0).bind fun r1 => (if r1 ≤ x1 then (some ((790386105 : Int32) * (x1 + (3 : Int32)))) else (z_si h a0 x1).bind fun r2 => (some r2))
set_option maxHeartbeats 4000000 in
set_option maxRecDepth 100000 in
theorem c_X5_init (l : Launch) (hl : l.stackTraces = false) (G : zG) (lo t0 : Nat) (h : zH) (nx : Nat) (a0 : Nat) (o : zH × Nat) (hM : M_X5_init h nx a0 = some o) : z_Met l yX5_init cX5_init 1 none 1 22 G lo t0 [.ref a0] h nx (.inr (none, o.1, o.2)) 27 632 := by
  refine z_of [(0, .ref a0)] (by decide) (Nat.le_of_ble_eq_true rfl) rfl (fun p e s m below meth c C hin => ?_)
  unfold M_X5_init at hM
  refine z_aload_n (k := 0) (pc := 0) C dX5_init_0 rfl ?_
  refine z_obj (pc := 1) C q_74 q_11 q_12 (Nat.le_of_ble_eq_true rfl) (Nat.le_of_ble_eq_true rfl) dX5_init_1 ?_
  refine z_aload_n (k := 0) (pc := 4) C dX5_init_4 rfl ?_
  refine z_iconst (v := (0 : Int32)) (pc := 5) C dX5_init_5 (by decide) ?_
  obtain ⟨hc1, hM⟩ := z_gy hM
  refine z_newD (pc := 6) C q_75 hc1 (Nat.le_of_ble_eq_true rfl) (Nat.le_of_ble_eq_true rfl) dX5_init_6 ?_
  obtain ⟨h_2, g2, hM⟩ := Option.bind_eq_some_iff.mp hM
  refine z_put (pc := 9) (k := 0) C g2 rfl inlX5 tyX5 tyX5_ok nmX5 (by decide) q_76 (fun _ h9 => h9) rfl (tyX5_ok 0 (by decide)) rfl rfl dX5_init_9 ?_
  refine z_aload_n (k := 0) (pc := 12) C dX5_init_12 rfl ?_
  refine z_iconst (v := (0 : Int32)) (pc := 13) C dX5_init_13 (by decide) ?_
  obtain ⟨hc3, hM⟩ := z_gy hM
  refine z_newD (pc := 14) C q_75 hc3 (Nat.le_of_ble_eq_true rfl) (Nat.le_of_ble_eq_true rfl) dX5_init_14 ?_
  obtain ⟨h_4, g4, hM⟩ := Option.bind_eq_some_iff.mp hM
  refine z_put (pc := 17) (k := 1) C g4 rfl inlX5 tyX5 tyX5_ok nmX5 (by decide) q_77 (fun _ h9 => h9) rfl (tyX5_ok 1 (by decide)) rfl rfl dX5_init_17 ?_
  refine z_aload_n (k := 0) (pc := 20) C dX5_init_20 rfl ?_
  refine z_bipush (v := (24 : Int32)) (pc := 21) C dX5_init_21 (by decide) ?_
  refine z_bipush (v := (24 : Int32)) (pc := 23) C dX5_init_23 (by decide) ?_
  refine z_newM (pc := 25) (n' := 24) (k' := 24) C q_78 q_25 (by decide) (by decide) (by decide) (by decide) (by decide) (by decide) (Nat.le_of_ble_eq_true rfl) (Nat.le_of_ble_eq_true rfl) dX5_init_25 ?_
  obtain ⟨h_5, g5, hM⟩ := Option.bind_eq_some_iff.mp hM
  refine z_put (pc := 29) (k := 2) C g5 rfl inlX5 tyX5 tyX5_ok nmX5 (by decide) q_79 (fun _ h9 => h9) rfl (tyX5_ok 2 (by decide)) rfl rfl dX5_init_29 ?_
  cases hM
  exact z_vret (pc := 32) C rfl (Nat.le_of_ble_eq_true rfl) (Nat.le_of_ble_eq_true rfl) dX5_init_32
set_option maxHeartbeats 4000000 in
set_option maxRecDepth 100000 in
theorem c_X5_with (l : Launch) (hl : l.stackTraces = false) (G : zG) (lo t0 : Nat) (h : zH) (nx : Nat) (a0 : Nat) (a1 : Nat) (o : Nat × zH × Nat) (hM : M_X5_with h nx a0 a1 = some o) : z_Met l yX5_with cX5_with 4 (some (.array (.array .int))) 0 0 G lo t0 [.ref a0, .ref a1] h nx (.inr (some (.ref o.1), o.2.1, o.2.2)) 1 16 := by
  refine z_of [(0, .ref a0), (1, .ref a1)] (by decide) (Nat.le_of_ble_eq_true rfl) rfl (fun p e s m below meth c C hin => ?_)
  unfold M_X5_with at hM
  refine z_aload_n (k := 0) (pc := 0) C dX5_with_0 rfl ?_
  obtain ⟨r1, g1, hM⟩ := Option.bind_eq_some_iff.mp hM
  refine z_alen (pc := 1) C g1 dX5_with_1 ?_
  refine z_iconst (v := (1 : Int32)) (pc := 2) C dX5_with_2 (by decide) ?_
  refine z_iadd (pc := 3) C dX5_with_3 ?_
  obtain ⟨hc2, hM⟩ := z_gy hM
  refine z_newD (pc := 4) C q_75 hc2 (Nat.le_of_ble_eq_true rfl) (Nat.le_of_ble_eq_true rfl) dX5_with_4 ?_
  refine z_astore_n (lv' := [(2, .ref nx), (0, .ref a0), (1, .ref a1)]) (pc := 7) C dX5_with_7 (by decide) rfl ?_
  refine z_iconst (v := (0 : Int32)) (pc := 8) C dX5_with_8 (by decide) ?_
  refine z_istore_n (lv' := [(3, .int (0 : Int32)), (2, .ref nx), (0, .ref a0), (1, .ref a1)]) (pc := 9) C dX5_with_9 (by decide) rfl ?_
  refine z_sub [2, 3, 1, 0] rfl (zl2 (fun (x3_3 : Int32) (h_3 : zH) => [(0, .ref a0), (1, .ref a1), (2, .ref nx), (3, .int x3_3)]) (fun (x3_3 : Int32) (h_3 : zH) => h_3) (fun (x3_3 : Int32) (h_3 : zH) => (nx + 1)) hM (fun rec3 irec3 x3_3 h_3 hM => ?_))
  refine z_iload_n (k := 3) (pc := 10) C dX5_with_10 rfl ?_
  refine z_aload_n (k := 0) (pc := 11) C dX5_with_11 rfl ?_
  obtain ⟨r4, g4, hM⟩ := Option.bind_eq_some_iff.mp hM
  refine z_alen (pc := 12) C g4 dX5_with_12 ?_
  refine z_icmp_ge (pc := 13) (tgt := 28) C dX5_with_13 (by decide) hM (fun hc9 hM => ?_) (fun hc9 hM => ?_)
  · refine z_aload_n (k := 2) (pc := 28) C dX5_with_28 rfl ?_
    refine z_aload_n (k := 0) (pc := 29) C dX5_with_29 rfl ?_
    obtain ⟨r5, g5, hM⟩ := Option.bind_eq_some_iff.mp hM
    refine z_alen (pc := 30) C g5 dX5_with_30 ?_
    refine z_aload_n (k := 1) (pc := 31) C dX5_with_31 rfl ?_
    obtain ⟨h_6, g6, hM⟩ := Option.bind_eq_some_iff.mp hM
    refine z_aastD (pc := 32) C g6 dX5_with_32 ?_
    refine z_aload_n (k := 2) (pc := 33) C dX5_with_33 rfl ?_
    cases hM
    exact z_aret (pc := 34) C (Or.inr ⟨_, rfl⟩) rfl (Nat.le_of_ble_eq_true rfl) (Nat.le_of_ble_eq_true rfl) dX5_with_34
  · refine z_aload_n (k := 2) (pc := 16) C dX5_with_16 rfl ?_
    refine z_iload_n (k := 3) (pc := 17) C dX5_with_17 rfl ?_
    refine z_aload_n (k := 0) (pc := 18) C dX5_with_18 rfl ?_
    refine z_iload_n (k := 3) (pc := 19) C dX5_with_19 rfl ?_
    obtain ⟨r7, g7, hM⟩ := Option.bind_eq_some_iff.mp hM
    refine z_aaldD (pc := 20) C g7 dX5_with_20 ?_
    obtain ⟨h_8, g8, hM⟩ := Option.bind_eq_some_iff.mp hM
    refine z_aastD (pc := 21) C g8 dX5_with_21 ?_
    refine z_iinc (k := 3) (v := (x3_3 + (1 : Int32))) (lv' := [(3, .int (x3_3 + (1 : Int32))), (0, .ref a0), (1, .ref a1), (2, .ref nx)]) (pc := 22) C dX5_with_22 rfl (by first | rfl | decide) (by decide) rfl ?_
    refine z_goto (pc := 25) (tgt := 10) C dX5_with_25 (by decide) ?_
    exact z_sub [1, 2, 3, 0] rfl (irec3 (x3_3 + (1 : Int32)) h_8 hM)
set_option maxHeartbeats 4000000 in
set_option maxRecDepth 100000 in
theorem c_X5_without (l : Launch) (hl : l.stackTraces = false) (G : zG) (lo t0 : Nat) (h : zH) (nx : Nat) (a0 : Nat) (x1 : Int32) (o : Nat × zH × Nat) (hM : M_X5_without h nx a0 x1 = some o) : z_Met l yX5_without cX5_without 4 (some (.array (.array .int))) 0 0 G lo t0 [.ref a0, .int x1] h nx (.inr (some (.ref o.1), o.2.1, o.2.2)) 1 16 := by
  refine z_of [(0, .ref a0), (1, .int x1)] (by decide) (Nat.le_of_ble_eq_true rfl) rfl (fun p e s m below meth c C hin => ?_)
  unfold M_X5_without at hM
  refine z_aload_n (k := 0) (pc := 0) C dX5_without_0 rfl ?_
  obtain ⟨r1, g1, hM⟩ := Option.bind_eq_some_iff.mp hM
  refine z_alen (pc := 1) C g1 dX5_without_1 ?_
  refine z_iconst (v := (1 : Int32)) (pc := 2) C dX5_without_2 (by decide) ?_
  refine z_isub (pc := 3) C dX5_without_3 ?_
  obtain ⟨hc2, hM⟩ := z_gy hM
  refine z_newD (pc := 4) C q_75 hc2 (Nat.le_of_ble_eq_true rfl) (Nat.le_of_ble_eq_true rfl) dX5_without_4 ?_
  refine z_astore_n (lv' := [(2, .ref nx), (0, .ref a0), (1, .int x1)]) (pc := 7) C dX5_without_7 (by decide) rfl ?_
  refine z_iconst (v := (0 : Int32)) (pc := 8) C dX5_without_8 (by decide) ?_
  refine z_istore_n (lv' := [(3, .int (0 : Int32)), (2, .ref nx), (0, .ref a0), (1, .int x1)]) (pc := 9) C dX5_without_9 (by decide) rfl ?_
  refine z_sub [2, 3, 1, 0] rfl (zl2 (fun (x3_3 : Int32) (h_3 : zH) => [(0, .ref a0), (1, .int x1), (2, .ref nx), (3, .int x3_3)]) (fun (x3_3 : Int32) (h_3 : zH) => h_3) (fun (x3_3 : Int32) (h_3 : zH) => (nx + 1)) hM (fun rec3 irec3 x3_3 h_3 hM => ?_))
  refine z_iload_n (k := 3) (pc := 10) C dX5_without_10 rfl ?_
  refine z_aload_n (k := 2) (pc := 11) C dX5_without_11 rfl ?_
  obtain ⟨r4, g4, hM⟩ := Option.bind_eq_some_iff.mp hM
  refine z_alen (pc := 12) C g4 dX5_without_12 ?_
  refine z_icmp_ge (pc := 13) (tgt := 39) C dX5_without_13 (by decide) hM (fun hc9 hM => ?_) (fun hc9 hM => ?_)
  · refine z_aload_n (k := 2) (pc := 39) C dX5_without_39 rfl ?_
    cases hM
    exact z_aret (pc := 40) C (Or.inr ⟨_, rfl⟩) rfl (Nat.le_of_ble_eq_true rfl) (Nat.le_of_ble_eq_true rfl) dX5_without_40
  · refine z_aload_n (k := 2) (pc := 16) C dX5_without_16 rfl ?_
    refine z_iload_n (k := 3) (pc := 17) C dX5_without_17 rfl ?_
    refine z_aload_n (k := 0) (pc := 18) C dX5_without_18 rfl ?_
    refine z_iload_n (k := 3) (pc := 19) C dX5_without_19 rfl ?_
    refine z_iload_n (k := 1) (pc := 20) C dX5_without_20 rfl ?_
    refine zj4 1 16 31 (fun (b0_5 : Nat) (s1_5 : Int32) (b2_5 : Nat) (s3_5 : Int32) => [(0, .ref a0), (1, .int x1), (2, .ref nx), (3, .int x3_3)]) (fun (b0_5 : Nat) (s1_5 : Int32) (b2_5 : Nat) (s3_5 : Int32) => [.int s3_5, .ref b2_5, .int s1_5, .ref b0_5]) (fun (b0_5 : Nat) (s1_5 : Int32) (b2_5 : Nat) (s3_5 : Int32) => h_3) (fun (b0_5 : Nat) (s1_5 : Int32) (b2_5 : Nat) (s3_5 : Int32) => (nx + 1)) hM (fun b0_5 s1_5 b2_5 s3_5 hM => ?_) (fun J5 iJ5 hM => ?_)
    · obtain ⟨r6, g6, hM⟩ := Option.bind_eq_some_iff.mp hM
      refine z_aaldD (pc := 31) C g6 dX5_without_31 ?_
      obtain ⟨h_7, g7, hM⟩ := Option.bind_eq_some_iff.mp hM
      refine z_aastD (pc := 32) C g7 dX5_without_32 ?_
      refine z_iinc (k := 3) (v := (x3_3 + (1 : Int32))) (lv' := [(3, .int (x3_3 + (1 : Int32))), (0, .ref a0), (1, .int x1), (2, .ref nx)]) (pc := 33) C dX5_without_33 rfl (by first | rfl | decide) (by decide) rfl ?_
      refine z_goto (pc := 36) (tgt := 10) C dX5_without_36 (by decide) ?_
      exact z_sub [1, 2, 3, 0] rfl (irec3 (x3_3 + (1 : Int32)) h_7 hM)
    refine z_icmp_ge (pc := 21) (tgt := 28) C dX5_without_21 (by decide) hM (fun hc8 hM => ?_) (fun hc8 hM => ?_)
    · refine z_iload_n (k := 3) (pc := 28) C dX5_without_28 rfl ?_
      refine z_iconst (v := (1 : Int32)) (pc := 29) C dX5_without_29 (by decide) ?_
      refine z_iadd (pc := 30) C dX5_without_30 ?_
      exact z_sub [0, 1, 2, 3] rfl (iJ5 nx x3_3 a0 (x3_3 + (1 : Int32)) hM)
    · refine z_iload_n (k := 3) (pc := 24) C dX5_without_24 rfl ?_
      refine z_goto (pc := 25) (tgt := 31) C dX5_without_25 (by decide) ?_
      exact z_sub [0, 1, 2, 3] rfl (iJ5 nx x3_3 a0 x3_3 hM)
set_option maxHeartbeats 4000000 in
set_option maxRecDepth 100000 in
theorem c_X5_lies (l : Launch) (hl : l.stackTraces = false) (G : zG) (lo t0 : Nat) (h : zH) (nx : Nat) (a0 : Nat) (x1 : Int32) (x2 : Int32) (x3 : Int32) (o : Int32) (hM : M_X5_lies h a0 x1 x2 x3 = some o) : z_Met l yX5_lies cX5_lies 5 (some .boolean) 0 0 G lo t0 [.ref a0, .int x1, .int x2, .int x3] h nx (.inr (some (.int o), h, nx)) 0 0 := by
  refine z_of [(0, .ref a0), (1, .int x1), (2, .int x2), (3, .int x3)] (by decide) (Nat.le_of_ble_eq_true rfl) rfl (fun p e s m below meth c C hin => ?_)
  unfold M_X5_lies at hM
  refine z_aload_n (k := 0) (pc := 0) C dX5_lies_0 rfl ?_
  obtain ⟨r1, g1, hM⟩ := Option.bind_eq_some_iff.mp hM
  refine z_getR (pc := 1) (k := 0) C g1 rfl inlX5 (by decide) q_76 (fun _ h9 => h9) dX5_lies_1 ?_
  refine z_iload_n (k := 1) (pc := 4) C dX5_lies_4 rfl ?_
  obtain ⟨r2, g2, hM⟩ := Option.bind_eq_some_iff.mp hM
  refine z_aaldD (pc := 5) C g2 dX5_lies_5 ?_
  refine z_astore (lv' := [(4, .ref r2), (0, .ref a0), (1, .int x1), (2, .int x2), (3, .int x3)]) (pc := 6) C dX5_lies_6 (by decide) rfl ?_
  refine z_aload (k := 0) (pc := 8) C dX5_lies_8 rfl ?_
  refine z_bipush (v := (6 : Int32)) (pc := 10) C dX5_lies_10 (by decide) ?_
  obtain ⟨r3, g3, hM⟩ := Option.bind_eq_some_iff.mp hM
  refine z_iald (pc := 12) C g3 dX5_lies_12 ?_
  refine z_iconst (v := (1 : Int32)) (pc := 13) C dX5_lies_13 (by decide) ?_
  refine zj0 0 0 63 ([]) ([]) (h) (nx) hM (fun  hM => ?_) (fun J4 iJ4 hM => ?_)
  · refine z_iconst (v := (0 : Int32)) (pc := 63) C dX5_lies_63 (by decide) ?_
    cases hM
    exact z_zret (pc := 64) C (Or.inl rfl) rfl (Nat.zero_le _) (Nat.zero_le _) dX5_lies_64
  refine z_icmp_ne (pc := 14) (tgt := 63) C dX5_lies_14 (by decide) hM (fun hc15 hM => ?_) (fun hc15 hM => ?_)
  · refine z_iload_n (k := 3) (pc := 17) C dX5_lies_17 rfl ?_
    refine z_aload (k := 0) (pc := 18) C dX5_lies_18 rfl ?_
    refine z_iconst (v := (0 : Int32)) (pc := 20) C dX5_lies_20 (by decide) ?_
    obtain ⟨r5, g5, hM⟩ := Option.bind_eq_some_iff.mp hM
    refine z_iald (pc := 21) C g5 dX5_lies_21 ?_
    refine z_icmp_lt (pc := 22) (tgt := 63) C dX5_lies_22 (by decide) hM (fun hc14 hM => ?_) (fun hc14 hM => ?_)
    · exact z_sub [] rfl (iJ4 hM)
    · refine z_iload_n (k := 3) (pc := 25) C dX5_lies_25 rfl ?_
      refine z_aload (k := 0) (pc := 26) C dX5_lies_26 rfl ?_
      refine z_iconst (v := (0 : Int32)) (pc := 28) C dX5_lies_28 (by decide) ?_
      obtain ⟨r6, g6, hM⟩ := Option.bind_eq_some_iff.mp hM
      refine z_iald (pc := 29) C g6 dX5_lies_29 ?_
      refine z_aload (k := 0) (pc := 30) C dX5_lies_30 rfl ?_
      refine z_iconst (v := (2 : Int32)) (pc := 32) C dX5_lies_32 (by decide) ?_
      obtain ⟨r7, g7, hM⟩ := Option.bind_eq_some_iff.mp hM
      refine z_iald (pc := 33) C g7 dX5_lies_33 ?_
      refine z_iadd (pc := 34) C dX5_lies_34 ?_
      refine z_icmp_ge (pc := 35) (tgt := 63) C dX5_lies_35 (by decide) hM (fun hc13 hM => ?_) (fun hc13 hM => ?_)
      · exact z_sub [] rfl (iJ4 hM)
      · refine z_iload_n (k := 4) (pc := 38) C dX5_lies_38 rfl ?_
        refine z_aload (k := 0) (pc := 39) C dX5_lies_39 rfl ?_
        refine z_iconst (v := (1 : Int32)) (pc := 41) C dX5_lies_41 (by decide) ?_
        obtain ⟨r8, g8, hM⟩ := Option.bind_eq_some_iff.mp hM
        refine z_iald (pc := 42) C g8 dX5_lies_42 ?_
        refine z_icmp_lt (pc := 43) (tgt := 63) C dX5_lies_43 (by decide) hM (fun hc12 hM => ?_) (fun hc12 hM => ?_)
        · exact z_sub [] rfl (iJ4 hM)
        · refine z_iload_n (k := 4) (pc := 46) C dX5_lies_46 rfl ?_
          refine z_aload (k := 0) (pc := 47) C dX5_lies_47 rfl ?_
          refine z_iconst (v := (1 : Int32)) (pc := 49) C dX5_lies_49 (by decide) ?_
          obtain ⟨r9, g9, hM⟩ := Option.bind_eq_some_iff.mp hM
          refine z_iald (pc := 50) C g9 dX5_lies_50 ?_
          refine z_aload (k := 0) (pc := 51) C dX5_lies_51 rfl ?_
          refine z_iconst (v := (3 : Int32)) (pc := 53) C dX5_lies_53 (by decide) ?_
          obtain ⟨r10, g10, hM⟩ := Option.bind_eq_some_iff.mp hM
          refine z_iald (pc := 54) C g10 dX5_lies_54 ?_
          refine z_iadd (pc := 55) C dX5_lies_55 ?_
          refine z_icmp_ge (pc := 56) (tgt := 63) C dX5_lies_56 (by decide) hM (fun hc11 hM => ?_) (fun hc11 hM => ?_)
          · exact z_sub [] rfl (iJ4 hM)
          · refine z_iconst (v := (1 : Int32)) (pc := 59) C dX5_lies_59 (by decide) ?_
            refine z_goto (pc := 60) (tgt := 64) C dX5_lies_60 (by decide) ?_
            cases hM
            exact z_zret (pc := 64) C (Or.inr rfl) rfl (Nat.zero_le _) (Nat.zero_le _) dX5_lies_64
  · exact z_sub [] rfl (iJ4 hM)
set_option maxHeartbeats 4000000 in
set_option maxRecDepth 100000 in
theorem c_X5_lying (l : Launch) (hl : l.stackTraces = false) (G : zG) (lo t0 : Nat) (h : zH) (nx : Nat) (a0 : Nat) (x1 : Int32) (x2 : Int32) (o : Int32) (hM : M_X5_lying h a0 x1 x2 = some o) : z_Met l yX5_lying cX5_lying 5 (some .int) 1 24 G lo t0 [.ref a0, .int x1, .int x2] h nx (.inr (some (.int o), h, nx)) 0 0 := by
  refine z_of [(0, .ref a0), (1, .int x1), (2, .int x2)] (by decide) (Nat.le_of_ble_eq_true rfl) rfl (fun p e s m below meth c C hin => ?_)
  unfold M_X5_lying at hM
  refine z_iconst (v := (0 : Int32)) (pc := 0) C dX5_lying_0 (by decide) ?_
  refine z_istore_n (lv' := [(3, .int (0 : Int32)), (0, .ref a0), (1, .int x1), (2, .int x2)]) (pc := 1) C dX5_lying_1 (by decide) rfl ?_
  refine z_iconst (v := (0 : Int32)) (pc := 2) C dX5_lying_2 (by decide) ?_
  refine z_istore (lv' := [(4, .int (0 : Int32)), (3, .int (0 : Int32)), (0, .ref a0), (1, .int x1), (2, .int x2)]) (pc := 3) C dX5_lying_3 (by decide) rfl ?_
  refine z_sub [2, 3, 4, 1, 0] rfl (zl2 (fun (x3_1 : Int32) (x4_1 : Int32) => [(0, .ref a0), (1, .int x1), (2, .int x2), (3, .int x3_1), (4, .int x4_1)]) (fun (x3_1 : Int32) (x4_1 : Int32) => h) (fun (x3_1 : Int32) (x4_1 : Int32) => nx) hM (fun rec1 irec1 x3_1 x4_1 hM => ?_))
  refine z_iload (k := 4) (pc := 5) C dX5_lying_5 rfl ?_
  refine z_aload_n (k := 0) (pc := 7) C dX5_lying_7 rfl ?_
  obtain ⟨r2, g2, hM⟩ := Option.bind_eq_some_iff.mp hM
  refine z_getR (pc := 8) (k := 0) C g2 rfl inlX5 (by decide) q_76 (fun _ h9 => h9) dX5_lying_8 ?_
  obtain ⟨r3, g3, hM⟩ := Option.bind_eq_some_iff.mp hM
  refine z_alen (pc := 11) C g3 dX5_lying_11 ?_
  refine z_icmp_ge (pc := 12) (tgt := 40) C dX5_lying_12 (by decide) hM (fun hc8 hM => ?_) (fun hc8 hM => ?_)
  · refine z_iload_n (k := 3) (pc := 40) C dX5_lying_40 rfl ?_
    cases hM
    exact z_iret (pc := 41) C rfl (Nat.zero_le _) (Nat.zero_le _) dX5_lying_41
  · refine z_iload_n (k := 3) (pc := 15) C dX5_lying_15 rfl ?_
    refine z_aload_n (k := 0) (pc := 16) C dX5_lying_16 rfl ?_
    refine z_iload (k := 4) (pc := 17) C dX5_lying_17 rfl ?_
    refine z_iload_n (k := 1) (pc := 19) C dX5_lying_19 rfl ?_
    refine z_iload_n (k := 2) (pc := 20) C dX5_lying_20 rfl ?_
    obtain ⟨_, g4, hM⟩ := Option.bind_eq_some_iff.mp hM
    obtain ⟨r5, g5, hM⟩ := Option.bind_eq_some_iff.mp hM
    refine z_goN (kc := 0) (ks := 0) ([.int r5, .int x3_1]) (z_callV (pc := 21) (As := [.int x4_1, .int x1, .int x2]) (rest := [.int x3_1]) (n := 3) (ci := 6) C (c_X5_lies l hl G lo t0 h nx a0 x4_1 x1 x2 r5 g5) g4 rfl q_264 q_265 q_266 q_71 q_267 ⟨rfl, by decide +kernel, by decide +kernel, by decide +kernel⟩ ⟨Nat.le_of_ble_eq_true rfl, Nat.le_of_ble_eq_true rfl⟩ rfl (Nat.le_of_ble_eq_true rfl) dX5_lying_21 ⟨(Nat.zero_le _), (Nat.zero_le _)⟩) rfl (Nat.le_of_ble_eq_true rfl) (Nat.le_of_ble_eq_true rfl) ?_
    refine zj2 0 0 32 (fun (s0_6 : Int32) (s1_6 : Int32) => [(0, .ref a0), (1, .int x1), (2, .int x2), (4, .int x4_1)]) (fun (s0_6 : Int32) (s1_6 : Int32) => [.int s1_6, .int s0_6]) (fun (s0_6 : Int32) (s1_6 : Int32) => h) (fun (s0_6 : Int32) (s1_6 : Int32) => nx) hM (fun s0_6 s1_6 hM => ?_) (fun J6 iJ6 hM => ?_)
    · refine z_iadd (pc := 32) C dX5_lying_32 ?_
      refine z_istore_n (lv' := [(3, .int (s0_6 + s1_6)), (0, .ref a0), (1, .int x1), (2, .int x2), (4, .int x4_1)]) (pc := 33) C dX5_lying_33 (by decide) rfl ?_
      refine z_iinc (k := 4) (v := (x4_1 + (1 : Int32))) (lv' := [(4, .int (x4_1 + (1 : Int32))), (3, .int (s0_6 + s1_6)), (0, .ref a0), (1, .int x1), (2, .int x2)]) (pc := 34) C dX5_lying_34 rfl (by first | rfl | decide) (by decide) rfl ?_
      refine z_goto (pc := 37) (tgt := 5) C dX5_lying_37 (by decide) ?_
      exact z_sub [2, 3, 4, 1, 0] rfl (irec1 (s0_6 + s1_6) (x4_1 + (1 : Int32)) hM)
    refine z_if_eq (pc := 24) (tgt := 31) C dX5_lying_24 (by decide) hM (fun hc7 hM => ?_) (fun hc7 hM => ?_)
    · refine z_iconst (v := (0 : Int32)) (pc := 31) C dX5_lying_31 (by decide) ?_
      exact z_sub [0, 1, 2, 4] rfl (iJ6 x3_1 (0 : Int32) hM)
    · refine z_iconst (v := (1 : Int32)) (pc := 27) C dX5_lying_27 (by decide) ?_
      refine z_goto (pc := 28) (tgt := 32) C dX5_lying_28 (by decide) ?_
      exact z_sub [0, 1, 2, 4] rfl (iJ6 x3_1 (1 : Int32) hM)
set_option maxHeartbeats 4000000 in
set_option maxRecDepth 100000 in
theorem c_X5_isCovered (l : Launch) (hl : l.stackTraces = false) (G : zG) (lo t0 : Nat) (h : zH) (nx : Nat) (a0 : Nat) (x1 : Int32) (x2 : Int32) (o : Int32) (hM : M_X5_isCovered h a0 x1 x2 = some o) : z_Met l yX5_isCovered cX5_isCovered 3 (some .boolean) 2 48 G lo t0 [.ref a0, .int x1, .int x2] h nx (.inr (some (.int o), h, nx)) 0 0 := by
  refine z_of [(0, .ref a0), (1, .int x1), (2, .int x2)] (by decide) (Nat.le_of_ble_eq_true rfl) rfl (fun p e s m below meth c C hin => ?_)
  unfold M_X5_isCovered at hM
  refine z_iload_n (k := 1) (pc := 0) C dX5_isCovered_0 rfl ?_
  refine zj0 0 0 33 ([]) ([]) (h) (nx) hM (fun  hM => ?_) (fun J1 iJ1 hM => ?_)
  · refine z_iconst (v := (0 : Int32)) (pc := 33) C dX5_isCovered_33 (by decide) ?_
    cases hM
    exact z_zret (pc := 34) C (Or.inl rfl) rfl (Nat.zero_le _) (Nat.zero_le _) dX5_isCovered_34
  refine z_if_lt (pc := 1) (tgt := 33) C dX5_isCovered_1 (by decide) hM (fun hc8 hM => ?_) (fun hc8 hM => ?_)
  · exact z_sub [] rfl (iJ1 hM)
  · refine z_iload_n (k := 2) (pc := 4) C dX5_isCovered_4 rfl ?_
    refine z_if_lt (pc := 5) (tgt := 33) C dX5_isCovered_5 (by decide) hM (fun hc7 hM => ?_) (fun hc7 hM => ?_)
    · exact z_sub [] rfl (iJ1 hM)
    · refine z_iload_n (k := 1) (pc := 8) C dX5_isCovered_8 rfl ?_
      refine z_bipush (v := (24 : Int32)) (pc := 9) C dX5_isCovered_9 (by decide) ?_
      refine z_icmp_ge (pc := 11) (tgt := 33) C dX5_isCovered_11 (by decide) hM (fun hc6 hM => ?_) (fun hc6 hM => ?_)
      · exact z_sub [] rfl (iJ1 hM)
      · refine z_iload_n (k := 2) (pc := 14) C dX5_isCovered_14 rfl ?_
        refine z_bipush (v := (24 : Int32)) (pc := 15) C dX5_isCovered_15 (by decide) ?_
        refine z_icmp_ge (pc := 17) (tgt := 33) C dX5_isCovered_17 (by decide) hM (fun hc5 hM => ?_) (fun hc5 hM => ?_)
        · exact z_sub [] rfl (iJ1 hM)
        · refine z_aload_n (k := 0) (pc := 20) C dX5_isCovered_20 rfl ?_
          refine z_iload_n (k := 1) (pc := 21) C dX5_isCovered_21 rfl ?_
          refine z_iload_n (k := 2) (pc := 22) C dX5_isCovered_22 rfl ?_
          obtain ⟨_, g2, hM⟩ := Option.bind_eq_some_iff.mp hM
          obtain ⟨r3, g3, hM⟩ := Option.bind_eq_some_iff.mp hM
          refine z_goN (kc := 0) (ks := 0) ([.int r3]) (z_callV (pc := 23) (As := [.int x1, .int x2]) (rest := []) (n := 2) (ci := 6) C (c_X5_lying l hl G lo t0 h nx a0 x1 x2 r3 g3) g2 rfl q_260 q_261 q_262 q_71 q_263 ⟨rfl, by decide +kernel, by decide +kernel, by decide +kernel⟩ ⟨Nat.le_of_ble_eq_true rfl, Nat.le_of_ble_eq_true rfl⟩ rfl (Nat.le_of_ble_eq_true rfl) dX5_isCovered_23 ⟨(Nat.zero_le _), (Nat.zero_le _)⟩) rfl (Nat.le_of_ble_eq_true rfl) (Nat.le_of_ble_eq_true rfl) ?_
          refine z_if_le (pc := 26) (tgt := 33) C dX5_isCovered_26 (by decide) hM (fun hc4 hM => ?_) (fun hc4 hM => ?_)
          · exact z_sub [] rfl (iJ1 hM)
          · refine z_iconst (v := (1 : Int32)) (pc := 29) C dX5_isCovered_29 (by decide) ?_
            refine z_goto (pc := 30) (tgt := 34) C dX5_isCovered_30 (by decide) ?_
            cases hM
            exact z_zret (pc := 34) C (Or.inr rfl) rfl (Nat.zero_le _) (Nat.zero_le _) dX5_isCovered_34
set_option maxHeartbeats 4000000 in
set_option maxRecDepth 100000 in
theorem c_X5_highest (l : Launch) (hl : l.stackTraces = false) (G : zG) (lo t0 : Nat) (h : zH) (nx : Nat) (a0 : Nat) (x1 : Int32) (x2 : Int32) (x3 : Int32) (o : Int32) (hM : M_X5_highest h a0 x1 x2 x3 = some o) : z_Met l yX5_highest cX5_highest 6 (some .int) 1 24 G lo t0 [.ref a0, .int x1, .int x2, .int x3] h nx (.inr (some (.int o), h, nx)) 0 0 := by
  refine z_of [(0, .ref a0), (1, .int x1), (2, .int x2), (3, .int x3)] (by decide) (Nat.le_of_ble_eq_true rfl) rfl (fun p e s m below meth c C hin => ?_)
  unfold M_X5_highest at hM
  refine z_iconst (v := (-1 : Int32)) (pc := 0) C dX5_highest_0 (by decide) ?_
  refine z_istore (lv' := [(4, .int (-1 : Int32)), (0, .ref a0), (1, .int x1), (2, .int x2), (3, .int x3)]) (pc := 1) C dX5_highest_1 (by decide) rfl ?_
  refine z_aload_n (k := 1) (pc := 3) C dX5_highest_3 rfl ?_
  obtain ⟨r1, g1, hM⟩ := Option.bind_eq_some_iff.mp hM
  refine z_getR (pc := 4) (k := 0) C g1 rfl inlX5 (by decide) q_76 (fun _ h9 => h9) dX5_highest_4 ?_
  obtain ⟨r2, g2, hM⟩ := Option.bind_eq_some_iff.mp hM
  refine z_alen (pc := 7) C g2 dX5_highest_7 ?_
  refine z_iconst (v := (1 : Int32)) (pc := 8) C dX5_highest_8 (by decide) ?_
  refine z_isub (pc := 9) C dX5_highest_9 ?_
  refine z_istore (lv' := [(5, .int (r2 - (1 : Int32))), (4, .int (-1 : Int32)), (0, .ref a0), (1, .int x1), (2, .int x2), (3, .int x3)]) (pc := 10) C dX5_highest_10 (by decide) rfl ?_
  refine z_sub [2, 3, 4, 5, 1, 0] rfl (zl2 (fun (x4_3 : Int32) (x5_3 : Int32) => [(0, .ref a0), (1, .int x1), (2, .int x2), (3, .int x3), (4, .int x4_3), (5, .int x5_3)]) (fun (x4_3 : Int32) (x5_3 : Int32) => h) (fun (x4_3 : Int32) (x5_3 : Int32) => nx) hM (fun rec3 irec3 x4_3 x5_3 hM => ?_))
  refine z_iload (k := 5) (pc := 12) C dX5_highest_12 rfl ?_
  refine z_if_lt (pc := 14) (tgt := 77) C dX5_highest_14 (by decide) hM (fun hc21 hM => ?_) (fun hc21 hM => ?_)
  · refine z_iload (k := 4) (pc := 77) C dX5_highest_77 rfl ?_
    cases hM
    exact z_iret (pc := 79) C rfl (Nat.zero_le _) (Nat.zero_le _) dX5_highest_79
  · refine z_aload_n (k := 0) (pc := 17) C dX5_highest_17 rfl ?_
    refine z_iload (k := 5) (pc := 18) C dX5_highest_18 rfl ?_
    refine z_iload_n (k := 1) (pc := 20) C dX5_highest_20 rfl ?_
    refine z_iload_n (k := 2) (pc := 21) C dX5_highest_21 rfl ?_
    obtain ⟨_, g4, hM⟩ := Option.bind_eq_some_iff.mp hM
    obtain ⟨r5, g5, hM⟩ := Option.bind_eq_some_iff.mp hM
    refine z_goN (kc := 0) (ks := 0) ([.int r5]) (z_callV (pc := 22) (As := [.int x5_3, .int x1, .int x2]) (rest := []) (n := 3) (ci := 6) C (c_X5_lies l hl G lo t0 h nx a0 x5_3 x1 x2 r5 g5) g4 rfl q_264 q_265 q_266 q_71 q_267 ⟨rfl, by decide +kernel, by decide +kernel, by decide +kernel⟩ ⟨Nat.le_of_ble_eq_true rfl, Nat.le_of_ble_eq_true rfl⟩ rfl (Nat.le_of_ble_eq_true rfl) dX5_highest_22 ⟨(Nat.zero_le _), (Nat.zero_le _)⟩) rfl (Nat.le_of_ble_eq_true rfl) (Nat.le_of_ble_eq_true rfl) ?_
    refine zj1 0 0 71 (fun (x4_6 : Int32) => [(0, .ref a0), (1, .int x1), (2, .int x2), (3, .int x3), (4, .int x4_6), (5, .int x5_3)]) (fun (x4_6 : Int32) => []) (fun (x4_6 : Int32) => h) (fun (x4_6 : Int32) => nx) hM (fun x4_6 hM => ?_) (fun J6 iJ6 hM => ?_)
    · refine z_iinc (k := 5) (v := (x5_3 + (-1 : Int32))) (lv' := [(5, .int (x5_3 + (-1 : Int32))), (0, .ref a0), (1, .int x1), (2, .int x2), (3, .int x3), (4, .int x4_6)]) (pc := 71) C dX5_highest_71 rfl (by first | rfl | decide) (by decide) rfl ?_
      refine z_goto (pc := 74) (tgt := 12) C dX5_highest_74 (by decide) ?_
      exact z_sub [1, 2, 3, 4, 5, 0] rfl (irec3 x4_6 (x5_3 + (-1 : Int32)) hM)
    refine z_if_eq (pc := 25) (tgt := 71) C dX5_highest_25 (by decide) hM (fun hc20 hM => ?_) (fun hc20 hM => ?_)
    · exact z_sub [0, 1, 2, 3, 4, 5] rfl (iJ6 x4_3 hM)
    · refine z_aload_n (k := 0) (pc := 28) C dX5_highest_28 rfl ?_
      obtain ⟨r7, g7, hM⟩ := Option.bind_eq_some_iff.mp hM
      refine z_getR (pc := 29) (k := 0) C g7 rfl inlX5 (by decide) q_76 (fun _ h9 => h9) dX5_highest_29 ?_
      refine z_iload (k := 5) (pc := 32) C dX5_highest_32 rfl ?_
      obtain ⟨r8, g8, hM⟩ := Option.bind_eq_some_iff.mp hM
      refine z_aaldD (pc := 34) C g8 dX5_highest_34 ?_
      refine z_iconst (v := (4 : Int32)) (pc := 35) C dX5_highest_35 (by decide) ?_
      obtain ⟨r9, g9, hM⟩ := Option.bind_eq_some_iff.mp hM
      refine z_iald (pc := 36) C g9 dX5_highest_36 ?_
      refine z_iload_n (k := 3) (pc := 37) C dX5_highest_37 rfl ?_
      refine z_icmp_ge (pc := 38) (tgt := 71) C dX5_highest_38 (by decide) hM (fun hc19 hM => ?_) (fun hc19 hM => ?_)
      · exact z_sub [0, 1, 2, 3, 4, 5] rfl (iJ6 x4_3 hM)
      · refine z_iload (k := 4) (pc := 41) C dX5_highest_41 rfl ?_
        refine zj0 0 0 67 ([(0, .ref a0), (1, .int x1), (2, .int x2), (3, .int x3), (5, .int x5_3)]) ([]) (h) (nx) hM (fun  hM => ?_) (fun J10 iJ10 hM => ?_)
        · refine z_iload (k := 4) (pc := 67) C dX5_highest_67 rfl ?_
          refine z_istore (lv' := [(4, .int x5_3), (0, .ref a0), (1, .int x1), (2, .int x2), (3, .int x3), (5, .int x5_3)]) (pc := 69) C dX5_highest_69 (by decide) rfl ?_
          exact z_sub [1, 2, 3, 4, 0, 5] rfl (iJ6 x5_3 hM)
        refine z_if_lt (pc := 43) (tgt := 67) C dX5_highest_43 (by decide) hM (fun hc18 hM => ?_) (fun hc18 hM => ?_)
        · exact z_sub [0, 1, 2, 3, 5] rfl (iJ10 hM)
        · refine z_aload_n (k := 0) (pc := 46) C dX5_highest_46 rfl ?_
          obtain ⟨r11, g11, hM⟩ := Option.bind_eq_some_iff.mp hM
          refine z_getR (pc := 47) (k := 0) C g11 rfl inlX5 (by decide) q_76 (fun _ h9 => h9) dX5_highest_47 ?_
          refine z_iload (k := 5) (pc := 50) C dX5_highest_50 rfl ?_
          obtain ⟨r12, g12, hM⟩ := Option.bind_eq_some_iff.mp hM
          refine z_aaldD (pc := 52) C g12 dX5_highest_52 ?_
          refine z_iconst (v := (4 : Int32)) (pc := 53) C dX5_highest_53 (by decide) ?_
          obtain ⟨r13, g13, hM⟩ := Option.bind_eq_some_iff.mp hM
          refine z_iald (pc := 54) C g13 dX5_highest_54 ?_
          refine z_aload_n (k := 0) (pc := 55) C dX5_highest_55 rfl ?_
          obtain ⟨r14, g14, hM⟩ := Option.bind_eq_some_iff.mp hM
          refine z_getR (pc := 56) (k := 0) C g14 rfl inlX5 (by decide) q_76 (fun _ h9 => h9) dX5_highest_56 ?_
          refine z_iload (k := 4) (pc := 59) C dX5_highest_59 rfl ?_
          obtain ⟨r15, g15, hM⟩ := Option.bind_eq_some_iff.mp hM
          refine z_aaldD (pc := 61) C g15 dX5_highest_61 ?_
          refine z_iconst (v := (4 : Int32)) (pc := 62) C dX5_highest_62 (by decide) ?_
          obtain ⟨r16, g16, hM⟩ := Option.bind_eq_some_iff.mp hM
          refine z_iald (pc := 63) C g16 dX5_highest_63 ?_
          refine z_icmp_lt (pc := 64) (tgt := 71) C dX5_highest_64 (by decide) hM (fun hc17 hM => ?_) (fun hc17 hM => ?_)
          · exact z_sub [0, 1, 2, 3, 4, 5] rfl (iJ6 x4_3 hM)
          · exact z_sub [0, 1, 2, 3, 5] rfl (iJ10 hM)
set_option maxHeartbeats 4000000 in
set_option maxRecDepth 100000 in
theorem c_X5_hour (l : Launch) (hl : l.stackTraces = false) (G : zG) (lo t0 : Nat) (h : zH) (nx : Nat) (a0 : Nat) (x1 : Int32) (o : Nat × zH × Nat) (hM : M_X5_hour h nx a0 x1 = some o) : z_Met l yX5_hour cX5_hour 14 (some (.array (.array .int))) 2 49 G lo t0 [.ref a0, .int x1] h nx (.inr (some (.ref o.1), o.2.1, o.2.2)) 27 641 := by
  refine z_of [(0, .ref a0), (1, .int x1)] (by decide) (Nat.le_of_ble_eq_true rfl) rfl (fun p e s m below meth c C hin => ?_)
  unfold M_X5_hour at hM
  refine z_bipush (v := (25 : Int32)) (pc := 0) C dX5_hour_0 (by decide) ?_
  refine z_bipush (v := (24 : Int32)) (pc := 2) C dX5_hour_2 (by decide) ?_
  refine z_newM (pc := 4) (n' := 25) (k' := 24) C q_78 q_25 (by decide) (by decide) (by decide) (by decide) (by decide) (by decide) (Nat.le_of_ble_eq_true rfl) (Nat.le_of_ble_eq_true rfl) dX5_hour_4 ?_
  refine z_astore_n (lv' := [(2, .ref nx), (0, .ref a0), (1, .int x1)]) (pc := 8) C dX5_hour_8 (by decide) rfl ?_
  refine z_aload_n (k := 0) (pc := 9) C dX5_hour_9 rfl ?_
  refine z_bipush (v := (24 : Int32)) (pc := 10) C dX5_hour_10 (by decide) ?_
  refine z_aload_n (k := 1) (pc := 12) C dX5_hour_12 rfl ?_
  obtain ⟨r1, g1, hM⟩ := Option.bind_eq_some_iff.mp hM
  refine z_getR (pc := 13) (k := 0) C g1 rfl inlX5 (by decide) q_76 (fun _ h9 => h9) dX5_hour_13 ?_
  obtain ⟨r2, g2, hM⟩ := Option.bind_eq_some_iff.mp hM
  refine z_alen (pc := 16) C g2 dX5_hour_16 ?_
  refine z_iconst (v := (1 : Int32)) (pc := 17) C dX5_hour_17 (by decide) ?_
  refine z_iadd (pc := 18) C dX5_hour_18 ?_
  obtain ⟨hc3, hM⟩ := z_gy hM
  refine z_newJ (pc := 19) C q_25 hc3 (Nat.le_of_ble_eq_true rfl) (Nat.le_of_ble_eq_true rfl) dX5_hour_19 ?_
  obtain ⟨h_4, g4, hM⟩ := Option.bind_eq_some_iff.mp hM
  refine z_aastD (pc := 21) C g4 dX5_hour_21 ?_
  refine z_aload_n (k := 0) (pc := 22) C dX5_hour_22 rfl ?_
  refine z_bipush (v := (24 : Int32)) (pc := 23) C dX5_hour_23 (by decide) ?_
  obtain ⟨r5, g5, hM⟩ := Option.bind_eq_some_iff.mp hM
  refine z_aaldD (pc := 25) C g5 dX5_hour_25 ?_
  refine z_astore_n (lv' := [(3, .ref r5), (2, .ref nx), (0, .ref a0), (1, .int x1)]) (pc := 26) C dX5_hour_26 (by decide) rfl ?_
  refine z_iconst (v := (0 : Int32)) (pc := 27) C dX5_hour_27 (by decide) ?_
  refine z_istore (lv' := [(4, .int (0 : Int32)), (3, .ref r5), (2, .ref nx), (0, .ref a0), (1, .int x1)]) (pc := 28) C dX5_hour_28 (by decide) rfl ?_
  refine z_sub [3, 4, 2, 1, 0] rfl (zl2 (fun (x4_6 : Int32) (h_6 : zH) => [(0, .ref a0), (1, .int x1), (2, .ref nx), (3, .ref r5), (4, .int x4_6)]) (fun (x4_6 : Int32) (h_6 : zH) => h_6) (fun (x4_6 : Int32) (h_6 : zH) => ((nx + 1 + 25) + 1)) hM (fun rec6 irec6 x4_6 h_6 hM => ?_))
  refine z_iload (k := 4) (pc := 30) C dX5_hour_30 rfl ?_
  refine z_bipush (v := (24 : Int32)) (pc := 32) C dX5_hour_32 (by decide) ?_
  refine z_icmp_ge (pc := 34) (tgt := 98) C dX5_hour_34 (by decide) hM (fun hc79 hM => ?_) (fun hc79 hM => ?_)
  · refine z_bipush (v := (9 : Int32)) (pc := 98) C dX5_hour_98 (by decide) ?_
    refine z_istore (lv' := [(4, .int (9 : Int32)), (0, .ref a0), (1, .int x1), (2, .ref nx), (3, .ref r5)]) (pc := 100) C dX5_hour_100 (by decide) rfl ?_
    refine z_sub [1, 3, 4, 0] rfl (zl2 (fun (x4_7 : Int32) (h_7 : zH) => [(0, .ref a0), (2, .ref nx), (3, .ref r5), (4, .int x4_7)]) (fun (x4_7 : Int32) (h_7 : zH) => h_7) (fun (x4_7 : Int32) (h_7 : zH) => ((nx + 1 + 25) + 1)) hM (fun rec7 irec7 x4_7 h_7 hM => ?_))
    refine z_iload (k := 3) (pc := 102) C dX5_hour_102 rfl ?_
    refine z_if_le (pc := 104) (tgt := 407) C dX5_hour_104 (by decide) hM (fun hc67 hM => ?_) (fun hc67 hM => ?_)
    · refine z_aload_n (k := 1) (pc := 407) C dX5_hour_407 rfl ?_
      cases hM
      exact z_aret (pc := 408) C (Or.inr ⟨_, rfl⟩) rfl (Nat.le_of_ble_eq_true rfl) (Nat.le_of_ble_eq_true rfl) dX5_hour_408
    · refine z_iconst (v := (0 : Int32)) (pc := 107) C dX5_hour_107 (by decide) ?_
      refine z_istore (lv' := [(5, .int (0 : Int32)), (0, .ref a0), (2, .ref nx), (3, .ref r5), (4, .int x4_7)]) (pc := 108) C dX5_hour_108 (by decide) rfl ?_
      refine z_sub [1, 2, 3, 4, 0] rfl (zl2 (fun (x5_8 : Int32) (h_8 : zH) => [(0, .ref a0), (2, .ref nx), (3, .ref r5), (4, .int x4_7), (5, .int x5_8)]) (fun (x5_8 : Int32) (h_8 : zH) => h_8) (fun (x5_8 : Int32) (h_8 : zH) => ((nx + 1 + 25) + 1)) hM (fun rec8 irec8 x5_8 h_8 hM => ?_))
      refine z_iload (k := 4) (pc := 110) C dX5_hour_110 rfl ?_
      refine z_aload_n (k := 0) (pc := 112) C dX5_hour_112 rfl ?_
      obtain ⟨r9, g9, hM⟩ := Option.bind_eq_some_iff.mp hM
      refine z_getR (pc := 113) (k := 0) C g9 rfl inlX5 (by decide) q_76 (fun _ h9 => h9) dX5_hour_113 ?_
      obtain ⟨r10, g10, hM⟩ := Option.bind_eq_some_iff.mp hM
      refine z_alen (pc := 116) C g10 dX5_hour_116 ?_
      refine z_icmp_ge (pc := 117) (tgt := 401) C dX5_hour_117 (by decide) hM (fun hc66 hM => ?_) (fun hc66 hM => ?_)
      · refine z_iinc (k := 3) (v := (x4_7 + (-1 : Int32))) (lv' := [(4, .int (x4_7 + (-1 : Int32))), (0, .ref a0), (2, .ref nx), (3, .ref r5), (5, .int x5_8)]) (pc := 401) C dX5_hour_401 rfl (by first | rfl | decide) (by decide) rfl ?_
        refine z_goto (pc := 404) (tgt := 102) C dX5_hour_404 (by decide) ?_
        exact z_sub [1, 2, 3, 0] rfl (irec7 (x4_7 + (-1 : Int32)) h_8 hM)
      · refine z_aload_n (k := 0) (pc := 120) C dX5_hour_120 rfl ?_
        obtain ⟨r11, g11, hM⟩ := Option.bind_eq_some_iff.mp hM
        refine z_getR (pc := 121) (k := 0) C g11 rfl inlX5 (by decide) q_76 (fun _ h9 => h9) dX5_hour_121 ?_
        refine z_iload (k := 4) (pc := 124) C dX5_hour_124 rfl ?_
        obtain ⟨r12, g12, hM⟩ := Option.bind_eq_some_iff.mp hM
        refine z_aaldD (pc := 126) C g12 dX5_hour_126 ?_
        refine z_astore (lv' := [(6, .ref r12), (0, .ref a0), (2, .ref nx), (3, .ref r5), (4, .int x4_7), (5, .int x5_8)]) (pc := 127) C dX5_hour_127 (by decide) rfl ?_
        refine z_aload (k := 0) (pc := 129) C dX5_hour_129 rfl ?_
        refine z_iconst (v := (4 : Int32)) (pc := 131) C dX5_hour_131 (by decide) ?_
        obtain ⟨r13, g13, hM⟩ := Option.bind_eq_some_iff.mp hM
        refine z_iald (pc := 132) C g13 dX5_hour_132 ?_
        refine z_iload (k := 4) (pc := 133) C dX5_hour_133 rfl ?_
        refine zj1 27 641 395 (fun (h_14 : zH) => [(0, .ref a0), (2, .ref nx), (3, .ref r5), (4, .int x4_7), (5, .int x5_8)]) (fun (h_14 : zH) => []) (fun (h_14 : zH) => h_14) (fun (h_14 : zH) => ((nx + 1 + 25) + 1)) hM (fun h_14 hM => ?_) (fun J14 iJ14 hM => ?_)
        · refine z_iinc (k := 4) (v := (x5_8 + (1 : Int32))) (lv' := [(5, .int (x5_8 + (1 : Int32))), (0, .ref a0), (2, .ref nx), (3, .ref r5), (4, .int x4_7)]) (pc := 395) C dX5_hour_395 rfl (by first | rfl | decide) (by decide) rfl ?_
          refine z_goto (pc := 398) (tgt := 110) C dX5_hour_398 (by decide) ?_
          exact z_sub [1, 2, 3, 4, 0] rfl (irec8 (x5_8 + (1 : Int32)) h_14 hM)
        refine z_icmp_ne (pc := 135) (tgt := 395) C dX5_hour_135 (by decide) hM (fun hc65 hM => ?_) (fun hc65 hM => ?_)
        · refine z_aload (k := 0) (pc := 138) C dX5_hour_138 rfl ?_
          refine z_bipush (v := (6 : Int32)) (pc := 140) C dX5_hour_140 (by decide) ?_
          obtain ⟨r15, g15, hM⟩ := Option.bind_eq_some_iff.mp hM
          refine z_iald (pc := 142) C g15 dX5_hour_142 ?_
          refine z_if_ne (pc := 143) (tgt := 149) C dX5_hour_143 (by decide) hM (fun hc64 hM => ?_) (fun hc64 hM => ?_)
          · refine z_goto (pc := 146) (tgt := 395) C dX5_hour_146 (by decide) ?_
            exact z_sub [1, 2, 3, 4, 5] rfl (iJ14 h_8 hM)
          · refine z_aload (k := 0) (pc := 149) C dX5_hour_149 rfl ?_
            refine z_iconst (v := (5 : Int32)) (pc := 151) C dX5_hour_151 (by decide) ?_
            obtain ⟨r16, g16, hM⟩ := Option.bind_eq_some_iff.mp hM
            refine z_iald (pc := 152) C g16 dX5_hour_152 ?_
            refine zj1 27 641 175 (fun (s0_17 : Int32) => [(0, .ref a0), (2, .ref nx), (3, .ref r5), (4, .int x4_7), (5, .int x5_8), (6, .ref r12)]) (fun (s0_17 : Int32) => [.int s0_17]) (fun (s0_17 : Int32) => h_8) (fun (s0_17 : Int32) => ((nx + 1 + 25) + 1)) hM (fun s0_17 hM => ?_) (fun J17 iJ17 hM => ?_)
            · refine z_istore (lv' := [(7, .int s0_17), (0, .ref a0), (2, .ref nx), (3, .ref r5), (4, .int x4_7), (5, .int x5_8), (6, .ref r12)]) (pc := 175) C dX5_hour_175 (by decide) rfl ?_
              refine z_aload_n (k := 3) (pc := 177) C dX5_hour_177 rfl ?_
              refine z_iload (k := 5) (pc := 178) C dX5_hour_178 rfl ?_
              obtain ⟨r18, g18, hM⟩ := Option.bind_eq_some_iff.mp hM
              refine z_iald (pc := 180) C g18 dX5_hour_180 ?_
              refine z_istore (lv' := [(8, .int r18), (7, .int s0_17), (0, .ref a0), (2, .ref nx), (3, .ref r5), (4, .int x4_7), (5, .int x5_8), (6, .ref r12)]) (pc := 181) C dX5_hour_181 (by decide) rfl ?_
              refine z_iconst (v := (0 : Int32)) (pc := 183) C dX5_hour_183 (by decide) ?_
              refine z_istore (lv' := [(9, .int (0 : Int32)), (8, .int r18), (7, .int s0_17), (0, .ref a0), (2, .ref nx), (3, .ref r5), (4, .int x4_7), (5, .int x5_8), (6, .ref r12)]) (pc := 184) C dX5_hour_184 (by decide) rfl ?_
              refine z_sub [3, 4, 5, 6, 7, 8, 2, 1, 0] rfl (zl3 (fun (x8_19 : Int32) (x9_19 : Int32) (h_19 : zH) => [(0, .ref a0), (2, .ref nx), (3, .ref r5), (4, .int x4_7), (5, .int x5_8), (6, .ref r12), (7, .int s0_17), (8, .int x8_19), (9, .int x9_19)]) (fun (x8_19 : Int32) (x9_19 : Int32) (h_19 : zH) => h_19) (fun (x8_19 : Int32) (x9_19 : Int32) (h_19 : zH) => ((nx + 1 + 25) + 1)) hM (fun rec19 irec19 x8_19 x9_19 h_19 hM => ?_))
              refine z_iload (k := 8) (pc := 186) C dX5_hour_186 rfl ?_
              refine z_iload (k := 6) (pc := 188) C dX5_hour_188 rfl ?_
              refine z_icmp_ge (pc := 190) (tgt := 395) C dX5_hour_190 (by decide) hM (fun hc57 hM => ?_) (fun hc57 hM => ?_)
              · exact z_sub [0, 1, 2, 3, 4] rfl (iJ14 h_19 hM)
              · refine z_iload (k := 7) (pc := 193) C dX5_hour_193 rfl ?_
                refine z_iload (k := 6) (pc := 195) C dX5_hour_195 rfl ?_
                refine z_iadd (pc := 197) C dX5_hour_197 ?_
                refine z_iload (k := 8) (pc := 198) C dX5_hour_198 rfl ?_
                refine z_isub (pc := 200) C dX5_hour_200 ?_
                refine z_iconst (v := (1 : Int32)) (pc := 201) C dX5_hour_201 (by decide) ?_
                refine z_isub (pc := 202) C dX5_hour_202 ?_
                refine z_iload (k := 6) (pc := 203) C dX5_hour_203 rfl ?_
                refine z_iload (k := 8) (pc := 205) C dX5_hour_205 rfl ?_
                refine z_isub (pc := 207) C dX5_hour_207 ?_
                obtain ⟨hc20, hM⟩ := z_gn hM
                refine z_idiv (pc := 208) C dX5_hour_208 hc20 ?_
                refine z_istore (lv' := [(10, .int ((((x8_19 + s0_17) - x9_19) - (1 : Int32)) / (s0_17 - x9_19))), (0, .ref a0), (2, .ref nx), (3, .ref r5), (4, .int x4_7), (5, .int x5_8), (6, .ref r12), (7, .int s0_17), (8, .int x8_19), (9, .int x9_19)]) (pc := 209) C dX5_hour_209 (by decide) rfl ?_
                refine z_iload (k := 8) (pc := 211) C dX5_hour_211 rfl ?_
                refine z_iload (k := 0) (pc := 213) C dX5_hour_213 rfl ?_
                refine z_isub (pc := 215) C dX5_hour_215 ?_
                refine z_istore (lv' := [(8, .int (x8_19 - ((((x8_19 + s0_17) - x9_19) - (1 : Int32)) / (s0_17 - x9_19)))), (10, .int ((((x8_19 + s0_17) - x9_19) - (1 : Int32)) / (s0_17 - x9_19))), (0, .ref a0), (2, .ref nx), (3, .ref r5), (4, .int x4_7), (5, .int x5_8), (6, .ref r12), (7, .int s0_17), (9, .int x9_19)]) (pc := 216) C dX5_hour_216 (by decide) rfl ?_
                refine z_aload (k := 7) (pc := 218) C dX5_hour_218 rfl ?_
                refine z_iconst (v := (5 : Int32)) (pc := 220) C dX5_hour_220 (by decide) ?_
                obtain ⟨r21, g21, hM⟩ := Option.bind_eq_some_iff.mp hM
                refine z_iald (pc := 221) C g21 dX5_hour_221 ?_
                refine zj1 27 641 261 (fun (s0_22 : Int32) => [(0, .ref a0), (2, .ref nx), (3, .ref r5), (4, .int x4_7), (5, .int x5_8), (6, .ref r12), (7, .int s0_17), (8, .int (x8_19 - ((((x8_19 + s0_17) - x9_19) - (1 : Int32)) / (s0_17 - x9_19)))), (9, .int x9_19), (10, .int ((((x8_19 + s0_17) - x9_19) - (1 : Int32)) / (s0_17 - x9_19)))]) (fun (s0_22 : Int32) => [.int s0_22]) (fun (s0_22 : Int32) => h_19) (fun (s0_22 : Int32) => ((nx + 1 + 25) + 1)) hM (fun s0_22 hM => ?_) (fun J22 iJ22 hM => ?_)
                · refine z_istore (lv' := [(11, .int s0_22), (0, .ref a0), (2, .ref nx), (3, .ref r5), (4, .int x4_7), (5, .int x5_8), (6, .ref r12), (7, .int s0_17), (8, .int (x8_19 - ((((x8_19 + s0_17) - x9_19) - (1 : Int32)) / (s0_17 - x9_19)))), (9, .int x9_19), (10, .int ((((x8_19 + s0_17) - x9_19) - (1 : Int32)) / (s0_17 - x9_19)))]) (pc := 261) C dX5_hour_261 (by decide) rfl ?_
                  refine z_aload (k := 6) (pc := 263) C dX5_hour_263 rfl ?_
                  refine z_iconst (v := (5 : Int32)) (pc := 265) C dX5_hour_265 (by decide) ?_
                  obtain ⟨r23, g23, hM⟩ := Option.bind_eq_some_iff.mp hM
                  refine z_iald (pc := 266) C g23 dX5_hour_266 ?_
                  refine z_iconst (v := (1 : Int32)) (pc := 267) C dX5_hour_267 (by decide) ?_
                  refine zj1 27 641 307 (fun (s0_24 : Int32) => [(0, .ref a0), (2, .ref nx), (3, .ref r5), (4, .int x4_7), (5, .int x5_8), (6, .ref r12), (7, .int s0_17), (8, .int (x8_19 - ((((x8_19 + s0_17) - x9_19) - (1 : Int32)) / (s0_17 - x9_19)))), (9, .int x9_19), (10, .int ((((x8_19 + s0_17) - x9_19) - (1 : Int32)) / (s0_17 - x9_19))), (11, .int s0_22)]) (fun (s0_24 : Int32) => [.int s0_24]) (fun (s0_24 : Int32) => h_19) (fun (s0_24 : Int32) => ((nx + 1 + 25) + 1)) hM (fun s0_24 hM => ?_) (fun J24 iJ24 hM => ?_)
                  · refine z_istore (lv' := [(12, .int s0_24), (0, .ref a0), (2, .ref nx), (3, .ref r5), (4, .int x4_7), (5, .int x5_8), (6, .ref r12), (7, .int s0_17), (8, .int (x8_19 - ((((x8_19 + s0_17) - x9_19) - (1 : Int32)) / (s0_17 - x9_19)))), (9, .int x9_19), (10, .int ((((x8_19 + s0_17) - x9_19) - (1 : Int32)) / (s0_17 - x9_19))), (11, .int s0_22)]) (pc := 307) C dX5_hour_307 (by decide) rfl ?_
                    refine z_iload (k := 11) (pc := 309) C dX5_hour_309 rfl ?_
                    refine zj1 27 641 389 (fun (h_25 : zH) => [(0, .ref a0), (2, .ref nx), (3, .ref r5), (4, .int x4_7), (5, .int x5_8), (6, .ref r12), (7, .int s0_17), (8, .int (x8_19 - ((((x8_19 + s0_17) - x9_19) - (1 : Int32)) / (s0_17 - x9_19)))), (9, .int x9_19)]) (fun (h_25 : zH) => []) (fun (h_25 : zH) => h_25) (fun (h_25 : zH) => ((nx + 1 + 25) + 1)) hM (fun h_25 hM => ?_) (fun J25 iJ25 hM => ?_)
                    · refine z_iinc (k := 8) (v := (x9_19 + (1 : Int32))) (lv' := [(9, .int (x9_19 + (1 : Int32))), (0, .ref a0), (2, .ref nx), (3, .ref r5), (4, .int x4_7), (5, .int x5_8), (6, .ref r12), (7, .int s0_17), (8, .int (x8_19 - ((((x8_19 + s0_17) - x9_19) - (1 : Int32)) / (s0_17 - x9_19))))]) (pc := 389) C dX5_hour_389 rfl (by first | rfl | decide) (by decide) rfl ?_
                      refine z_goto (pc := 392) (tgt := 186) C dX5_hour_392 (by decide) ?_
                      exact z_sub [1, 2, 3, 4, 5, 6, 7, 8, 0] rfl (irec19 (x8_19 - ((((x8_19 + s0_17) - x9_19) - (1 : Int32)) / (s0_17 - x9_19))) (x9_19 + (1 : Int32)) h_25 hM)
                    refine zj0 27 641 333 ([(0, .ref a0), (2, .ref nx), (3, .ref r5), (4, .int x4_7), (5, .int x5_8), (6, .ref r12), (7, .int s0_17), (8, .int (x8_19 - ((((x8_19 + s0_17) - x9_19) - (1 : Int32)) / (s0_17 - x9_19)))), (9, .int x9_19), (10, .int ((((x8_19 + s0_17) - x9_19) - (1 : Int32)) / (s0_17 - x9_19)))]) ([]) (h_19) (((nx + 1 + 25) + 1)) hM (fun  hM => ?_) (fun J26 iJ26 hM => ?_)
                    · refine z_aload_n (k := 2) (pc := 333) C dX5_hour_333 rfl ?_
                      refine z_aload_n (k := 0) (pc := 334) C dX5_hour_334 rfl ?_
                      obtain ⟨r27, g27, hM⟩ := Option.bind_eq_some_iff.mp hM
                      refine z_getR (pc := 335) (k := 0) C g27 rfl inlX5 (by decide) q_76 (fun _ h9 => h9) dX5_hour_335 ?_
                      obtain ⟨r28, g28, hM⟩ := Option.bind_eq_some_iff.mp hM
                      refine z_alen (pc := 338) C g28 dX5_hour_338 ?_
                      refine z_dup2 (pc := 339) C dX5_hour_339 rfl rfl ?_
                      obtain ⟨r29, g29, hM⟩ := Option.bind_eq_some_iff.mp hM
                      refine z_iald (pc := 340) C g29 dX5_hour_340 ?_
                      refine z_iload (k := 9) (pc := 341) C dX5_hour_341 rfl ?_
                      refine z_iadd (pc := 343) C dX5_hour_343 ?_
                      obtain ⟨h_30, g30, hM⟩ := Option.bind_eq_some_iff.mp hM
                      refine z_iast (pc := 344) C g30 dX5_hour_344 ?_
                      refine z_goto (pc := 345) (tgt := 389) C dX5_hour_345 (by decide) ?_
                      exact z_sub [0, 1, 2, 3, 4, 5, 6, 7, 8] rfl (iJ25 h_30 hM)
                    refine z_if_lt (pc := 311) (tgt := 333) C dX5_hour_311 (by decide) hM (fun hc42 hM => ?_) (fun hc42 hM => ?_)
                    · exact z_sub [1, 2, 3, 4, 5, 6, 7, 8, 9, 10] rfl (iJ26 hM)
                    · refine z_iload (k := 0) (pc := 314) C dX5_hour_314 rfl ?_
                      refine z_if_lt (pc := 316) (tgt := 333) C dX5_hour_316 (by decide) hM (fun hc41 hM => ?_) (fun hc41 hM => ?_)
                      · exact z_sub [1, 2, 3, 4, 5, 6, 7, 8, 9, 10] rfl (iJ26 hM)
                      · refine z_iload (k := 11) (pc := 319) C dX5_hour_319 rfl ?_
                        refine z_bipush (v := (23 : Int32)) (pc := 321) C dX5_hour_321 (by decide) ?_
                        refine z_icmp_gt (pc := 323) (tgt := 333) C dX5_hour_323 (by decide) hM (fun hc40 hM => ?_) (fun hc40 hM => ?_)
                        · exact z_sub [1, 2, 3, 4, 5, 6, 7, 8, 9, 10] rfl (iJ26 hM)
                        · refine z_iload (k := 0) (pc := 326) C dX5_hour_326 rfl ?_
                          refine z_bipush (v := (23 : Int32)) (pc := 328) C dX5_hour_328 (by decide) ?_
                          refine z_icmp_le (pc := 330) (tgt := 348) C dX5_hour_330 (by decide) hM (fun hc39 hM => ?_) (fun hc39 hM => ?_)
                          · refine z_aload_n (k := 1) (pc := 348) C dX5_hour_348 rfl ?_
                            refine z_iload (k := 11) (pc := 349) C dX5_hour_349 rfl ?_
                            refine z_iload (k := 0) (pc := 351) C dX5_hour_351 rfl ?_
                            refine z_iload (k := 4) (pc := 353) C dX5_hour_353 rfl ?_
                            obtain ⟨_, g31, hM⟩ := Option.bind_eq_some_iff.mp hM
                            obtain ⟨r32, g32, hM⟩ := Option.bind_eq_some_iff.mp hM
                            refine z_goN (kc := 27) (ks := 641) ([.int r32]) (z_callV (pc := 355) (As := [.int s0_22, .int s0_24, .int x4_7]) (rest := []) (n := 3) (ci := 6) C (c_X5_highest l hl G lo t0 h_19 ((nx + 1 + 25) + 1) a0 s0_22 s0_24 x4_7 r32 g32) g31 rfl q_399 q_400 q_401 q_71 q_402 ⟨rfl, by decide +kernel, by decide +kernel, by decide +kernel⟩ ⟨Nat.le_of_ble_eq_true rfl, Nat.le_of_ble_eq_true rfl⟩ rfl (Nat.le_of_ble_eq_true rfl) dX5_hour_355 ⟨(Nat.le_of_ble_eq_true rfl), (Nat.le_of_ble_eq_true rfl)⟩) rfl (Nat.le_of_ble_eq_true rfl) (Nat.le_of_ble_eq_true rfl) ?_
                            refine z_istore (lv' := [(13, .int r32), (12, .int s0_24), (0, .ref a0), (2, .ref nx), (3, .ref r5), (4, .int x4_7), (5, .int x5_8), (6, .ref r12), (7, .int s0_17), (8, .int (x8_19 - ((((x8_19 + s0_17) - x9_19) - (1 : Int32)) / (s0_17 - x9_19)))), (9, .int x9_19), (10, .int ((((x8_19 + s0_17) - x9_19) - (1 : Int32)) / (s0_17 - x9_19))), (11, .int s0_22)]) (pc := 358) C dX5_hour_358 (by decide) rfl ?_
                            refine z_iload (k := 0) (pc := 360) C dX5_hour_360 rfl ?_
                            refine z_if_ge (pc := 362) (tgt := 380) C dX5_hour_362 (by decide) hM (fun hc38 hM => ?_) (fun hc38 hM => ?_)
                            · refine z_aload_n (k := 4) (pc := 380) C dX5_hour_380 rfl ?_
                              refine z_iload (k := 0) (pc := 381) C dX5_hour_381 rfl ?_
                              refine z_dup2 (pc := 383) C dX5_hour_383 rfl rfl ?_
                              obtain ⟨r33, g33, hM⟩ := Option.bind_eq_some_iff.mp hM
                              refine z_iald (pc := 384) C g33 dX5_hour_384 ?_
                              refine z_iload (k := 11) (pc := 385) C dX5_hour_385 rfl ?_
                              refine z_iadd (pc := 387) C dX5_hour_387 ?_
                              obtain ⟨h_34, g34, hM⟩ := Option.bind_eq_some_iff.mp hM
                              refine z_iast (pc := 388) C g34 dX5_hour_388 ?_
                              exact z_sub [2, 3, 4, 5, 6, 7, 8, 9, 10] rfl (iJ25 h_34 hM)
                            · refine z_aload_n (k := 3) (pc := 365) C dX5_hour_365 rfl ?_
                              refine z_iload (k := 12) (pc := 366) C dX5_hour_366 rfl ?_
                              obtain ⟨r35, g35, hM⟩ := Option.bind_eq_some_iff.mp hM
                              refine z_aaldD (pc := 368) C g35 dX5_hour_368 ?_
                              refine z_iload (k := 1) (pc := 369) C dX5_hour_369 rfl ?_
                              refine z_dup2 (pc := 371) C dX5_hour_371 rfl rfl ?_
                              obtain ⟨r36, g36, hM⟩ := Option.bind_eq_some_iff.mp hM
                              refine z_iald (pc := 372) C g36 dX5_hour_372 ?_
                              refine z_iload (k := 11) (pc := 373) C dX5_hour_373 rfl ?_
                              refine z_iadd (pc := 375) C dX5_hour_375 ?_
                              obtain ⟨h_37, g37, hM⟩ := Option.bind_eq_some_iff.mp hM
                              refine z_iast (pc := 376) C g37 dX5_hour_376 ?_
                              refine z_goto (pc := 377) (tgt := 389) C dX5_hour_377 (by decide) ?_
                              exact z_sub [2, 3, 4, 5, 6, 7, 8, 9, 10] rfl (iJ25 h_37 hM)
                          · exact z_sub [1, 2, 3, 4, 5, 6, 7, 8, 9, 10] rfl (iJ26 hM)
                  refine z_icmp_ne (pc := 268) (tgt := 280) C dX5_hour_268 (by decide) hM (fun hc49 hM => ?_) (fun hc49 hM => ?_)
                  · refine z_aload (k := 6) (pc := 271) C dX5_hour_271 rfl ?_
                    refine z_iconst (v := (1 : Int32)) (pc := 273) C dX5_hour_273 (by decide) ?_
                    obtain ⟨r48, g48, hM⟩ := Option.bind_eq_some_iff.mp hM
                    refine z_iald (pc := 274) C g48 dX5_hour_274 ?_
                    refine z_iconst (v := (1 : Int32)) (pc := 275) C dX5_hour_275 (by decide) ?_
                    refine z_isub (pc := 276) C dX5_hour_276 ?_
                    refine z_goto (pc := 277) (tgt := 307) C dX5_hour_277 (by decide) ?_
                    exact z_sub [1, 2, 3, 4, 5, 6, 7, 8, 9, 10, 0] rfl (iJ24 (r48 - (1 : Int32)) hM)
                  · refine z_aload (k := 6) (pc := 280) C dX5_hour_280 rfl ?_
                    refine z_iconst (v := (5 : Int32)) (pc := 282) C dX5_hour_282 (by decide) ?_
                    obtain ⟨r43, g43, hM⟩ := Option.bind_eq_some_iff.mp hM
                    refine z_iald (pc := 283) C g43 dX5_hour_283 ?_
                    refine z_iconst (v := (3 : Int32)) (pc := 284) C dX5_hour_284 (by decide) ?_
                    refine z_icmp_ne (pc := 285) (tgt := 300) C dX5_hour_285 (by decide) hM (fun hc47 hM => ?_) (fun hc47 hM => ?_)
                    · refine z_aload (k := 6) (pc := 288) C dX5_hour_288 rfl ?_
                      refine z_iconst (v := (1 : Int32)) (pc := 290) C dX5_hour_290 (by decide) ?_
                      obtain ⟨r45, g45, hM⟩ := Option.bind_eq_some_iff.mp hM
                      refine z_iald (pc := 291) C g45 dX5_hour_291 ?_
                      refine z_aload (k := 6) (pc := 292) C dX5_hour_292 rfl ?_
                      refine z_iconst (v := (3 : Int32)) (pc := 294) C dX5_hour_294 (by decide) ?_
                      obtain ⟨r46, g46, hM⟩ := Option.bind_eq_some_iff.mp hM
                      refine z_iald (pc := 295) C g46 dX5_hour_295 ?_
                      refine z_iadd (pc := 296) C dX5_hour_296 ?_
                      refine z_goto (pc := 297) (tgt := 307) C dX5_hour_297 (by decide) ?_
                      exact z_sub [1, 2, 3, 4, 5, 6, 7, 8, 9, 10, 0] rfl (iJ24 (r45 + r46) hM)
                    · refine z_aload (k := 6) (pc := 300) C dX5_hour_300 rfl ?_
                      refine z_iconst (v := (1 : Int32)) (pc := 302) C dX5_hour_302 (by decide) ?_
                      obtain ⟨r44, g44, hM⟩ := Option.bind_eq_some_iff.mp hM
                      refine z_iald (pc := 303) C g44 dX5_hour_303 ?_
                      refine z_iload (k := 9) (pc := 304) C dX5_hour_304 rfl ?_
                      refine z_iadd (pc := 306) C dX5_hour_306 ?_
                      exact z_sub [1, 2, 3, 4, 5, 6, 7, 8, 9, 10, 0] rfl (iJ24 (r44 + x9_19) hM)
                refine z_if_ne (pc := 222) (tgt := 234) C dX5_hour_222 (by decide) hM (fun hc56 hM => ?_) (fun hc56 hM => ?_)
                · refine z_aload (k := 7) (pc := 225) C dX5_hour_225 rfl ?_
                  refine z_iconst (v := (0 : Int32)) (pc := 227) C dX5_hour_227 (by decide) ?_
                  obtain ⟨r55, g55, hM⟩ := Option.bind_eq_some_iff.mp hM
                  refine z_iald (pc := 228) C g55 dX5_hour_228 ?_
                  refine z_iconst (v := (1 : Int32)) (pc := 229) C dX5_hour_229 (by decide) ?_
                  refine z_isub (pc := 230) C dX5_hour_230 ?_
                  refine z_goto (pc := 231) (tgt := 261) C dX5_hour_231 (by decide) ?_
                  exact z_sub [2, 3, 4, 5, 6, 7, 8, 0, 9, 1] rfl (iJ22 (r55 - (1 : Int32)) hM)
                · refine z_aload (k := 7) (pc := 234) C dX5_hour_234 rfl ?_
                  refine z_iconst (v := (5 : Int32)) (pc := 236) C dX5_hour_236 (by decide) ?_
                  obtain ⟨r50, g50, hM⟩ := Option.bind_eq_some_iff.mp hM
                  refine z_iald (pc := 237) C g50 dX5_hour_237 ?_
                  refine z_iconst (v := (2 : Int32)) (pc := 238) C dX5_hour_238 (by decide) ?_
                  refine z_icmp_ne (pc := 239) (tgt := 254) C dX5_hour_239 (by decide) hM (fun hc54 hM => ?_) (fun hc54 hM => ?_)
                  · refine z_aload (k := 7) (pc := 242) C dX5_hour_242 rfl ?_
                    refine z_iconst (v := (0 : Int32)) (pc := 244) C dX5_hour_244 (by decide) ?_
                    obtain ⟨r52, g52, hM⟩ := Option.bind_eq_some_iff.mp hM
                    refine z_iald (pc := 245) C g52 dX5_hour_245 ?_
                    refine z_aload (k := 7) (pc := 246) C dX5_hour_246 rfl ?_
                    refine z_iconst (v := (2 : Int32)) (pc := 248) C dX5_hour_248 (by decide) ?_
                    obtain ⟨r53, g53, hM⟩ := Option.bind_eq_some_iff.mp hM
                    refine z_iald (pc := 249) C g53 dX5_hour_249 ?_
                    refine z_iadd (pc := 250) C dX5_hour_250 ?_
                    refine z_goto (pc := 251) (tgt := 261) C dX5_hour_251 (by decide) ?_
                    exact z_sub [2, 3, 4, 5, 6, 7, 8, 0, 9, 1] rfl (iJ22 (r52 + r53) hM)
                  · refine z_aload (k := 7) (pc := 254) C dX5_hour_254 rfl ?_
                    refine z_iconst (v := (0 : Int32)) (pc := 256) C dX5_hour_256 (by decide) ?_
                    obtain ⟨r51, g51, hM⟩ := Option.bind_eq_some_iff.mp hM
                    refine z_iald (pc := 257) C g51 dX5_hour_257 ?_
                    refine z_iload (k := 9) (pc := 258) C dX5_hour_258 rfl ?_
                    refine z_iadd (pc := 260) C dX5_hour_260 ?_
                    exact z_sub [2, 3, 4, 5, 6, 7, 8, 0, 9, 1] rfl (iJ22 (r51 + x9_19) hM)
            refine zj0 27 641 164 ([(0, .ref a0), (2, .ref nx), (3, .ref r5), (4, .int x4_7), (5, .int x5_8), (6, .ref r12)]) ([]) (h_8) (((nx + 1 + 25) + 1)) hM (fun  hM => ?_) (fun J58 iJ58 hM => ?_)
            · refine z_aload (k := 5) (pc := 164) C dX5_hour_164 rfl ?_
              refine z_iconst (v := (3 : Int32)) (pc := 166) C dX5_hour_166 (by decide) ?_
              obtain ⟨r59, g59, hM⟩ := Option.bind_eq_some_iff.mp hM
              refine z_iald (pc := 167) C g59 dX5_hour_167 ?_
              refine z_goto (pc := 168) (tgt := 175) C dX5_hour_168 (by decide) ?_
              exact z_sub [0, 1, 2, 3, 4, 5] rfl (iJ17 r59 hM)
            refine z_if_eq (pc := 153) (tgt := 164) C dX5_hour_153 (by decide) hM (fun hc63 hM => ?_) (fun hc63 hM => ?_)
            · exact z_sub [1, 2, 3, 4, 5, 0] rfl (iJ58 hM)
            · refine z_aload (k := 0) (pc := 156) C dX5_hour_156 rfl ?_
              refine z_iconst (v := (5 : Int32)) (pc := 158) C dX5_hour_158 (by decide) ?_
              obtain ⟨r60, g60, hM⟩ := Option.bind_eq_some_iff.mp hM
              refine z_iald (pc := 159) C g60 dX5_hour_159 ?_
              refine z_iconst (v := (2 : Int32)) (pc := 160) C dX5_hour_160 (by decide) ?_
              refine z_icmp_ne (pc := 161) (tgt := 171) C dX5_hour_161 (by decide) hM (fun hc62 hM => ?_) (fun hc62 hM => ?_)
              · exact z_sub [1, 2, 3, 4, 5, 0] rfl (iJ58 hM)
              · refine z_aload (k := 0) (pc := 171) C dX5_hour_171 rfl ?_
                refine z_iconst (v := (2 : Int32)) (pc := 173) C dX5_hour_173 (by decide) ?_
                obtain ⟨r61, g61, hM⟩ := Option.bind_eq_some_iff.mp hM
                refine z_iald (pc := 174) C g61 dX5_hour_174 ?_
                exact z_sub [1, 2, 3, 4, 5, 0] rfl (iJ17 r61 hM)
        · exact z_sub [1, 2, 3, 4, 5] rfl (iJ14 h_8 hM)
  · refine z_iconst (v := (0 : Int32)) (pc := 37) C dX5_hour_37 (by decide) ?_
    refine z_istore (lv' := [(5, .int (0 : Int32)), (0, .ref a0), (1, .int x1), (2, .ref nx), (3, .ref r5), (4, .int x4_6)]) (pc := 38) C dX5_hour_38 (by decide) rfl ?_
    refine z_sub [1, 2, 3, 4, 5, 0] rfl (zl2 (fun (x5_68 : Int32) (h_68 : zH) => [(0, .ref a0), (1, .int x1), (2, .ref nx), (3, .ref r5), (4, .int x4_6), (5, .int x5_68)]) (fun (x5_68 : Int32) (h_68 : zH) => h_68) (fun (x5_68 : Int32) (h_68 : zH) => ((nx + 1 + 25) + 1)) hM (fun rec68 irec68 x5_68 h_68 hM => ?_))
    refine z_iload (k := 5) (pc := 40) C dX5_hour_40 rfl ?_
    refine z_bipush (v := (24 : Int32)) (pc := 42) C dX5_hour_42 (by decide) ?_
    refine z_icmp_ge (pc := 44) (tgt := 92) C dX5_hour_44 (by decide) hM (fun hc78 hM => ?_) (fun hc78 hM => ?_)
    · refine z_iinc (k := 4) (v := (x4_6 + (1 : Int32))) (lv' := [(4, .int (x4_6 + (1 : Int32))), (0, .ref a0), (1, .int x1), (2, .ref nx), (3, .ref r5), (5, .int x5_68)]) (pc := 92) C dX5_hour_92 rfl (by first | rfl | decide) (by decide) rfl ?_
      refine z_goto (pc := 95) (tgt := 30) C dX5_hour_95 (by decide) ?_
      exact z_sub [1, 2, 3, 4, 0] rfl (irec6 (x4_6 + (1 : Int32)) h_68 hM)
    · refine z_aload_n (k := 0) (pc := 47) C dX5_hour_47 rfl ?_
      refine z_iload (k := 4) (pc := 48) C dX5_hour_48 rfl ?_
      refine z_iload (k := 5) (pc := 50) C dX5_hour_50 rfl ?_
      refine z_bipush (v := (10 : Int32)) (pc := 52) C dX5_hour_52 (by decide) ?_
      obtain ⟨_, g69, hM⟩ := Option.bind_eq_some_iff.mp hM
      obtain ⟨r70, g70, hM⟩ := Option.bind_eq_some_iff.mp hM
      refine z_goN (kc := 27) (ks := 641) ([.int r70]) (z_callV (pc := 54) (As := [.int x4_6, .int x5_68, .int (10 : Int32)]) (rest := []) (n := 3) (ci := 6) C (c_X5_highest l hl G lo t0 h_68 ((nx + 1 + 25) + 1) a0 x4_6 x5_68 (10 : Int32) r70 g70) g69 rfl q_399 q_400 q_401 q_71 q_402 ⟨rfl, by decide +kernel, by decide +kernel, by decide +kernel⟩ ⟨Nat.le_of_ble_eq_true rfl, Nat.le_of_ble_eq_true rfl⟩ rfl (Nat.le_of_ble_eq_true rfl) dX5_hour_54 ⟨(Nat.le_of_ble_eq_true rfl), (Nat.le_of_ble_eq_true rfl)⟩) rfl (Nat.le_of_ble_eq_true rfl) (Nat.le_of_ble_eq_true rfl) ?_
      refine z_istore (lv' := [(6, .int r70), (0, .ref a0), (1, .int x1), (2, .ref nx), (3, .ref r5), (4, .int x4_6), (5, .int x5_68)]) (pc := 57) C dX5_hour_57 (by decide) rfl ?_
      refine z_iload (k := 0) (pc := 59) C dX5_hour_59 rfl ?_
      refine zj1 27 641 86 (fun (h_71 : zH) => [(0, .ref a0), (1, .int x1), (2, .ref nx), (3, .ref r5), (4, .int x4_6), (5, .int x5_68)]) (fun (h_71 : zH) => []) (fun (h_71 : zH) => h_71) (fun (h_71 : zH) => ((nx + 1 + 25) + 1)) hM (fun h_71 hM => ?_) (fun J71 iJ71 hM => ?_)
      · refine z_iinc (k := 5) (v := (x5_68 + (1 : Int32))) (lv' := [(5, .int (x5_68 + (1 : Int32))), (0, .ref a0), (1, .int x1), (2, .ref nx), (3, .ref r5), (4, .int x4_6)]) (pc := 86) C dX5_hour_86 rfl (by first | rfl | decide) (by decide) rfl ?_
        refine z_goto (pc := 89) (tgt := 40) C dX5_hour_89 (by decide) ?_
        exact z_sub [1, 2, 3, 4, 5, 0] rfl (irec68 (x5_68 + (1 : Int32)) h_71 hM)
      refine z_if_ge (pc := 61) (tgt := 78) C dX5_hour_61 (by decide) hM (fun hc77 hM => ?_) (fun hc77 hM => ?_)
      · refine z_aload_n (k := 4) (pc := 78) C dX5_hour_78 rfl ?_
        refine z_iload (k := 0) (pc := 79) C dX5_hour_79 rfl ?_
        refine z_dup2 (pc := 81) C dX5_hour_81 rfl rfl ?_
        obtain ⟨r72, g72, hM⟩ := Option.bind_eq_some_iff.mp hM
        refine z_iald (pc := 82) C g72 dX5_hour_82 ?_
        refine z_iload_n (k := 2) (pc := 83) C dX5_hour_83 rfl ?_
        refine z_iadd (pc := 84) C dX5_hour_84 ?_
        obtain ⟨h_73, g73, hM⟩ := Option.bind_eq_some_iff.mp hM
        refine z_iast (pc := 85) C g73 dX5_hour_85 ?_
        exact z_sub [1, 2, 3, 4, 5, 6] rfl (iJ71 h_73 hM)
      · refine z_aload_n (k := 3) (pc := 64) C dX5_hour_64 rfl ?_
        refine z_iload (k := 5) (pc := 65) C dX5_hour_65 rfl ?_
        obtain ⟨r74, g74, hM⟩ := Option.bind_eq_some_iff.mp hM
        refine z_aaldD (pc := 67) C g74 dX5_hour_67 ?_
        refine z_iload (k := 6) (pc := 68) C dX5_hour_68 rfl ?_
        refine z_dup2 (pc := 70) C dX5_hour_70 rfl rfl ?_
        obtain ⟨r75, g75, hM⟩ := Option.bind_eq_some_iff.mp hM
        refine z_iald (pc := 71) C g75 dX5_hour_71 ?_
        refine z_iload_n (k := 2) (pc := 72) C dX5_hour_72 rfl ?_
        refine z_iadd (pc := 73) C dX5_hour_73 ?_
        obtain ⟨h_76, g76, hM⟩ := Option.bind_eq_some_iff.mp hM
        refine z_iast (pc := 74) C g76 dX5_hour_74 ?_
        refine z_goto (pc := 75) (tgt := 86) C dX5_hour_75 (by decide) ?_
        exact z_sub [1, 2, 3, 4, 5, 6] rfl (iJ71 h_76 hM)
set_option maxHeartbeats 4000000 in
set_option maxRecDepth 100000 in
theorem c_X5_rain (l : Launch) (hl : l.stackTraces = false) (G : zG) (lo t0 : Nat) (h : zH) (nx : Nat) (a0 : Nat) (x1 : Int32) (o : Int32 × zH × Nat) (hM : M_X5_rain h nx a0 x1 = some o) : z_Met l yX5_rain cX5_rain 8 (some .int) 3 82 G lo t0 [.ref a0, .int x1] h nx (.inr (some (.int o.1), o.2.1, o.2.2)) 27 641 := by
  refine z_of [(0, .ref a0), (1, .int x1)] (by decide) (Nat.le_of_ble_eq_true rfl) rfl (fun p e s m below meth c C hin => ?_)
  unfold M_X5_rain at hM
  refine z_aload_n (k := 0) (pc := 0) C dX5_rain_0 rfl ?_
  refine z_iload_n (k := 1) (pc := 1) C dX5_rain_1 rfl ?_
  obtain ⟨_, g1, hM⟩ := Option.bind_eq_some_iff.mp hM
  obtain ⟨r2, g2, hM⟩ := Option.bind_eq_some_iff.mp hM
  refine z_goN (kc := 27) (ks := 641) ([.ref r2.1]) (z_callV (pc := 2) (As := [.int x1]) (rest := []) (n := 1) (ci := 6) C (c_X5_hour l hl G lo t0 h nx a0 x1 r2 g2) g1 rfl q_395 q_396 q_397 q_71 q_398 ⟨rfl, by decide +kernel, by decide +kernel, by decide +kernel⟩ ⟨Nat.le_of_ble_eq_true rfl, Nat.le_of_ble_eq_true rfl⟩ rfl (Nat.le_of_ble_eq_true rfl) dX5_rain_2 ⟨(Nat.le_of_ble_eq_true rfl), (Nat.le_of_ble_eq_true rfl)⟩) rfl (Nat.le_of_ble_eq_true rfl) (Nat.le_of_ble_eq_true rfl) ?_
  refine z_astore_n (lv' := [(2, .ref r2.1), (0, .ref a0), (1, .int x1)]) (pc := 5) C dX5_rain_5 (by decide) rfl ?_
  refine z_iconst (v := (0 : Int32)) (pc := 6) C dX5_rain_6 (by decide) ?_
  refine z_istore_n (lv' := [(3, .int (0 : Int32)), (2, .ref r2.1), (0, .ref a0), (1, .int x1)]) (pc := 7) C dX5_rain_7 (by decide) rfl ?_
  refine z_iconst (v := (0 : Int32)) (pc := 8) C dX5_rain_8 (by decide) ?_
  refine z_istore (lv' := [(4, .int (0 : Int32)), (3, .int (0 : Int32)), (2, .ref r2.1), (0, .ref a0), (1, .int x1)]) (pc := 9) C dX5_rain_9 (by decide) rfl ?_
  refine z_sub [3, 2, 1, 0] rfl (zl3 (fun (x3_3 : Int32) (x4_3 : Int32) (h_3 : zH) => [(0, .ref a0), (2, .ref r2.1), (3, .int x3_3), (4, .int x4_3)]) (fun (x3_3 : Int32) (x4_3 : Int32) (h_3 : zH) => h_3) (fun (x3_3 : Int32) (x4_3 : Int32) (h_3 : zH) => r2.2.2) hM (fun rec3 irec3 x3_3 x4_3 h_3 hM => ?_))
  refine z_iload (k := 3) (pc := 11) C dX5_rain_11 rfl ?_
  refine z_bipush (v := (24 : Int32)) (pc := 13) C dX5_rain_13 (by decide) ?_
  refine z_icmp_ge (pc := 15) (tgt := 70) C dX5_rain_15 (by decide) hM (fun hc43 hM => ?_) (fun hc43 hM => ?_)
  · refine z_iconst (v := (0 : Int32)) (pc := 70) C dX5_rain_70 (by decide) ?_
    refine z_istore (lv' := [(4, .int (0 : Int32)), (0, .ref a0), (2, .ref r2.1), (3, .int x3_3)]) (pc := 71) C dX5_rain_71 (by decide) rfl ?_
    refine z_sub [1, 2, 3, 0] rfl (zl2 (fun (x4_4 : Int32) (h_4 : zH) => [(0, .ref a0), (2, .ref r2.1), (3, .int x3_3), (4, .int x4_4)]) (fun (x4_4 : Int32) (h_4 : zH) => h_4) (fun (x4_4 : Int32) (h_4 : zH) => r2.2.2) hM (fun rec4 irec4 x4_4 h_4 hM => ?_))
    refine z_iload (k := 3) (pc := 73) C dX5_rain_73 rfl ?_
    refine z_aload_n (k := 0) (pc := 75) C dX5_rain_75 rfl ?_
    obtain ⟨r5, g5, hM⟩ := Option.bind_eq_some_iff.mp hM
    refine z_getR (pc := 76) (k := 0) C g5 rfl inlX5 (by decide) q_76 (fun _ h9 => h9) dX5_rain_76 ?_
    obtain ⟨r6, g6, hM⟩ := Option.bind_eq_some_iff.mp hM
    refine z_alen (pc := 79) C g6 dX5_rain_79 ?_
    refine z_icmp_ge (pc := 80) (tgt := 109) C dX5_rain_80 (by decide) hM (fun hc32 hM => ?_) (fun hc32 hM => ?_)
    · refine z_aload_n (k := 0) (pc := 109) C dX5_rain_109 rfl ?_
      obtain ⟨r7, g7, hM⟩ := Option.bind_eq_some_iff.mp hM
      refine z_getR (pc := 110) (k := 1) C g7 rfl inlX5 (by decide) q_77 (fun _ h9 => h9) dX5_rain_110 ?_
      refine z_astore (lv' := [(4, .ref r7), (0, .ref a0), (2, .ref r2.1), (3, .int x3_3)]) (pc := 113) C dX5_rain_113 (by decide) rfl ?_
      refine z_aload (k := 0) (pc := 115) C dX5_rain_115 rfl ?_
      obtain ⟨r8, g8, hM⟩ := Option.bind_eq_some_iff.mp hM
      refine z_alen (pc := 117) C g8 dX5_rain_117 ?_
      refine z_istore (lv' := [(5, .int r8), (4, .ref r7), (0, .ref a0), (2, .ref r2.1), (3, .int x3_3)]) (pc := 118) C dX5_rain_118 (by decide) rfl ?_
      refine z_iconst (v := (0 : Int32)) (pc := 120) C dX5_rain_120 (by decide) ?_
      refine z_istore (lv' := [(6, .int (0 : Int32)), (5, .int r8), (4, .ref r7), (0, .ref a0), (2, .ref r2.1), (3, .int x3_3)]) (pc := 121) C dX5_rain_121 (by decide) rfl ?_
      refine z_sub [3, 4, 5, 2, 1, 0] rfl (zl2 (fun (x6_9 : Int32) (h_9 : zH) => [(0, .ref a0), (2, .ref r2.1), (3, .int x3_3), (4, .ref r7), (5, .int r8), (6, .int x6_9)]) (fun (x6_9 : Int32) (h_9 : zH) => h_9) (fun (x6_9 : Int32) (h_9 : zH) => r2.2.2) hM (fun rec9 irec9 x6_9 h_9 hM => ?_))
      refine z_iload (k := 5) (pc := 123) C dX5_rain_123 rfl ?_
      refine z_iload (k := 4) (pc := 125) C dX5_rain_125 rfl ?_
      refine z_icmp_ge (pc := 127) (tgt := 161) C dX5_rain_127 (by decide) hM (fun hc25 hM => ?_) (fun hc25 hM => ?_)
      · refine z_aload_n (k := 0) (pc := 161) C dX5_rain_161 rfl ?_
        refine z_dup (pc := 162) C dX5_rain_162 rfl ?_
        obtain ⟨r10, g10, hM⟩ := Option.bind_eq_some_iff.mp hM
        refine z_getI (pc := 163) (k := 4) C g10 rfl inlX5 (by decide) q_393 (fun _ h9 => h9) dX5_rain_163 ?_
        refine z_aload_n (k := 1) (pc := 166) C dX5_rain_166 rfl ?_
        refine z_bipush (v := (24 : Int32)) (pc := 167) C dX5_rain_167 (by decide) ?_
        obtain ⟨r11, g11, hM⟩ := Option.bind_eq_some_iff.mp hM
        refine z_aaldD (pc := 169) C g11 dX5_rain_169 ?_
        refine z_aload_n (k := 0) (pc := 170) C dX5_rain_170 rfl ?_
        obtain ⟨r12, g12, hM⟩ := Option.bind_eq_some_iff.mp hM
        refine z_getR (pc := 171) (k := 0) C g12 rfl inlX5 (by decide) q_76 (fun _ h9 => h9) dX5_rain_171 ?_
        obtain ⟨r13, g13, hM⟩ := Option.bind_eq_some_iff.mp hM
        refine z_alen (pc := 174) C g13 dX5_rain_174 ?_
        obtain ⟨r14, g14, hM⟩ := Option.bind_eq_some_iff.mp hM
        refine z_iald (pc := 175) C g14 dX5_rain_175 ?_
        refine z_iadd (pc := 176) C dX5_rain_176 ?_
        obtain ⟨h_15, g15, hM⟩ := Option.bind_eq_some_iff.mp hM
        refine z_put (pc := 177) (k := 4) C g15 rfl inlX5 tyX5 tyX5_ok nmX5 (by decide) q_393 (fun _ h9 => h9) rfl (tyX5_ok 4 (by decide)) rfl rfl dX5_rain_177 ?_
        refine z_aload_n (k := 0) (pc := 180) C dX5_rain_180 rfl ?_
        refine z_dup (pc := 181) C dX5_rain_181 rfl ?_
        obtain ⟨r16, g16, hM⟩ := Option.bind_eq_some_iff.mp hM
        refine z_getI (pc := 182) (k := 3) C g16 rfl inlX5 (by decide) q_394 (fun _ h9 => h9) dX5_rain_182 ?_
        refine z_iconst (v := (1 : Int32)) (pc := 185) C dX5_rain_185 (by decide) ?_
        refine z_iadd (pc := 186) C dX5_rain_186 ?_
        obtain ⟨h_17, g17, hM⟩ := Option.bind_eq_some_iff.mp hM
        refine z_put (pc := 187) (k := 3) C g17 rfl inlX5 tyX5 tyX5_ok nmX5 (by decide) q_394 (fun _ h9 => h9) rfl (tyX5_ok 3 (by decide)) rfl rfl dX5_rain_187 ?_
        refine z_iload_n (k := 2) (pc := 190) C dX5_rain_190 rfl ?_
        cases hM
        exact z_iret (pc := 191) C rfl (Nat.le_of_ble_eq_true rfl) (Nat.le_of_ble_eq_true rfl) dX5_rain_191
      · refine z_aload (k := 3) (pc := 130) C dX5_rain_130 rfl ?_
        refine z_iload (k := 5) (pc := 132) C dX5_rain_132 rfl ?_
        obtain ⟨r18, g18, hM⟩ := Option.bind_eq_some_iff.mp hM
        refine z_aaldD (pc := 134) C g18 dX5_rain_134 ?_
        refine z_astore (lv' := [(7, .ref r18), (0, .ref a0), (2, .ref r2.1), (3, .int x3_3), (4, .ref r7), (5, .int r8), (6, .int x6_9)]) (pc := 135) C dX5_rain_135 (by decide) rfl ?_
        refine z_aload (k := 0) (pc := 137) C dX5_rain_137 rfl ?_
        refine z_iconst (v := (2 : Int32)) (pc := 139) C dX5_rain_139 (by decide) ?_
        refine z_dup2 (pc := 140) C dX5_rain_140 rfl rfl ?_
        obtain ⟨r19, g19, hM⟩ := Option.bind_eq_some_iff.mp hM
        refine z_iald (pc := 141) C g19 dX5_rain_141 ?_
        refine z_aload_n (k := 2) (pc := 142) C dX5_rain_142 rfl ?_
        refine z_aload (k := 0) (pc := 143) C dX5_rain_143 rfl ?_
        refine z_iconst (v := (0 : Int32)) (pc := 145) C dX5_rain_145 (by decide) ?_
        obtain ⟨r20, g20, hM⟩ := Option.bind_eq_some_iff.mp hM
        refine z_iald (pc := 146) C g20 dX5_rain_146 ?_
        obtain ⟨r21, g21, hM⟩ := Option.bind_eq_some_iff.mp hM
        refine z_aaldD (pc := 147) C g21 dX5_rain_147 ?_
        refine z_aload (k := 0) (pc := 148) C dX5_rain_148 rfl ?_
        refine z_iconst (v := (1 : Int32)) (pc := 150) C dX5_rain_150 (by decide) ?_
        obtain ⟨r22, g22, hM⟩ := Option.bind_eq_some_iff.mp hM
        refine z_iald (pc := 151) C g22 dX5_rain_151 ?_
        obtain ⟨r23, g23, hM⟩ := Option.bind_eq_some_iff.mp hM
        refine z_iald (pc := 152) C g23 dX5_rain_152 ?_
        refine z_iadd (pc := 153) C dX5_rain_153 ?_
        obtain ⟨h_24, g24, hM⟩ := Option.bind_eq_some_iff.mp hM
        refine z_iast (pc := 154) C g24 dX5_rain_154 ?_
        refine z_iinc (k := 6) (v := (x6_9 + (1 : Int32))) (lv' := [(6, .int (x6_9 + (1 : Int32))), (7, .ref r18), (0, .ref a0), (2, .ref r2.1), (3, .int x3_3), (4, .ref r7), (5, .int r8)]) (pc := 155) C dX5_rain_155 rfl (by first | rfl | decide) (by decide) rfl ?_
        refine z_goto (pc := 158) (tgt := 123) C dX5_rain_158 (by decide) ?_
        exact z_sub [2, 3, 4, 5, 6, 0] rfl (irec9 (x6_9 + (1 : Int32)) h_24 hM)
    · refine z_aload_n (k := 0) (pc := 83) C dX5_rain_83 rfl ?_
      obtain ⟨r26, g26, hM⟩ := Option.bind_eq_some_iff.mp hM
      refine z_getR (pc := 84) (k := 0) C g26 rfl inlX5 (by decide) q_76 (fun _ h9 => h9) dX5_rain_84 ?_
      refine z_iload (k := 3) (pc := 87) C dX5_rain_87 rfl ?_
      obtain ⟨r27, g27, hM⟩ := Option.bind_eq_some_iff.mp hM
      refine z_aaldD (pc := 89) C g27 dX5_rain_89 ?_
      refine z_bipush (v := (7 : Int32)) (pc := 90) C dX5_rain_90 (by decide) ?_
      refine z_dup2 (pc := 92) C dX5_rain_92 rfl rfl ?_
      obtain ⟨r28, g28, hM⟩ := Option.bind_eq_some_iff.mp hM
      refine z_iald (pc := 93) C g28 dX5_rain_93 ?_
      refine z_aload_n (k := 1) (pc := 94) C dX5_rain_94 rfl ?_
      refine z_bipush (v := (24 : Int32)) (pc := 95) C dX5_rain_95 (by decide) ?_
      obtain ⟨r29, g29, hM⟩ := Option.bind_eq_some_iff.mp hM
      refine z_aaldD (pc := 97) C g29 dX5_rain_97 ?_
      refine z_iload (k := 3) (pc := 98) C dX5_rain_98 rfl ?_
      obtain ⟨r30, g30, hM⟩ := Option.bind_eq_some_iff.mp hM
      refine z_iald (pc := 100) C g30 dX5_rain_100 ?_
      refine z_iadd (pc := 101) C dX5_rain_101 ?_
      obtain ⟨h_31, g31, hM⟩ := Option.bind_eq_some_iff.mp hM
      refine z_iast (pc := 102) C g31 dX5_rain_102 ?_
      refine z_iinc (k := 3) (v := (x4_4 + (1 : Int32))) (lv' := [(4, .int (x4_4 + (1 : Int32))), (0, .ref a0), (2, .ref r2.1), (3, .int x3_3)]) (pc := 103) C dX5_rain_103 rfl (by first | rfl | decide) (by decide) rfl ?_
      refine z_goto (pc := 106) (tgt := 73) C dX5_rain_106 (by decide) ?_
      exact z_sub [1, 2, 3, 0] rfl (irec4 (x4_4 + (1 : Int32)) h_31 hM)
  · refine z_iconst (v := (0 : Int32)) (pc := 18) C dX5_rain_18 (by decide) ?_
    refine z_istore (lv' := [(5, .int (0 : Int32)), (0, .ref a0), (2, .ref r2.1), (3, .int x3_3), (4, .int x4_3)]) (pc := 19) C dX5_rain_19 (by decide) rfl ?_
    refine z_sub [1, 2, 3, 4, 0] rfl (zl3 (fun (x3_33 : Int32) (x5_33 : Int32) (h_33 : zH) => [(0, .ref a0), (2, .ref r2.1), (3, .int x3_33), (4, .int x4_3), (5, .int x5_33)]) (fun (x3_33 : Int32) (x5_33 : Int32) (h_33 : zH) => h_33) (fun (x3_33 : Int32) (x5_33 : Int32) (h_33 : zH) => r2.2.2) hM (fun rec33 irec33 x3_33 x5_33 h_33 hM => ?_))
    refine z_iload (k := 4) (pc := 21) C dX5_rain_21 rfl ?_
    refine z_bipush (v := (24 : Int32)) (pc := 23) C dX5_rain_23 (by decide) ?_
    refine z_icmp_ge (pc := 25) (tgt := 64) C dX5_rain_25 (by decide) hM (fun hc42 hM => ?_) (fun hc42 hM => ?_)
    · refine z_iinc (k := 3) (v := (x4_3 + (1 : Int32))) (lv' := [(4, .int (x4_3 + (1 : Int32))), (0, .ref a0), (2, .ref r2.1), (3, .int x3_33), (5, .int x5_33)]) (pc := 64) C dX5_rain_64 rfl (by first | rfl | decide) (by decide) rfl ?_
      refine z_goto (pc := 67) (tgt := 11) C dX5_rain_67 (by decide) ?_
      exact z_sub [1, 2, 3, 0] rfl (irec3 x3_33 (x4_3 + (1 : Int32)) h_33 hM)
    · refine z_aload_n (k := 0) (pc := 28) C dX5_rain_28 rfl ?_
      obtain ⟨r34, g34, hM⟩ := Option.bind_eq_some_iff.mp hM
      refine z_getR (pc := 29) (k := 2) C g34 rfl inlX5 (by decide) q_79 (fun _ h9 => h9) dX5_rain_29 ?_
      refine z_iload (k := 3) (pc := 32) C dX5_rain_32 rfl ?_
      obtain ⟨r35, g35, hM⟩ := Option.bind_eq_some_iff.mp hM
      refine z_aaldD (pc := 34) C g35 dX5_rain_34 ?_
      refine z_iload (k := 4) (pc := 35) C dX5_rain_35 rfl ?_
      refine z_dup2 (pc := 37) C dX5_rain_37 rfl rfl ?_
      obtain ⟨r36, g36, hM⟩ := Option.bind_eq_some_iff.mp hM
      refine z_iald (pc := 38) C g36 dX5_rain_38 ?_
      refine z_aload_n (k := 1) (pc := 39) C dX5_rain_39 rfl ?_
      refine z_iload (k := 3) (pc := 40) C dX5_rain_40 rfl ?_
      obtain ⟨r37, g37, hM⟩ := Option.bind_eq_some_iff.mp hM
      refine z_aaldD (pc := 42) C g37 dX5_rain_42 ?_
      refine z_iload (k := 4) (pc := 43) C dX5_rain_43 rfl ?_
      obtain ⟨r38, g38, hM⟩ := Option.bind_eq_some_iff.mp hM
      refine z_iald (pc := 45) C g38 dX5_rain_45 ?_
      refine z_iadd (pc := 46) C dX5_rain_46 ?_
      obtain ⟨h_39, g39, hM⟩ := Option.bind_eq_some_iff.mp hM
      refine z_iast (pc := 47) C g39 dX5_rain_47 ?_
      refine z_iload_n (k := 2) (pc := 48) C dX5_rain_48 rfl ?_
      refine z_aload_n (k := 1) (pc := 49) C dX5_rain_49 rfl ?_
      refine z_iload (k := 3) (pc := 50) C dX5_rain_50 rfl ?_
      obtain ⟨r40, g40, hM⟩ := Option.bind_eq_some_iff.mp hM
      refine z_aaldD (pc := 52) C g40 dX5_rain_52 ?_
      refine z_iload (k := 4) (pc := 53) C dX5_rain_53 rfl ?_
      obtain ⟨r41, g41, hM⟩ := Option.bind_eq_some_iff.mp hM
      refine z_iald (pc := 55) C g41 dX5_rain_55 ?_
      refine z_iadd (pc := 56) C dX5_rain_56 ?_
      refine z_istore_n (lv' := [(3, .int (x3_33 + r41)), (0, .ref a0), (2, .ref r2.1), (4, .int x4_3), (5, .int x5_33)]) (pc := 57) C dX5_rain_57 (by decide) rfl ?_
      refine z_iinc (k := 4) (v := (x5_33 + (1 : Int32))) (lv' := [(5, .int (x5_33 + (1 : Int32))), (3, .int (x3_33 + r41)), (0, .ref a0), (2, .ref r2.1), (4, .int x4_3)]) (pc := 58) C dX5_rain_58 rfl (by first | rfl | decide) (by decide) rfl ?_
      refine z_goto (pc := 61) (tgt := 21) C dX5_rain_61 (by decide) ?_
      exact z_sub [2, 3, 1, 4, 0] rfl (irec33 (x3_33 + r41) (x5_33 + (1 : Int32)) h_39 hM)
set_option maxHeartbeats 4000000 in
set_option maxRecDepth 100000 in
theorem c_X5_own (l : Launch) (hl : l.stackTraces = false) (G : zG) (lo t0 : Nat) (h : zH) (nx : Nat) (a0 : Nat) (x1 : Int32) (o : Int32) (hM : M_X5_own h a0 x1 = some o) : z_Met l yX5_own cX5_own 5 (some .int) 2 48 G lo t0 [.ref a0, .int x1] h nx (.inr (some (.int o), h, nx)) 0 0 := by
  refine z_of [(0, .ref a0), (1, .int x1)] (by decide) (Nat.le_of_ble_eq_true rfl) rfl (fun p e s m below meth c C hin => ?_)
  unfold M_X5_own at hM
  refine z_iconst (v := (0 : Int32)) (pc := 0) C dX5_own_0 (by decide) ?_
  refine z_istore_n (lv' := [(2, .int (0 : Int32)), (0, .ref a0), (1, .int x1)]) (pc := 1) C dX5_own_1 (by decide) rfl ?_
  refine z_iconst (v := (0 : Int32)) (pc := 2) C dX5_own_2 (by decide) ?_
  refine z_istore_n (lv' := [(3, .int (0 : Int32)), (2, .int (0 : Int32)), (0, .ref a0), (1, .int x1)]) (pc := 3) C dX5_own_3 (by decide) rfl ?_
  refine z_sub [2, 3, 1, 0] rfl (zl2 (fun (x2_1 : Int32) (x3_1 : Int32) => [(0, .ref a0), (1, .int x1), (2, .int x2_1), (3, .int x3_1)]) (fun (x2_1 : Int32) (x3_1 : Int32) => h) (fun (x2_1 : Int32) (x3_1 : Int32) => nx) hM (fun rec1 irec1 x2_1 x3_1 hM => ?_))
  refine z_iload_n (k := 3) (pc := 4) C dX5_own_4 rfl ?_
  refine z_bipush (v := (24 : Int32)) (pc := 5) C dX5_own_5 (by decide) ?_
  refine z_icmp_ge (pc := 7) (tgt := 62) C dX5_own_7 (by decide) hM (fun hc11 hM => ?_) (fun hc11 hM => ?_)
  · refine z_iload_n (k := 2) (pc := 62) C dX5_own_62 rfl ?_
    cases hM
    exact z_iret (pc := 63) C rfl (Nat.zero_le _) (Nat.zero_le _) dX5_own_63
  · refine z_iconst (v := (0 : Int32)) (pc := 10) C dX5_own_10 (by decide) ?_
    refine z_istore (lv' := [(4, .int (0 : Int32)), (0, .ref a0), (1, .int x1), (2, .int x2_1), (3, .int x3_1)]) (pc := 11) C dX5_own_11 (by decide) rfl ?_
    refine z_sub [1, 2, 3, 4, 0] rfl (zl2 (fun (x2_2 : Int32) (x4_2 : Int32) => [(0, .ref a0), (1, .int x1), (2, .int x2_2), (3, .int x3_1), (4, .int x4_2)]) (fun (x2_2 : Int32) (x4_2 : Int32) => h) (fun (x2_2 : Int32) (x4_2 : Int32) => nx) hM (fun rec2 irec2 x2_2 x4_2 hM => ?_))
    refine z_iload (k := 4) (pc := 13) C dX5_own_13 rfl ?_
    refine z_bipush (v := (24 : Int32)) (pc := 15) C dX5_own_15 (by decide) ?_
    refine z_icmp_ge (pc := 17) (tgt := 56) C dX5_own_17 (by decide) hM (fun hc10 hM => ?_) (fun hc10 hM => ?_)
    · refine z_iinc (k := 3) (v := (x3_1 + (1 : Int32))) (lv' := [(3, .int (x3_1 + (1 : Int32))), (0, .ref a0), (1, .int x1), (2, .int x2_2), (4, .int x4_2)]) (pc := 56) C dX5_own_56 rfl (by first | rfl | decide) (by decide) rfl ?_
      refine z_goto (pc := 59) (tgt := 4) C dX5_own_59 (by decide) ?_
      exact z_sub [1, 2, 3, 0] rfl (irec1 x2_2 (x3_1 + (1 : Int32)) hM)
    · refine z_iload_n (k := 2) (pc := 20) C dX5_own_20 rfl ?_
      refine z_aload_n (k := 0) (pc := 21) C dX5_own_21 rfl ?_
      refine z_iload_n (k := 1) (pc := 22) C dX5_own_22 rfl ?_
      refine z_iload_n (k := 3) (pc := 23) C dX5_own_23 rfl ?_
      refine z_iload (k := 4) (pc := 24) C dX5_own_24 rfl ?_
      obtain ⟨_, g3, hM⟩ := Option.bind_eq_some_iff.mp hM
      obtain ⟨r4, g4, hM⟩ := Option.bind_eq_some_iff.mp hM
      refine z_goN (kc := 0) (ks := 0) ([.int r4, .int x2_2]) (z_callV (pc := 26) (As := [.int x1, .int x3_1, .int x4_2]) (rest := [.int x2_2]) (n := 3) (ci := 6) C (c_X5_lies l hl G lo t0 h nx a0 x1 x3_1 x4_2 r4 g4) g3 rfl q_264 q_265 q_266 q_71 q_267 ⟨rfl, by decide +kernel, by decide +kernel, by decide +kernel⟩ ⟨Nat.le_of_ble_eq_true rfl, Nat.le_of_ble_eq_true rfl⟩ rfl (Nat.le_of_ble_eq_true rfl) dX5_own_26 ⟨(Nat.zero_le _), (Nat.zero_le _)⟩) rfl (Nat.le_of_ble_eq_true rfl) (Nat.le_of_ble_eq_true rfl) ?_
      refine zj2 0 0 48 (fun (s0_5 : Int32) (s1_5 : Int32) => [(0, .ref a0), (1, .int x1), (3, .int x3_1), (4, .int x4_2)]) (fun (s0_5 : Int32) (s1_5 : Int32) => [.int s1_5, .int s0_5]) (fun (s0_5 : Int32) (s1_5 : Int32) => h) (fun (s0_5 : Int32) (s1_5 : Int32) => nx) hM (fun s0_5 s1_5 hM => ?_) (fun J5 iJ5 hM => ?_)
      · refine z_iadd (pc := 48) C dX5_own_48 ?_
        refine z_istore_n (lv' := [(2, .int (s0_5 + s1_5)), (0, .ref a0), (1, .int x1), (3, .int x3_1), (4, .int x4_2)]) (pc := 49) C dX5_own_49 (by decide) rfl ?_
        refine z_iinc (k := 4) (v := (x4_2 + (1 : Int32))) (lv' := [(4, .int (x4_2 + (1 : Int32))), (2, .int (s0_5 + s1_5)), (0, .ref a0), (1, .int x1), (3, .int x3_1)]) (pc := 50) C dX5_own_50 rfl (by first | rfl | decide) (by decide) rfl ?_
        refine z_goto (pc := 53) (tgt := 13) C dX5_own_53 (by decide) ?_
        exact z_sub [2, 3, 1, 4, 0] rfl (irec2 (s0_5 + s1_5) (x4_2 + (1 : Int32)) hM)
      refine zj1 0 0 47 (fun (s0_6 : Int32) => [(0, .ref a0), (1, .int x1), (3, .int x3_1), (4, .int x4_2)]) (fun (s0_6 : Int32) => [.int s0_6]) (fun (s0_6 : Int32) => h) (fun (s0_6 : Int32) => nx) hM (fun s0_6 hM => ?_) (fun J6 iJ6 hM => ?_)
      · refine z_iconst (v := (0 : Int32)) (pc := 47) C dX5_own_47 (by decide) ?_
        exact z_sub [0, 1, 2, 3] rfl (iJ5 s0_6 (0 : Int32) hM)
      refine z_if_eq (pc := 29) (tgt := 47) C dX5_own_29 (by decide) hM (fun hc9 hM => ?_) (fun hc9 hM => ?_)
      · exact z_sub [0, 1, 3, 4] rfl (iJ6 x2_2 hM)
      · refine z_aload_n (k := 0) (pc := 32) C dX5_own_32 rfl ?_
        refine z_iload_n (k := 3) (pc := 33) C dX5_own_33 rfl ?_
        refine z_iload (k := 4) (pc := 34) C dX5_own_34 rfl ?_
        obtain ⟨r7, g7, hM⟩ := Option.bind_eq_some_iff.mp hM
        refine z_goN (kc := 0) (ks := 0) ([.int r7, .int x2_2]) (z_callV (pc := 36) (As := [.int x3_1, .int x4_2]) (rest := [.int x2_2]) (n := 2) (ci := 6) C (c_X5_lying l hl G lo t0 h nx a0 x3_1 x4_2 r7 g7) g3 rfl q_260 q_261 q_262 q_71 q_263 ⟨rfl, by decide +kernel, by decide +kernel, by decide +kernel⟩ ⟨Nat.le_of_ble_eq_true rfl, Nat.le_of_ble_eq_true rfl⟩ rfl (Nat.le_of_ble_eq_true rfl) dX5_own_36 ⟨(Nat.zero_le _), (Nat.zero_le _)⟩) rfl (Nat.le_of_ble_eq_true rfl) (Nat.le_of_ble_eq_true rfl) ?_
        refine z_iconst (v := (1 : Int32)) (pc := 39) C dX5_own_39 (by decide) ?_
        refine z_icmp_ne (pc := 40) (tgt := 47) C dX5_own_40 (by decide) hM (fun hc8 hM => ?_) (fun hc8 hM => ?_)
        · refine z_iconst (v := (1 : Int32)) (pc := 43) C dX5_own_43 (by decide) ?_
          refine z_goto (pc := 44) (tgt := 48) C dX5_own_44 (by decide) ?_
          exact z_sub [0, 1, 3, 4] rfl (iJ5 x2_2 (1 : Int32) hM)
        · exact z_sub [0, 1, 3, 4] rfl (iJ6 x2_2 hM)
set_option maxHeartbeats 4000000 in
set_option maxRecDepth 100000 in
theorem c_X5_covered (l : Launch) (hl : l.stackTraces = false) (G : zG) (lo t0 : Nat) (h : zH) (nx : Nat) (a0 : Nat) (o : Int32) (hM : M_X5_covered h a0 = some o) : z_Met l yX5_covered cX5_covered 4 (some .int) 3 70 G lo t0 [.ref a0] h nx (.inr (some (.int o), h, nx)) 0 0 := by
  refine z_of [(0, .ref a0)] (by decide) (Nat.le_of_ble_eq_true rfl) rfl (fun p e s m below meth c C hin => ?_)
  unfold M_X5_covered at hM
  refine z_iconst (v := (0 : Int32)) (pc := 0) C dX5_covered_0 (by decide) ?_
  refine z_istore_n (lv' := [(1, .int (0 : Int32)), (0, .ref a0)]) (pc := 1) C dX5_covered_1 (by decide) rfl ?_
  refine z_iconst (v := (0 : Int32)) (pc := 2) C dX5_covered_2 (by decide) ?_
  refine z_istore_n (lv' := [(2, .int (0 : Int32)), (1, .int (0 : Int32)), (0, .ref a0)]) (pc := 3) C dX5_covered_3 (by decide) rfl ?_
  refine z_sub [2, 1, 0] rfl (zl2 (fun (x1_1 : Int32) (x2_1 : Int32) => [(0, .ref a0), (1, .int x1_1), (2, .int x2_1)]) (fun (x1_1 : Int32) (x2_1 : Int32) => h) (fun (x1_1 : Int32) (x2_1 : Int32) => nx) hM (fun rec1 irec1 x1_1 x2_1 hM => ?_))
  refine z_iload_n (k := 2) (pc := 4) C dX5_covered_4 rfl ?_
  refine z_bipush (v := (24 : Int32)) (pc := 5) C dX5_covered_5 (by decide) ?_
  refine z_icmp_ge (pc := 7) (tgt := 47) C dX5_covered_7 (by decide) hM (fun hc8 hM => ?_) (fun hc8 hM => ?_)
  · refine z_iload_n (k := 1) (pc := 47) C dX5_covered_47 rfl ?_
    cases hM
    exact z_iret (pc := 48) C rfl (Nat.zero_le _) (Nat.zero_le _) dX5_covered_48
  · refine z_iconst (v := (0 : Int32)) (pc := 10) C dX5_covered_10 (by decide) ?_
    refine z_istore_n (lv' := [(3, .int (0 : Int32)), (0, .ref a0), (1, .int x1_1), (2, .int x2_1)]) (pc := 11) C dX5_covered_11 (by decide) rfl ?_
    refine z_sub [1, 2, 3, 0] rfl (zl2 (fun (x1_2 : Int32) (x3_2 : Int32) => [(0, .ref a0), (1, .int x1_2), (2, .int x2_1), (3, .int x3_2)]) (fun (x1_2 : Int32) (x3_2 : Int32) => h) (fun (x1_2 : Int32) (x3_2 : Int32) => nx) hM (fun rec2 irec2 x1_2 x3_2 hM => ?_))
    refine z_iload_n (k := 3) (pc := 12) C dX5_covered_12 rfl ?_
    refine z_bipush (v := (24 : Int32)) (pc := 13) C dX5_covered_13 (by decide) ?_
    refine z_icmp_ge (pc := 15) (tgt := 41) C dX5_covered_15 (by decide) hM (fun hc7 hM => ?_) (fun hc7 hM => ?_)
    · refine z_iinc (k := 2) (v := (x2_1 + (1 : Int32))) (lv' := [(2, .int (x2_1 + (1 : Int32))), (0, .ref a0), (1, .int x1_2), (3, .int x3_2)]) (pc := 41) C dX5_covered_41 rfl (by first | rfl | decide) (by decide) rfl ?_
      refine z_goto (pc := 44) (tgt := 4) C dX5_covered_44 (by decide) ?_
      exact z_sub [1, 2, 0] rfl (irec1 x1_2 (x2_1 + (1 : Int32)) hM)
    · refine z_iload_n (k := 1) (pc := 18) C dX5_covered_18 rfl ?_
      refine z_aload_n (k := 0) (pc := 19) C dX5_covered_19 rfl ?_
      refine z_iload_n (k := 2) (pc := 20) C dX5_covered_20 rfl ?_
      refine z_iload_n (k := 3) (pc := 21) C dX5_covered_21 rfl ?_
      obtain ⟨_, g3, hM⟩ := Option.bind_eq_some_iff.mp hM
      obtain ⟨r4, g4, hM⟩ := Option.bind_eq_some_iff.mp hM
      refine z_goN (kc := 0) (ks := 0) ([.int r4, .int x1_2]) (z_callV (pc := 22) (As := [.int x2_1, .int x3_2]) (rest := [.int x1_2]) (n := 2) (ci := 6) C (c_X5_isCovered l hl G lo t0 h nx a0 x2_1 x3_2 r4 g4) g3 rfl q_256 q_257 q_258 q_71 q_259 ⟨rfl, by decide +kernel, by decide +kernel, by decide +kernel⟩ ⟨Nat.le_of_ble_eq_true rfl, Nat.le_of_ble_eq_true rfl⟩ rfl (Nat.le_of_ble_eq_true rfl) dX5_covered_22 ⟨(Nat.zero_le _), (Nat.zero_le _)⟩) rfl (Nat.le_of_ble_eq_true rfl) (Nat.le_of_ble_eq_true rfl) ?_
      refine zj2 0 0 33 (fun (s0_5 : Int32) (s1_5 : Int32) => [(0, .ref a0), (2, .int x2_1), (3, .int x3_2)]) (fun (s0_5 : Int32) (s1_5 : Int32) => [.int s1_5, .int s0_5]) (fun (s0_5 : Int32) (s1_5 : Int32) => h) (fun (s0_5 : Int32) (s1_5 : Int32) => nx) hM (fun s0_5 s1_5 hM => ?_) (fun J5 iJ5 hM => ?_)
      · refine z_iadd (pc := 33) C dX5_covered_33 ?_
        refine z_istore_n (lv' := [(1, .int (s0_5 + s1_5)), (0, .ref a0), (2, .int x2_1), (3, .int x3_2)]) (pc := 34) C dX5_covered_34 (by decide) rfl ?_
        refine z_iinc (k := 3) (v := (x3_2 + (1 : Int32))) (lv' := [(3, .int (x3_2 + (1 : Int32))), (1, .int (s0_5 + s1_5)), (0, .ref a0), (2, .int x2_1)]) (pc := 35) C dX5_covered_35 rfl (by first | rfl | decide) (by decide) rfl ?_
        refine z_goto (pc := 38) (tgt := 12) C dX5_covered_38 (by decide) ?_
        exact z_sub [2, 1, 3, 0] rfl (irec2 (s0_5 + s1_5) (x3_2 + (1 : Int32)) hM)
      refine z_if_eq (pc := 25) (tgt := 32) C dX5_covered_25 (by decide) hM (fun hc6 hM => ?_) (fun hc6 hM => ?_)
      · refine z_iconst (v := (0 : Int32)) (pc := 32) C dX5_covered_32 (by decide) ?_
        exact z_sub [0, 2, 3] rfl (iJ5 x1_2 (0 : Int32) hM)
      · refine z_iconst (v := (1 : Int32)) (pc := 28) C dX5_covered_28 (by decide) ?_
        refine z_goto (pc := 29) (tgt := 33) C dX5_covered_29 (by decide) ?_
        exact z_sub [0, 2, 3] rfl (iJ5 x1_2 (1 : Int32) hM)
set_option maxHeartbeats 4000000 in
set_option maxRecDepth 100000 in
theorem c_X5_outline (l : Launch) (hl : l.stackTraces = false) (G : zG) (lo t0 : Nat) (h : zH) (nx : Nat) (a0 : Nat) (o : Int32) (hM : M_X5_outline h a0 = some o) : z_Met l yX5_outline cX5_outline 4 (some .int) 3 70 G lo t0 [.ref a0] h nx (.inr (some (.int o), h, nx)) 0 0 := by
  refine z_of [(0, .ref a0)] (by decide) (Nat.le_of_ble_eq_true rfl) rfl (fun p e s m below meth c C hin => ?_)
  unfold M_X5_outline at hM
  refine z_iconst (v := (0 : Int32)) (pc := 0) C dX5_outline_0 (by decide) ?_
  refine z_istore_n (lv' := [(1, .int (0 : Int32)), (0, .ref a0)]) (pc := 1) C dX5_outline_1 (by decide) rfl ?_
  refine z_iconst (v := (0 : Int32)) (pc := 2) C dX5_outline_2 (by decide) ?_
  refine z_istore_n (lv' := [(2, .int (0 : Int32)), (1, .int (0 : Int32)), (0, .ref a0)]) (pc := 3) C dX5_outline_3 (by decide) rfl ?_
  refine z_sub [2, 1, 0] rfl (zl2 (fun (x1_1 : Int32) (x2_1 : Int32) => [(0, .ref a0), (1, .int x1_1), (2, .int x2_1)]) (fun (x1_1 : Int32) (x2_1 : Int32) => h) (fun (x1_1 : Int32) (x2_1 : Int32) => nx) hM (fun rec1 irec1 x1_1 x2_1 hM => ?_))
  refine z_iload_n (k := 2) (pc := 4) C dX5_outline_4 rfl ?_
  refine z_bipush (v := (24 : Int32)) (pc := 5) C dX5_outline_5 (by decide) ?_
  refine z_icmp_ge (pc := 7) (tgt := 112) C dX5_outline_7 (by decide) hM (fun hc20 hM => ?_) (fun hc20 hM => ?_)
  · refine z_iload_n (k := 1) (pc := 112) C dX5_outline_112 rfl ?_
    cases hM
    exact z_iret (pc := 113) C rfl (Nat.zero_le _) (Nat.zero_le _) dX5_outline_113
  · refine z_iconst (v := (0 : Int32)) (pc := 10) C dX5_outline_10 (by decide) ?_
    refine z_istore_n (lv' := [(3, .int (0 : Int32)), (0, .ref a0), (1, .int x1_1), (2, .int x2_1)]) (pc := 11) C dX5_outline_11 (by decide) rfl ?_
    refine z_sub [1, 2, 3, 0] rfl (zl2 (fun (x1_2 : Int32) (x3_2 : Int32) => [(0, .ref a0), (1, .int x1_2), (2, .int x2_1), (3, .int x3_2)]) (fun (x1_2 : Int32) (x3_2 : Int32) => h) (fun (x1_2 : Int32) (x3_2 : Int32) => nx) hM (fun rec2 irec2 x1_2 x3_2 hM => ?_))
    refine z_iload_n (k := 3) (pc := 12) C dX5_outline_12 rfl ?_
    refine z_bipush (v := (24 : Int32)) (pc := 13) C dX5_outline_13 (by decide) ?_
    refine z_icmp_ge (pc := 15) (tgt := 106) C dX5_outline_15 (by decide) hM (fun hc19 hM => ?_) (fun hc19 hM => ?_)
    · refine z_iinc (k := 2) (v := (x2_1 + (1 : Int32))) (lv' := [(2, .int (x2_1 + (1 : Int32))), (0, .ref a0), (1, .int x1_2), (3, .int x3_2)]) (pc := 106) C dX5_outline_106 rfl (by first | rfl | decide) (by decide) rfl ?_
      refine z_goto (pc := 109) (tgt := 4) C dX5_outline_109 (by decide) ?_
      exact z_sub [1, 2, 0] rfl (irec1 x1_2 (x2_1 + (1 : Int32)) hM)
    · refine z_aload_n (k := 0) (pc := 18) C dX5_outline_18 rfl ?_
      refine z_iload_n (k := 2) (pc := 19) C dX5_outline_19 rfl ?_
      refine z_iload_n (k := 3) (pc := 20) C dX5_outline_20 rfl ?_
      obtain ⟨_, g3, hM⟩ := Option.bind_eq_some_iff.mp hM
      obtain ⟨r4, g4, hM⟩ := Option.bind_eq_some_iff.mp hM
      refine z_goN (kc := 0) (ks := 0) ([.int r4]) (z_callV (pc := 21) (As := [.int x2_1, .int x3_2]) (rest := []) (n := 2) (ci := 6) C (c_X5_isCovered l hl G lo t0 h nx a0 x2_1 x3_2 r4 g4) g3 rfl q_256 q_257 q_258 q_71 q_259 ⟨rfl, by decide +kernel, by decide +kernel, by decide +kernel⟩ ⟨Nat.le_of_ble_eq_true rfl, Nat.le_of_ble_eq_true rfl⟩ rfl (Nat.le_of_ble_eq_true rfl) dX5_outline_21 ⟨(Nat.zero_le _), (Nat.zero_le _)⟩) rfl (Nat.le_of_ble_eq_true rfl) (Nat.le_of_ble_eq_true rfl) ?_
      refine zj1 0 0 100 (fun (x1_5 : Int32) => [(0, .ref a0), (1, .int x1_5), (2, .int x2_1), (3, .int x3_2)]) (fun (x1_5 : Int32) => []) (fun (x1_5 : Int32) => h) (fun (x1_5 : Int32) => nx) hM (fun x1_5 hM => ?_) (fun J5 iJ5 hM => ?_)
      · refine z_iinc (k := 3) (v := (x3_2 + (1 : Int32))) (lv' := [(3, .int (x3_2 + (1 : Int32))), (0, .ref a0), (1, .int x1_5), (2, .int x2_1)]) (pc := 100) C dX5_outline_100 rfl (by first | rfl | decide) (by decide) rfl ?_
        refine z_goto (pc := 103) (tgt := 12) C dX5_outline_103 (by decide) ?_
        exact z_sub [1, 2, 3, 0] rfl (irec2 x1_5 (x3_2 + (1 : Int32)) hM)
      refine z_if_ne (pc := 24) (tgt := 30) C dX5_outline_24 (by decide) hM (fun hc18 hM => ?_) (fun hc18 hM => ?_)
      · refine z_goto (pc := 27) (tgt := 100) C dX5_outline_27 (by decide) ?_
        exact z_sub [0, 1, 2, 3] rfl (iJ5 x1_2 hM)
      · refine z_iload_n (k := 1) (pc := 30) C dX5_outline_30 rfl ?_
        refine z_aload_n (k := 0) (pc := 31) C dX5_outline_31 rfl ?_
        refine z_iload_n (k := 2) (pc := 32) C dX5_outline_32 rfl ?_
        refine z_iconst (v := (1 : Int32)) (pc := 33) C dX5_outline_33 (by decide) ?_
        refine z_isub (pc := 34) C dX5_outline_34 ?_
        refine z_iload_n (k := 3) (pc := 35) C dX5_outline_35 rfl ?_
        obtain ⟨r6, g6, hM⟩ := Option.bind_eq_some_iff.mp hM
        refine z_goN (kc := 0) (ks := 0) ([.int r6, .int x1_2]) (z_callV (pc := 36) (As := [.int (x2_1 - (1 : Int32)), .int x3_2]) (rest := [.int x1_2]) (n := 2) (ci := 6) C (c_X5_isCovered l hl G lo t0 h nx a0 (x2_1 - (1 : Int32)) x3_2 r6 g6) g3 rfl q_256 q_257 q_258 q_71 q_259 ⟨rfl, by decide +kernel, by decide +kernel, by decide +kernel⟩ ⟨Nat.le_of_ble_eq_true rfl, Nat.le_of_ble_eq_true rfl⟩ rfl (Nat.le_of_ble_eq_true rfl) dX5_outline_36 ⟨(Nat.zero_le _), (Nat.zero_le _)⟩) rfl (Nat.le_of_ble_eq_true rfl) (Nat.le_of_ble_eq_true rfl) ?_
        refine zj2 0 0 47 (fun (s0_7 : Int32) (s1_7 : Int32) => [(0, .ref a0), (2, .int x2_1), (3, .int x3_2)]) (fun (s0_7 : Int32) (s1_7 : Int32) => [.int s1_7, .int s0_7]) (fun (s0_7 : Int32) (s1_7 : Int32) => h) (fun (s0_7 : Int32) (s1_7 : Int32) => nx) hM (fun s0_7 s1_7 hM => ?_) (fun J7 iJ7 hM => ?_)
        · refine z_aload_n (k := 0) (pc := 47) C dX5_outline_47 rfl ?_
          refine z_iload_n (k := 1) (pc := 48) C dX5_outline_48 rfl ?_
          refine z_iconst (v := (1 : Int32)) (pc := 49) C dX5_outline_49 (by decide) ?_
          refine z_iadd (pc := 50) C dX5_outline_50 ?_
          refine z_iload_n (k := 2) (pc := 51) C dX5_outline_51 rfl ?_
          obtain ⟨r8, g8, hM⟩ := Option.bind_eq_some_iff.mp hM
          refine z_goN (kc := 0) (ks := 0) ([.int r8, .int s1_7, .int s0_7]) (z_callV (pc := 52) (As := [.int (x2_1 + (1 : Int32)), .int x3_2]) (rest := [.int s1_7, .int s0_7]) (n := 2) (ci := 6) C (c_X5_isCovered l hl G lo t0 h nx a0 (x2_1 + (1 : Int32)) x3_2 r8 g8) g3 rfl q_256 q_257 q_258 q_71 q_259 ⟨rfl, by decide +kernel, by decide +kernel, by decide +kernel⟩ ⟨Nat.le_of_ble_eq_true rfl, Nat.le_of_ble_eq_true rfl⟩ rfl (Nat.le_of_ble_eq_true rfl) dX5_outline_52 ⟨(Nat.zero_le _), (Nat.zero_le _)⟩) rfl (Nat.le_of_ble_eq_true rfl) (Nat.le_of_ble_eq_true rfl) ?_
          refine zj3 0 0 63 (fun (s0_9 : Int32) (s1_9 : Int32) (s2_9 : Int32) => [(0, .ref a0), (2, .int x2_1), (3, .int x3_2)]) (fun (s0_9 : Int32) (s1_9 : Int32) (s2_9 : Int32) => [.int s2_9, .int s1_9, .int s0_9]) (fun (s0_9 : Int32) (s1_9 : Int32) (s2_9 : Int32) => h) (fun (s0_9 : Int32) (s1_9 : Int32) (s2_9 : Int32) => nx) hM (fun s0_9 s1_9 s2_9 hM => ?_) (fun J9 iJ9 hM => ?_)
          · refine z_iadd (pc := 63) C dX5_outline_63 ?_
            refine z_aload_n (k := 0) (pc := 64) C dX5_outline_64 rfl ?_
            refine z_iload_n (k := 1) (pc := 65) C dX5_outline_65 rfl ?_
            refine z_iload_n (k := 2) (pc := 66) C dX5_outline_66 rfl ?_
            refine z_iconst (v := (1 : Int32)) (pc := 67) C dX5_outline_67 (by decide) ?_
            refine z_isub (pc := 68) C dX5_outline_68 ?_
            obtain ⟨r10, g10, hM⟩ := Option.bind_eq_some_iff.mp hM
            refine z_goN (kc := 0) (ks := 0) ([.int r10, .int (s1_9 + s2_9), .int s0_9]) (z_callV (pc := 69) (As := [.int x2_1, .int (x3_2 - (1 : Int32))]) (rest := [.int (s1_9 + s2_9), .int s0_9]) (n := 2) (ci := 6) C (c_X5_isCovered l hl G lo t0 h nx a0 x2_1 (x3_2 - (1 : Int32)) r10 g10) g3 rfl q_256 q_257 q_258 q_71 q_259 ⟨rfl, by decide +kernel, by decide +kernel, by decide +kernel⟩ ⟨Nat.le_of_ble_eq_true rfl, Nat.le_of_ble_eq_true rfl⟩ rfl (Nat.le_of_ble_eq_true rfl) dX5_outline_69 ⟨(Nat.zero_le _), (Nat.zero_le _)⟩) rfl (Nat.le_of_ble_eq_true rfl) (Nat.le_of_ble_eq_true rfl) ?_
            refine zj3 0 0 80 (fun (s0_11 : Int32) (s1_11 : Int32) (s2_11 : Int32) => [(0, .ref a0), (2, .int x2_1), (3, .int x3_2)]) (fun (s0_11 : Int32) (s1_11 : Int32) (s2_11 : Int32) => [.int s2_11, .int s1_11, .int s0_11]) (fun (s0_11 : Int32) (s1_11 : Int32) (s2_11 : Int32) => h) (fun (s0_11 : Int32) (s1_11 : Int32) (s2_11 : Int32) => nx) hM (fun s0_11 s1_11 s2_11 hM => ?_) (fun J11 iJ11 hM => ?_)
            · refine z_iadd (pc := 80) C dX5_outline_80 ?_
              refine z_aload_n (k := 0) (pc := 81) C dX5_outline_81 rfl ?_
              refine z_iload_n (k := 1) (pc := 82) C dX5_outline_82 rfl ?_
              refine z_iload_n (k := 2) (pc := 83) C dX5_outline_83 rfl ?_
              refine z_iconst (v := (1 : Int32)) (pc := 84) C dX5_outline_84 (by decide) ?_
              refine z_iadd (pc := 85) C dX5_outline_85 ?_
              obtain ⟨r12, g12, hM⟩ := Option.bind_eq_some_iff.mp hM
              refine z_goN (kc := 0) (ks := 0) ([.int r12, .int (s1_11 + s2_11), .int s0_11]) (z_callV (pc := 86) (As := [.int x2_1, .int (x3_2 + (1 : Int32))]) (rest := [.int (s1_11 + s2_11), .int s0_11]) (n := 2) (ci := 6) C (c_X5_isCovered l hl G lo t0 h nx a0 x2_1 (x3_2 + (1 : Int32)) r12 g12) g3 rfl q_256 q_257 q_258 q_71 q_259 ⟨rfl, by decide +kernel, by decide +kernel, by decide +kernel⟩ ⟨Nat.le_of_ble_eq_true rfl, Nat.le_of_ble_eq_true rfl⟩ rfl (Nat.le_of_ble_eq_true rfl) dX5_outline_86 ⟨(Nat.zero_le _), (Nat.zero_le _)⟩) rfl (Nat.le_of_ble_eq_true rfl) (Nat.le_of_ble_eq_true rfl) ?_
              refine zj3 0 0 97 (fun (s0_13 : Int32) (s1_13 : Int32) (s2_13 : Int32) => [(0, .ref a0), (2, .int x2_1), (3, .int x3_2)]) (fun (s0_13 : Int32) (s1_13 : Int32) (s2_13 : Int32) => [.int s2_13, .int s1_13, .int s0_13]) (fun (s0_13 : Int32) (s1_13 : Int32) (s2_13 : Int32) => h) (fun (s0_13 : Int32) (s1_13 : Int32) (s2_13 : Int32) => nx) hM (fun s0_13 s1_13 s2_13 hM => ?_) (fun J13 iJ13 hM => ?_)
              · refine z_iadd (pc := 97) C dX5_outline_97 ?_
                refine z_iadd (pc := 98) C dX5_outline_98 ?_
                refine z_istore_n (lv' := [(1, .int (s0_13 + (s1_13 + s2_13))), (0, .ref a0), (2, .int x2_1), (3, .int x3_2)]) (pc := 99) C dX5_outline_99 (by decide) rfl ?_
                exact z_sub [1, 0, 2, 3] rfl (iJ5 (s0_13 + (s1_13 + s2_13)) hM)
              refine z_if_eq (pc := 89) (tgt := 96) C dX5_outline_89 (by decide) hM (fun hc14 hM => ?_) (fun hc14 hM => ?_)
              · refine z_iconst (v := (1 : Int32)) (pc := 96) C dX5_outline_96 (by decide) ?_
                exact z_sub [0, 1, 2] rfl (iJ13 s0_11 (s1_11 + s2_11) (1 : Int32) hM)
              · refine z_iconst (v := (0 : Int32)) (pc := 92) C dX5_outline_92 (by decide) ?_
                refine z_goto (pc := 93) (tgt := 97) C dX5_outline_93 (by decide) ?_
                exact z_sub [0, 1, 2] rfl (iJ13 s0_11 (s1_11 + s2_11) (0 : Int32) hM)
            refine z_if_eq (pc := 72) (tgt := 79) C dX5_outline_72 (by decide) hM (fun hc15 hM => ?_) (fun hc15 hM => ?_)
            · refine z_iconst (v := (1 : Int32)) (pc := 79) C dX5_outline_79 (by decide) ?_
              exact z_sub [0, 1, 2] rfl (iJ11 s0_9 (s1_9 + s2_9) (1 : Int32) hM)
            · refine z_iconst (v := (0 : Int32)) (pc := 75) C dX5_outline_75 (by decide) ?_
              refine z_goto (pc := 76) (tgt := 80) C dX5_outline_76 (by decide) ?_
              exact z_sub [0, 1, 2] rfl (iJ11 s0_9 (s1_9 + s2_9) (0 : Int32) hM)
          refine z_if_eq (pc := 55) (tgt := 62) C dX5_outline_55 (by decide) hM (fun hc16 hM => ?_) (fun hc16 hM => ?_)
          · refine z_iconst (v := (1 : Int32)) (pc := 62) C dX5_outline_62 (by decide) ?_
            exact z_sub [0, 1, 2] rfl (iJ9 s0_7 s1_7 (1 : Int32) hM)
          · refine z_iconst (v := (0 : Int32)) (pc := 58) C dX5_outline_58 (by decide) ?_
            refine z_goto (pc := 59) (tgt := 63) C dX5_outline_59 (by decide) ?_
            exact z_sub [0, 1, 2] rfl (iJ9 s0_7 s1_7 (0 : Int32) hM)
        refine z_if_eq (pc := 39) (tgt := 46) C dX5_outline_39 (by decide) hM (fun hc17 hM => ?_) (fun hc17 hM => ?_)
        · refine z_iconst (v := (1 : Int32)) (pc := 46) C dX5_outline_46 (by decide) ?_
          exact z_sub [0, 2, 3] rfl (iJ7 x1_2 (1 : Int32) hM)
        · refine z_iconst (v := (0 : Int32)) (pc := 42) C dX5_outline_42 (by decide) ?_
          refine z_goto (pc := 43) (tgt := 47) C dX5_outline_43 (by decide) ?_
          exact z_sub [0, 2, 3] rfl (iJ7 x1_2 (0 : Int32) hM)
set_option maxHeartbeats 4000000 in
set_option maxRecDepth 100000 in
theorem c_X5_parts (l : Launch) (hl : l.stackTraces = false) (G : zG) (lo t0 : Nat) (h : zH) (nx : Nat) (a0 : Nat) (o : Int32 × zH × Nat) (hM : M_X5_parts h nx a0 = some o) : z_Met l yX5_parts cX5_parts 8 (some .int) 3 70 G lo t0 [.ref a0] h nx (.inr (some (.int o.1), o.2.1, o.2.2)) 27 702 := by
  refine z_of [(0, .ref a0)] (by decide) (Nat.le_of_ble_eq_true rfl) rfl (fun p e s m below meth c C hin => ?_)
  unfold M_X5_parts at hM
  refine z_bipush (v := (26 : Int32)) (pc := 0) C dX5_parts_0 (by decide) ?_
  refine z_bipush (v := (26 : Int32)) (pc := 2) C dX5_parts_2 (by decide) ?_
  refine z_newM (pc := 4) (n' := 26) (k' := 26) C q_78 q_25 (by decide) (by decide) (by decide) (by decide) (by decide) (by decide) (Nat.le_of_ble_eq_true rfl) (Nat.le_of_ble_eq_true rfl) dX5_parts_4 ?_
  refine z_astore_n (lv' := [(1, .ref nx), (0, .ref a0)]) (pc := 8) C dX5_parts_8 (by decide) rfl ?_
  refine z_iconst (v := (0 : Int32)) (pc := 9) C dX5_parts_9 (by decide) ?_
  refine z_istore_n (lv' := [(2, .int (0 : Int32)), (1, .ref nx), (0, .ref a0)]) (pc := 10) C dX5_parts_10 (by decide) rfl ?_
  refine z_sub [2, 1, 0] rfl (zl2 (fun (x2_1 : Int32) (h_1 : zH) => [(0, .ref a0), (1, .ref nx), (2, .int x2_1)]) (fun (x2_1 : Int32) (h_1 : zH) => h_1) (fun (x2_1 : Int32) (h_1 : zH) => (nx + 1 + 26)) hM (fun rec1 irec1 x2_1 h_1 hM => ?_))
  refine z_iload_n (k := 2) (pc := 11) C dX5_parts_11 rfl ?_
  refine z_bipush (v := (24 : Int32)) (pc := 12) C dX5_parts_12 (by decide) ?_
  refine z_icmp_ge (pc := 14) (tgt := 67) C dX5_parts_14 (by decide) hM (fun hc41 hM => ?_) (fun hc41 hM => ?_)
  · refine z_iconst (v := (1 : Int32)) (pc := 67) C dX5_parts_67 (by decide) ?_
    refine z_istore_n (lv' := [(2, .int (1 : Int32)), (0, .ref a0), (1, .ref nx)]) (pc := 68) C dX5_parts_68 (by decide) rfl ?_
    refine z_sub [2, 0] rfl (zl2 (fun (x2_2 : Int32) (h_2 : zH) => [(1, .ref nx), (2, .int x2_2)]) (fun (x2_2 : Int32) (h_2 : zH) => h_2) (fun (x2_2 : Int32) (h_2 : zH) => (nx + 1 + 26)) hM (fun rec2 irec2 x2_2 h_2 hM => ?_))
    refine z_iload_n (k := 1) (pc := 69) C dX5_parts_69 rfl ?_
    refine z_if_eq (pc := 70) (tgt := 215) C dX5_parts_70 (by decide) hM (fun hc32 hM => ?_) (fun hc32 hM => ?_)
    · refine z_iconst (v := (0 : Int32)) (pc := 215) C dX5_parts_215 (by decide) ?_
      refine z_istore_n (lv' := [(3, .int (0 : Int32)), (1, .ref nx), (2, .int x2_2)]) (pc := 216) C dX5_parts_216 (by decide) rfl ?_
      refine z_iconst (v := (0 : Int32)) (pc := 217) C dX5_parts_217 (by decide) ?_
      refine z_istore (lv' := [(4, .int (0 : Int32)), (3, .int (0 : Int32)), (1, .ref nx), (2, .int x2_2)]) (pc := 218) C dX5_parts_218 (by decide) rfl ?_
      refine z_sub [2, 1, 0] rfl (zl2 (fun (x3_3 : Int32) (x4_3 : Int32) => [(1, .ref nx), (3, .int x3_3), (4, .int x4_3)]) (fun (x3_3 : Int32) (x4_3 : Int32) => h_2) (fun (x3_3 : Int32) (x4_3 : Int32) => (nx + 1 + 26)) hM (fun rec3 irec3 x3_3 x4_3 hM => ?_))
      refine z_iload (k := 2) (pc := 220) C dX5_parts_220 rfl ?_
      refine z_bipush (v := (24 : Int32)) (pc := 222) C dX5_parts_222 (by decide) ?_
      refine z_icmp_ge (pc := 224) (tgt := 281) C dX5_parts_224 (by decide) hM (fun hc10 hM => ?_) (fun hc10 hM => ?_)
      · refine z_iload_n (k := 1) (pc := 281) C dX5_parts_281 rfl ?_
        cases hM
        exact z_iret (pc := 282) C rfl (Nat.le_of_ble_eq_true rfl) (Nat.le_of_ble_eq_true rfl) dX5_parts_282
      · refine z_iconst (v := (0 : Int32)) (pc := 227) C dX5_parts_227 (by decide) ?_
        refine z_istore (lv' := [(5, .int (0 : Int32)), (1, .ref nx), (3, .int x3_3), (4, .int x4_3)]) (pc := 228) C dX5_parts_228 (by decide) rfl ?_
        refine z_sub [1, 2, 3, 0] rfl (zl2 (fun (x3_4 : Int32) (x5_4 : Int32) => [(1, .ref nx), (3, .int x3_4), (4, .int x4_3), (5, .int x5_4)]) (fun (x3_4 : Int32) (x5_4 : Int32) => h_2) (fun (x3_4 : Int32) (x5_4 : Int32) => (nx + 1 + 26)) hM (fun rec4 irec4 x3_4 x5_4 hM => ?_))
        refine z_iload (k := 3) (pc := 230) C dX5_parts_230 rfl ?_
        refine z_bipush (v := (24 : Int32)) (pc := 232) C dX5_parts_232 (by decide) ?_
        refine z_icmp_ge (pc := 234) (tgt := 275) C dX5_parts_234 (by decide) hM (fun hc9 hM => ?_) (fun hc9 hM => ?_)
        · refine z_iinc (k := 2) (v := (x4_3 + (1 : Int32))) (lv' := [(4, .int (x4_3 + (1 : Int32))), (1, .ref nx), (3, .int x3_4), (5, .int x5_4)]) (pc := 275) C dX5_parts_275 rfl (by first | rfl | decide) (by decide) rfl ?_
          refine z_goto (pc := 278) (tgt := 220) C dX5_parts_278 (by decide) ?_
          exact z_sub [1, 2, 0] rfl (irec3 x3_4 (x4_3 + (1 : Int32)) hM)
        · refine z_iload_n (k := 1) (pc := 237) C dX5_parts_237 rfl ?_
          refine z_aload_n (k := 0) (pc := 238) C dX5_parts_238 rfl ?_
          refine z_iload (k := 2) (pc := 239) C dX5_parts_239 rfl ?_
          refine z_iconst (v := (1 : Int32)) (pc := 241) C dX5_parts_241 (by decide) ?_
          refine z_iadd (pc := 242) C dX5_parts_242 ?_
          obtain ⟨r5, g5, hM⟩ := Option.bind_eq_some_iff.mp hM
          refine z_aaldD (pc := 243) C g5 dX5_parts_243 ?_
          refine z_iload (k := 3) (pc := 244) C dX5_parts_244 rfl ?_
          refine z_iconst (v := (1 : Int32)) (pc := 246) C dX5_parts_246 (by decide) ?_
          refine z_iadd (pc := 247) C dX5_parts_247 ?_
          obtain ⟨r6, g6, hM⟩ := Option.bind_eq_some_iff.mp hM
          refine z_iald (pc := 248) C g6 dX5_parts_248 ?_
          refine z_iconst (v := (1 : Int32)) (pc := 249) C dX5_parts_249 (by decide) ?_
          refine z_bipush (v := (24 : Int32)) (pc := 250) C dX5_parts_250 (by decide) ?_
          refine z_iload (k := 2) (pc := 252) C dX5_parts_252 rfl ?_
          refine z_imul (pc := 254) C dX5_parts_254 ?_
          refine z_iadd (pc := 255) C dX5_parts_255 ?_
          refine z_iload (k := 3) (pc := 256) C dX5_parts_256 rfl ?_
          refine z_iadd (pc := 258) C dX5_parts_258 ?_
          refine zj2 27 702 267 (fun (s0_7 : Int32) (s1_7 : Int32) => [(1, .ref nx), (4, .int x4_3), (5, .int x5_4)]) (fun (s0_7 : Int32) (s1_7 : Int32) => [.int s1_7, .int s0_7]) (fun (s0_7 : Int32) (s1_7 : Int32) => h_2) (fun (s0_7 : Int32) (s1_7 : Int32) => (nx + 1 + 26)) hM (fun s0_7 s1_7 hM => ?_) (fun J7 iJ7 hM => ?_)
          · refine z_iadd (pc := 267) C dX5_parts_267 ?_
            refine z_istore_n (lv' := [(3, .int (s0_7 + s1_7)), (1, .ref nx), (4, .int x4_3), (5, .int x5_4)]) (pc := 268) C dX5_parts_268 (by decide) rfl ?_
            refine z_iinc (k := 3) (v := (x5_4 + (1 : Int32))) (lv' := [(5, .int (x5_4 + (1 : Int32))), (3, .int (s0_7 + s1_7)), (1, .ref nx), (4, .int x4_3)]) (pc := 269) C dX5_parts_269 rfl (by first | rfl | decide) (by decide) rfl ?_
            refine z_goto (pc := 272) (tgt := 230) C dX5_parts_272 (by decide) ?_
            exact z_sub [2, 1, 3, 0] rfl (irec4 (s0_7 + s1_7) (x5_4 + (1 : Int32)) hM)
          refine z_icmp_ne (pc := 259) (tgt := 266) C dX5_parts_259 (by decide) hM (fun hc8 hM => ?_) (fun hc8 hM => ?_)
          · refine z_iconst (v := (1 : Int32)) (pc := 262) C dX5_parts_262 (by decide) ?_
            refine z_goto (pc := 263) (tgt := 267) C dX5_parts_263 (by decide) ?_
            exact z_sub [0, 2, 3] rfl (iJ7 x3_4 (1 : Int32) hM)
          · refine z_iconst (v := (0 : Int32)) (pc := 266) C dX5_parts_266 (by decide) ?_
            exact z_sub [0, 2, 3] rfl (iJ7 x3_4 (0 : Int32) hM)
    · refine z_iconst (v := (0 : Int32)) (pc := 73) C dX5_parts_73 (by decide) ?_
      refine z_istore_n (lv' := [(2, .int (0 : Int32)), (1, .ref nx)]) (pc := 74) C dX5_parts_74 (by decide) rfl ?_
      refine z_iconst (v := (0 : Int32)) (pc := 75) C dX5_parts_75 (by decide) ?_
      refine z_istore_n (lv' := [(3, .int (0 : Int32)), (2, .int (0 : Int32)), (1, .ref nx)]) (pc := 76) C dX5_parts_76 (by decide) rfl ?_
      refine z_sub [2, 1, 0] rfl (zl3 (fun (x2_11 : Int32) (x3_11 : Int32) (h_11 : zH) => [(1, .ref nx), (2, .int x2_11), (3, .int x3_11)]) (fun (x2_11 : Int32) (x3_11 : Int32) (h_11 : zH) => h_11) (fun (x2_11 : Int32) (x3_11 : Int32) (h_11 : zH) => (nx + 1 + 26)) hM (fun rec11 irec11 x2_11 x3_11 h_11 hM => ?_))
      refine z_iload_n (k := 2) (pc := 77) C dX5_parts_77 rfl ?_
      refine z_sipush (v := (1152 : Int32)) (pc := 78) C dX5_parts_78 (by decide) ?_
      refine z_icmp_ge (pc := 81) (tgt := 212) C dX5_parts_81 (by decide) hM (fun hc31 hM => ?_) (fun hc31 hM => ?_)
      · refine z_goto (pc := 212) (tgt := 69) C dX5_parts_212 (by decide) ?_
        exact z_sub [0, 1] rfl (irec2 x2_11 h_11 hM)
      · refine z_iload_n (k := 2) (pc := 84) C dX5_parts_84 rfl ?_
        refine z_sipush (v := (576 : Int32)) (pc := 85) C dX5_parts_85 (by decide) ?_
        refine zj1 27 702 100 (fun (s0_12 : Int32) => [(1, .ref nx), (2, .int x2_11), (3, .int x3_11)]) (fun (s0_12 : Int32) => [.int s0_12]) (fun (s0_12 : Int32) => h_11) (fun (s0_12 : Int32) => (nx + 1 + 26)) hM (fun s0_12 hM => ?_) (fun J12 iJ12 hM => ?_)
        · refine z_istore (lv' := [(4, .int s0_12), (1, .ref nx), (2, .int x2_11), (3, .int x3_11)]) (pc := 100) C dX5_parts_100 (by decide) rfl ?_
          refine z_iconst (v := (1 : Int32)) (pc := 102) C dX5_parts_102 (by decide) ?_
          refine z_iload (k := 0) (pc := 103) C dX5_parts_103 rfl ?_
          refine z_bipush (v := (24 : Int32)) (pc := 105) C dX5_parts_105 (by decide) ?_
          refine z_idiv (pc := 107) C dX5_parts_107 (by decide) ?_
          refine z_iadd (pc := 108) C dX5_parts_108 ?_
          refine z_istore (lv' := [(5, .int ((1 : Int32) + (s0_12 / (24 : Int32)))), (4, .int s0_12), (1, .ref nx), (2, .int x2_11), (3, .int x3_11)]) (pc := 109) C dX5_parts_109 (by decide) rfl ?_
          refine z_iconst (v := (1 : Int32)) (pc := 111) C dX5_parts_111 (by decide) ?_
          refine z_iload (k := 1) (pc := 112) C dX5_parts_112 rfl ?_
          refine z_bipush (v := (24 : Int32)) (pc := 114) C dX5_parts_114 (by decide) ?_
          refine z_irem (pc := 116) C dX5_parts_116 (by decide) ?_
          refine z_iadd (pc := 117) C dX5_parts_117 ?_
          refine z_istore (lv' := [(6, .int ((1 : Int32) + (s0_12 - s0_12 / (24 : Int32) * (24 : Int32)))), (5, .int ((1 : Int32) + (s0_12 / (24 : Int32)))), (4, .int s0_12), (1, .ref nx), (2, .int x2_11), (3, .int x3_11)]) (pc := 118) C dX5_parts_118 (by decide) rfl ?_
          refine z_aload_n (k := 3) (pc := 120) C dX5_parts_120 rfl ?_
          refine z_iload (k := 1) (pc := 121) C dX5_parts_121 rfl ?_
          obtain ⟨r13, g13, hM⟩ := Option.bind_eq_some_iff.mp hM
          refine z_aaldD (pc := 123) C g13 dX5_parts_123 ?_
          refine z_iload (k := 0) (pc := 124) C dX5_parts_124 rfl ?_
          obtain ⟨r14, g14, hM⟩ := Option.bind_eq_some_iff.mp hM
          refine z_iald (pc := 126) C g14 dX5_parts_126 ?_
          refine zj2 27 702 206 (fun (x2_15 : Int32) (h_15 : zH) => [(1, .ref nx), (2, .int x2_15), (3, .int x3_11)]) (fun (x2_15 : Int32) (h_15 : zH) => []) (fun (x2_15 : Int32) (h_15 : zH) => h_15) (fun (x2_15 : Int32) (h_15 : zH) => (nx + 1 + 26)) hM (fun x2_15 h_15 hM => ?_) (fun J15 iJ15 hM => ?_)
          · refine z_iinc (k := 2) (v := (x3_11 + (1 : Int32))) (lv' := [(3, .int (x3_11 + (1 : Int32))), (1, .ref nx), (2, .int x2_15)]) (pc := 206) C dX5_parts_206 rfl (by first | rfl | decide) (by decide) rfl ?_
            refine z_goto (pc := 209) (tgt := 77) C dX5_parts_209 (by decide) ?_
            exact z_sub [1, 2, 0] rfl (irec11 x2_15 (x3_11 + (1 : Int32)) h_15 hM)
          refine z_if_ne (pc := 127) (tgt := 133) C dX5_parts_127 (by decide) hM (fun hc29 hM => ?_) (fun hc29 hM => ?_)
          · refine z_goto (pc := 130) (tgt := 206) C dX5_parts_130 (by decide) ?_
            exact z_sub [3, 4, 5] rfl (iJ15 x2_11 h_11 hM)
          · refine z_aload_n (k := 3) (pc := 133) C dX5_parts_133 rfl ?_
            refine z_iload (k := 1) (pc := 134) C dX5_parts_134 rfl ?_
            refine z_iconst (v := (1 : Int32)) (pc := 136) C dX5_parts_136 (by decide) ?_
            refine z_isub (pc := 137) C dX5_parts_137 ?_
            obtain ⟨r16, g16, hM⟩ := Option.bind_eq_some_iff.mp hM
            refine z_aaldD (pc := 138) C g16 dX5_parts_138 ?_
            refine z_iload (k := 0) (pc := 139) C dX5_parts_139 rfl ?_
            obtain ⟨r17, g17, hM⟩ := Option.bind_eq_some_iff.mp hM
            refine z_iald (pc := 141) C g17 dX5_parts_141 ?_
            refine z_aload_n (k := 3) (pc := 142) C dX5_parts_142 rfl ?_
            refine z_iload (k := 1) (pc := 143) C dX5_parts_143 rfl ?_
            refine z_iconst (v := (1 : Int32)) (pc := 145) C dX5_parts_145 (by decide) ?_
            refine z_iadd (pc := 146) C dX5_parts_146 ?_
            obtain ⟨r18, g18, hM⟩ := Option.bind_eq_some_iff.mp hM
            refine z_aaldD (pc := 147) C g18 dX5_parts_147 ?_
            refine z_iload (k := 0) (pc := 148) C dX5_parts_148 rfl ?_
            obtain ⟨r19, g19, hM⟩ := Option.bind_eq_some_iff.mp hM
            refine z_iald (pc := 150) C g19 dX5_parts_150 ?_
            refine z_max (pc := 151) C q_526 q_4 q_5 q_6 (Nat.le_of_ble_eq_true rfl) (Nat.le_of_ble_eq_true rfl) (Nat.le_of_ble_eq_true rfl) (Nat.le_of_ble_eq_true rfl) dX5_parts_151 ?_
            refine z_aload_n (k := 3) (pc := 154) C dX5_parts_154 rfl ?_
            refine z_iload (k := 1) (pc := 155) C dX5_parts_155 rfl ?_
            obtain ⟨r20, g20, hM⟩ := Option.bind_eq_some_iff.mp hM
            refine z_aaldD (pc := 157) C g20 dX5_parts_157 ?_
            refine z_iload (k := 0) (pc := 158) C dX5_parts_158 rfl ?_
            refine z_iconst (v := (1 : Int32)) (pc := 160) C dX5_parts_160 (by decide) ?_
            refine z_isub (pc := 161) C dX5_parts_161 ?_
            obtain ⟨r21, g21, hM⟩ := Option.bind_eq_some_iff.mp hM
            refine z_iald (pc := 162) C g21 dX5_parts_162 ?_
            refine z_aload_n (k := 3) (pc := 163) C dX5_parts_163 rfl ?_
            refine z_iload (k := 1) (pc := 164) C dX5_parts_164 rfl ?_
            obtain ⟨r22, g22, hM⟩ := Option.bind_eq_some_iff.mp hM
            refine z_aaldD (pc := 166) C g22 dX5_parts_166 ?_
            refine z_iload (k := 0) (pc := 167) C dX5_parts_167 rfl ?_
            refine z_iconst (v := (1 : Int32)) (pc := 169) C dX5_parts_169 (by decide) ?_
            refine z_iadd (pc := 170) C dX5_parts_170 ?_
            obtain ⟨r23, g23, hM⟩ := Option.bind_eq_some_iff.mp hM
            refine z_iald (pc := 171) C g23 dX5_parts_171 ?_
            refine z_max (pc := 172) C q_526 q_4 q_5 q_6 (Nat.le_of_ble_eq_true rfl) (Nat.le_of_ble_eq_true rfl) (Nat.le_of_ble_eq_true rfl) (Nat.le_of_ble_eq_true rfl) dX5_parts_172 ?_
            refine z_max (pc := 175) C q_526 q_4 q_5 q_6 (Nat.le_of_ble_eq_true rfl) (Nat.le_of_ble_eq_true rfl) (Nat.le_of_ble_eq_true rfl) (Nat.le_of_ble_eq_true rfl) dX5_parts_175 ?_
            refine z_istore (lv' := [(7, .int (if (if r17 < r19 then r19 else r17) < (if r21 < r23 then r23 else r21) then (if r21 < r23 then r23 else r21) else (if r17 < r19 then r19 else r17))), (6, .int ((1 : Int32) + (s0_12 - s0_12 / (24 : Int32) * (24 : Int32)))), (5, .int ((1 : Int32) + (s0_12 / (24 : Int32)))), (4, .int s0_12), (1, .ref nx), (2, .int x2_11), (3, .int x3_11)]) (pc := 178) C dX5_parts_178 (by decide) rfl ?_
            refine z_iload (k := 0) (pc := 180) C dX5_parts_180 rfl ?_
            refine z_aload_n (k := 4) (pc := 182) C dX5_parts_182 rfl ?_
            refine z_iload (k := 2) (pc := 183) C dX5_parts_183 rfl ?_
            obtain ⟨r24, g24, hM⟩ := Option.bind_eq_some_iff.mp hM
            refine z_aaldD (pc := 185) C g24 dX5_parts_185 ?_
            refine z_iload (k := 1) (pc := 186) C dX5_parts_186 rfl ?_
            obtain ⟨r25, g25, hM⟩ := Option.bind_eq_some_iff.mp hM
            refine z_iald (pc := 188) C g25 dX5_parts_188 ?_
            refine z_icmp_gt (pc := 189) (tgt := 195) C dX5_parts_189 (by decide) hM (fun hc28 hM => ?_) (fun hc28 hM => ?_)
            · refine z_aload_n (k := 4) (pc := 195) C dX5_parts_195 rfl ?_
              refine z_iload (k := 2) (pc := 196) C dX5_parts_196 rfl ?_
              obtain ⟨r26, g26, hM⟩ := Option.bind_eq_some_iff.mp hM
              refine z_aaldD (pc := 198) C g26 dX5_parts_198 ?_
              refine z_iload (k := 1) (pc := 199) C dX5_parts_199 rfl ?_
              refine z_iload (k := 0) (pc := 201) C dX5_parts_201 rfl ?_
              obtain ⟨h_27, g27, hM⟩ := Option.bind_eq_some_iff.mp hM
              refine z_iast (pc := 203) C g27 dX5_parts_203 ?_
              refine z_iconst (v := (1 : Int32)) (pc := 204) C dX5_parts_204 (by decide) ?_
              refine z_istore_n (lv' := [(2, .int (1 : Int32)), (7, .int (if (if r17 < r19 then r19 else r17) < (if r21 < r23 then r23 else r21) then (if r21 < r23 then r23 else r21) else (if r17 < r19 then r19 else r17))), (6, .int ((1 : Int32) + (s0_12 - s0_12 / (24 : Int32) * (24 : Int32)))), (5, .int ((1 : Int32) + (s0_12 / (24 : Int32)))), (4, .int s0_12), (1, .ref nx), (3, .int x3_11)]) (pc := 205) C dX5_parts_205 (by decide) rfl ?_
              exact z_sub [5, 0, 6] rfl (iJ15 (1 : Int32) h_27 hM)
            · refine z_goto (pc := 192) (tgt := 206) C dX5_parts_192 (by decide) ?_
              exact z_sub [4, 5, 6] rfl (iJ15 x2_11 h_11 hM)
        refine z_icmp_ge (pc := 88) (tgt := 95) C dX5_parts_88 (by decide) hM (fun hc30 hM => ?_) (fun hc30 hM => ?_)
        · refine z_sipush (v := (1151 : Int32)) (pc := 95) C dX5_parts_95 (by decide) ?_
          refine z_iload_n (k := 2) (pc := 98) C dX5_parts_98 rfl ?_
          refine z_isub (pc := 99) C dX5_parts_99 ?_
          exact z_sub [0, 1, 2] rfl (iJ12 ((1151 : Int32) - x3_11) hM)
        · refine z_iload_n (k := 2) (pc := 91) C dX5_parts_91 rfl ?_
          refine z_goto (pc := 92) (tgt := 100) C dX5_parts_92 (by decide) ?_
          exact z_sub [0, 1, 2] rfl (iJ12 x3_11 hM)
  · refine z_iconst (v := (0 : Int32)) (pc := 17) C dX5_parts_17 (by decide) ?_
    refine z_istore_n (lv' := [(3, .int (0 : Int32)), (0, .ref a0), (1, .ref nx), (2, .int x2_1)]) (pc := 18) C dX5_parts_18 (by decide) rfl ?_
    refine z_sub [1, 2, 3, 0] rfl (zl2 (fun (x3_33 : Int32) (h_33 : zH) => [(0, .ref a0), (1, .ref nx), (2, .int x2_1), (3, .int x3_33)]) (fun (x3_33 : Int32) (h_33 : zH) => h_33) (fun (x3_33 : Int32) (h_33 : zH) => (nx + 1 + 26)) hM (fun rec33 irec33 x3_33 h_33 hM => ?_))
    refine z_iload_n (k := 3) (pc := 19) C dX5_parts_19 rfl ?_
    refine z_bipush (v := (24 : Int32)) (pc := 20) C dX5_parts_20 (by decide) ?_
    refine z_icmp_ge (pc := 22) (tgt := 61) C dX5_parts_22 (by decide) hM (fun hc40 hM => ?_) (fun hc40 hM => ?_)
    · refine z_iinc (k := 2) (v := (x2_1 + (1 : Int32))) (lv' := [(2, .int (x2_1 + (1 : Int32))), (0, .ref a0), (1, .ref nx), (3, .int x3_33)]) (pc := 61) C dX5_parts_61 rfl (by first | rfl | decide) (by decide) rfl ?_
      refine z_goto (pc := 64) (tgt := 11) C dX5_parts_64 (by decide) ?_
      exact z_sub [1, 2, 0] rfl (irec1 (x2_1 + (1 : Int32)) h_33 hM)
    · refine z_aload_n (k := 1) (pc := 25) C dX5_parts_25 rfl ?_
      refine z_iload_n (k := 2) (pc := 26) C dX5_parts_26 rfl ?_
      refine z_iconst (v := (1 : Int32)) (pc := 27) C dX5_parts_27 (by decide) ?_
      refine z_iadd (pc := 28) C dX5_parts_28 ?_
      obtain ⟨r34, g34, hM⟩ := Option.bind_eq_some_iff.mp hM
      refine z_aaldD (pc := 29) C g34 dX5_parts_29 ?_
      refine z_iload_n (k := 3) (pc := 30) C dX5_parts_30 rfl ?_
      refine z_iconst (v := (1 : Int32)) (pc := 31) C dX5_parts_31 (by decide) ?_
      refine z_iadd (pc := 32) C dX5_parts_32 ?_
      refine z_aload_n (k := 0) (pc := 33) C dX5_parts_33 rfl ?_
      refine z_iload_n (k := 2) (pc := 34) C dX5_parts_34 rfl ?_
      refine z_iload_n (k := 3) (pc := 35) C dX5_parts_35 rfl ?_
      obtain ⟨_, g35, hM⟩ := Option.bind_eq_some_iff.mp hM
      obtain ⟨r36, g36, hM⟩ := Option.bind_eq_some_iff.mp hM
      refine z_goN (kc := 27) (ks := 702) ([.int r36, .int (x3_33 + (1 : Int32)), .ref r34]) (z_callV (pc := 36) (As := [.int x2_1, .int x3_33]) (rest := [.int (x3_33 + (1 : Int32)), .ref r34]) (n := 2) (ci := 6) C (c_X5_isCovered l hl G lo t0 h_33 (nx + 1 + 26) a0 x2_1 x3_33 r36 g36) g35 rfl q_256 q_257 q_258 q_71 q_259 ⟨rfl, by decide +kernel, by decide +kernel, by decide +kernel⟩ ⟨Nat.le_of_ble_eq_true rfl, Nat.le_of_ble_eq_true rfl⟩ rfl (Nat.le_of_ble_eq_true rfl) dX5_parts_36 ⟨(Nat.le_of_ble_eq_true rfl), (Nat.le_of_ble_eq_true rfl)⟩) rfl (Nat.le_of_ble_eq_true rfl) (Nat.le_of_ble_eq_true rfl) ?_
      refine zj3 27 702 54 (fun (b0_37 : Nat) (s1_37 : Int32) (s2_37 : Int32) => [(0, .ref a0), (1, .ref nx), (2, .int x2_1), (3, .int x3_33)]) (fun (b0_37 : Nat) (s1_37 : Int32) (s2_37 : Int32) => [.int s2_37, .int s1_37, .ref b0_37]) (fun (b0_37 : Nat) (s1_37 : Int32) (s2_37 : Int32) => h_33) (fun (b0_37 : Nat) (s1_37 : Int32) (s2_37 : Int32) => (nx + 1 + 26)) hM (fun b0_37 s1_37 s2_37 hM => ?_) (fun J37 iJ37 hM => ?_)
      · obtain ⟨h_38, g38, hM⟩ := Option.bind_eq_some_iff.mp hM
        refine z_iast (pc := 54) C g38 dX5_parts_54 ?_
        refine z_iinc (k := 3) (v := (x3_33 + (1 : Int32))) (lv' := [(3, .int (x3_33 + (1 : Int32))), (0, .ref a0), (1, .ref nx), (2, .int x2_1)]) (pc := 55) C dX5_parts_55 rfl (by first | rfl | decide) (by decide) rfl ?_
        refine z_goto (pc := 58) (tgt := 19) C dX5_parts_58 (by decide) ?_
        exact z_sub [1, 2, 3, 0] rfl (irec33 (x3_33 + (1 : Int32)) h_38 hM)
      refine z_if_eq (pc := 39) (tgt := 53) C dX5_parts_39 (by decide) hM (fun hc39 hM => ?_) (fun hc39 hM => ?_)
      · refine z_iconst (v := (0 : Int32)) (pc := 53) C dX5_parts_53 (by decide) ?_
        exact z_sub [0, 1, 2, 3] rfl (iJ37 r34 (x3_33 + (1 : Int32)) (0 : Int32) hM)
      · refine z_iconst (v := (1 : Int32)) (pc := 42) C dX5_parts_42 (by decide) ?_
        refine z_bipush (v := (24 : Int32)) (pc := 43) C dX5_parts_43 (by decide) ?_
        refine z_iload_n (k := 2) (pc := 45) C dX5_parts_45 rfl ?_
        refine z_imul (pc := 46) C dX5_parts_46 ?_
        refine z_iadd (pc := 47) C dX5_parts_47 ?_
        refine z_iload_n (k := 3) (pc := 48) C dX5_parts_48 rfl ?_
        refine z_iadd (pc := 49) C dX5_parts_49 ?_
        refine z_goto (pc := 50) (tgt := 54) C dX5_parts_50 (by decide) ?_
        exact z_sub [0, 1, 2, 3] rfl (iJ37 r34 (x3_33 + (1 : Int32)) (((1 : Int32) + ((24 : Int32) * x2_1)) + x3_33) hM)
set_option maxHeartbeats 4000000 in
set_option maxRecDepth 100000 in
theorem c_X5_shared (l : Launch) (hl : l.stackTraces = false) (G : zG) (lo t0 : Nat) (h : zH) (nx : Nat) (a0 : Nat) (x1 : Int32) (x2 : Int32) (o : Int32) (hM : M_X5_shared h a0 x1 x2 = some o) : z_Met l yX5_shared cX5_shared 6 (some .int) 1 24 G lo t0 [.ref a0, .int x1, .int x2] h nx (.inr (some (.int o), h, nx)) 0 0 := by
  refine z_of [(0, .ref a0), (1, .int x1), (2, .int x2)] (by decide) (Nat.le_of_ble_eq_true rfl) rfl (fun p e s m below meth c C hin => ?_)
  unfold M_X5_shared at hM
  refine z_iconst (v := (0 : Int32)) (pc := 0) C dX5_shared_0 (by decide) ?_
  refine z_istore_n (lv' := [(3, .int (0 : Int32)), (0, .ref a0), (1, .int x1), (2, .int x2)]) (pc := 1) C dX5_shared_1 (by decide) rfl ?_
  refine z_iconst (v := (0 : Int32)) (pc := 2) C dX5_shared_2 (by decide) ?_
  refine z_istore (lv' := [(4, .int (0 : Int32)), (3, .int (0 : Int32)), (0, .ref a0), (1, .int x1), (2, .int x2)]) (pc := 3) C dX5_shared_3 (by decide) rfl ?_
  refine z_sub [2, 3, 4, 1, 0] rfl (zl2 (fun (x3_1 : Int32) (x4_1 : Int32) => [(0, .ref a0), (1, .int x1), (2, .int x2), (3, .int x3_1), (4, .int x4_1)]) (fun (x3_1 : Int32) (x4_1 : Int32) => h) (fun (x3_1 : Int32) (x4_1 : Int32) => nx) hM (fun rec1 irec1 x3_1 x4_1 hM => ?_))
  refine z_iload (k := 4) (pc := 5) C dX5_shared_5 rfl ?_
  refine z_bipush (v := (24 : Int32)) (pc := 7) C dX5_shared_7 (by decide) ?_
  refine z_icmp_ge (pc := 9) (tgt := 66) C dX5_shared_9 (by decide) hM (fun hc11 hM => ?_) (fun hc11 hM => ?_)
  · refine z_iload_n (k := 3) (pc := 66) C dX5_shared_66 rfl ?_
    cases hM
    exact z_iret (pc := 67) C rfl (Nat.zero_le _) (Nat.zero_le _) dX5_shared_67
  · refine z_iconst (v := (0 : Int32)) (pc := 12) C dX5_shared_12 (by decide) ?_
    refine z_istore (lv' := [(5, .int (0 : Int32)), (0, .ref a0), (1, .int x1), (2, .int x2), (3, .int x3_1), (4, .int x4_1)]) (pc := 13) C dX5_shared_13 (by decide) rfl ?_
    refine z_sub [1, 2, 3, 4, 5, 0] rfl (zl2 (fun (x3_2 : Int32) (x5_2 : Int32) => [(0, .ref a0), (1, .int x1), (2, .int x2), (3, .int x3_2), (4, .int x4_1), (5, .int x5_2)]) (fun (x3_2 : Int32) (x5_2 : Int32) => h) (fun (x3_2 : Int32) (x5_2 : Int32) => nx) hM (fun rec2 irec2 x3_2 x5_2 hM => ?_))
    refine z_iload (k := 5) (pc := 15) C dX5_shared_15 rfl ?_
    refine z_bipush (v := (24 : Int32)) (pc := 17) C dX5_shared_17 (by decide) ?_
    refine z_icmp_ge (pc := 19) (tgt := 60) C dX5_shared_19 (by decide) hM (fun hc10 hM => ?_) (fun hc10 hM => ?_)
    · refine z_iinc (k := 4) (v := (x4_1 + (1 : Int32))) (lv' := [(4, .int (x4_1 + (1 : Int32))), (0, .ref a0), (1, .int x1), (2, .int x2), (3, .int x3_2), (5, .int x5_2)]) (pc := 60) C dX5_shared_60 rfl (by first | rfl | decide) (by decide) rfl ?_
      refine z_goto (pc := 63) (tgt := 5) C dX5_shared_63 (by decide) ?_
      exact z_sub [1, 2, 3, 4, 0] rfl (irec1 x3_2 (x4_1 + (1 : Int32)) hM)
    · refine z_iload_n (k := 3) (pc := 22) C dX5_shared_22 rfl ?_
      refine z_aload_n (k := 0) (pc := 23) C dX5_shared_23 rfl ?_
      refine z_iload_n (k := 1) (pc := 24) C dX5_shared_24 rfl ?_
      refine z_iload (k := 4) (pc := 25) C dX5_shared_25 rfl ?_
      refine z_iload (k := 5) (pc := 27) C dX5_shared_27 rfl ?_
      obtain ⟨_, g3, hM⟩ := Option.bind_eq_some_iff.mp hM
      obtain ⟨r4, g4, hM⟩ := Option.bind_eq_some_iff.mp hM
      refine z_goN (kc := 0) (ks := 0) ([.int r4, .int x3_2]) (z_callV (pc := 29) (As := [.int x1, .int x4_1, .int x5_2]) (rest := [.int x3_2]) (n := 3) (ci := 6) C (c_X5_lies l hl G lo t0 h nx a0 x1 x4_1 x5_2 r4 g4) g3 rfl q_264 q_265 q_266 q_71 q_267 ⟨rfl, by decide +kernel, by decide +kernel, by decide +kernel⟩ ⟨Nat.le_of_ble_eq_true rfl, Nat.le_of_ble_eq_true rfl⟩ rfl (Nat.le_of_ble_eq_true rfl) dX5_shared_29 ⟨(Nat.zero_le _), (Nat.zero_le _)⟩) rfl (Nat.le_of_ble_eq_true rfl) (Nat.le_of_ble_eq_true rfl) ?_
      refine zj2 0 0 52 (fun (s0_5 : Int32) (s1_5 : Int32) => [(0, .ref a0), (1, .int x1), (2, .int x2), (4, .int x4_1), (5, .int x5_2)]) (fun (s0_5 : Int32) (s1_5 : Int32) => [.int s1_5, .int s0_5]) (fun (s0_5 : Int32) (s1_5 : Int32) => h) (fun (s0_5 : Int32) (s1_5 : Int32) => nx) hM (fun s0_5 s1_5 hM => ?_) (fun J5 iJ5 hM => ?_)
      · refine z_iadd (pc := 52) C dX5_shared_52 ?_
        refine z_istore_n (lv' := [(3, .int (s0_5 + s1_5)), (0, .ref a0), (1, .int x1), (2, .int x2), (4, .int x4_1), (5, .int x5_2)]) (pc := 53) C dX5_shared_53 (by decide) rfl ?_
        refine z_iinc (k := 5) (v := (x5_2 + (1 : Int32))) (lv' := [(5, .int (x5_2 + (1 : Int32))), (3, .int (s0_5 + s1_5)), (0, .ref a0), (1, .int x1), (2, .int x2), (4, .int x4_1)]) (pc := 54) C dX5_shared_54 rfl (by first | rfl | decide) (by decide) rfl ?_
        refine z_goto (pc := 57) (tgt := 15) C dX5_shared_57 (by decide) ?_
        exact z_sub [2, 3, 4, 1, 5, 0] rfl (irec2 (s0_5 + s1_5) (x5_2 + (1 : Int32)) hM)
      refine zj1 0 0 51 (fun (s0_6 : Int32) => [(0, .ref a0), (1, .int x1), (2, .int x2), (4, .int x4_1), (5, .int x5_2)]) (fun (s0_6 : Int32) => [.int s0_6]) (fun (s0_6 : Int32) => h) (fun (s0_6 : Int32) => nx) hM (fun s0_6 hM => ?_) (fun J6 iJ6 hM => ?_)
      · refine z_iconst (v := (0 : Int32)) (pc := 51) C dX5_shared_51 (by decide) ?_
        exact z_sub [0, 1, 2, 3, 4] rfl (iJ5 s0_6 (0 : Int32) hM)
      refine z_if_eq (pc := 32) (tgt := 51) C dX5_shared_32 (by decide) hM (fun hc9 hM => ?_) (fun hc9 hM => ?_)
      · exact z_sub [0, 1, 2, 4, 5] rfl (iJ6 x3_2 hM)
      · refine z_aload_n (k := 0) (pc := 35) C dX5_shared_35 rfl ?_
        refine z_iload_n (k := 2) (pc := 36) C dX5_shared_36 rfl ?_
        refine z_iload (k := 4) (pc := 37) C dX5_shared_37 rfl ?_
        refine z_iload (k := 5) (pc := 39) C dX5_shared_39 rfl ?_
        obtain ⟨r7, g7, hM⟩ := Option.bind_eq_some_iff.mp hM
        refine z_goN (kc := 0) (ks := 0) ([.int r7, .int x3_2]) (z_callV (pc := 41) (As := [.int x2, .int x4_1, .int x5_2]) (rest := [.int x3_2]) (n := 3) (ci := 6) C (c_X5_lies l hl G lo t0 h nx a0 x2 x4_1 x5_2 r7 g7) g3 rfl q_264 q_265 q_266 q_71 q_267 ⟨rfl, by decide +kernel, by decide +kernel, by decide +kernel⟩ ⟨Nat.le_of_ble_eq_true rfl, Nat.le_of_ble_eq_true rfl⟩ rfl (Nat.le_of_ble_eq_true rfl) dX5_shared_41 ⟨(Nat.zero_le _), (Nat.zero_le _)⟩) rfl (Nat.le_of_ble_eq_true rfl) (Nat.le_of_ble_eq_true rfl) ?_
        refine z_if_eq (pc := 44) (tgt := 51) C dX5_shared_44 (by decide) hM (fun hc8 hM => ?_) (fun hc8 hM => ?_)
        · exact z_sub [0, 1, 2, 4, 5] rfl (iJ6 x3_2 hM)
        · refine z_iconst (v := (1 : Int32)) (pc := 47) C dX5_shared_47 (by decide) ?_
          refine z_goto (pc := 48) (tgt := 52) C dX5_shared_48 (by decide) ?_
          exact z_sub [0, 1, 2, 4, 5] rfl (iJ5 x3_2 (1 : Int32) hM)
set_option maxHeartbeats 4000000 in
set_option maxRecDepth 100000 in
theorem c_L_below (l : Launch) (hl : l.stackTraces = false) (G : zG) (lo t0 : Nat) (h : zH) (nx : Nat) (x0 : Int32) (x1 : Int32) (o : Int32) (hM : M_L_below x0 x1 = some o) : z_Met l yL_below cL_below 2 (some .int) 0 0 G lo t0 [.int x0, .int x1] h nx (.inr (some (.int o), h, nx)) 0 0 := by
  refine z_of [(0, .int x0), (1, .int x1)] (by decide) (Nat.le_of_ble_eq_true rfl) rfl (fun p e s m below meth c C hin => ?_)
  unfold M_L_below at hM
  refine z_iload_n (k := 0) (pc := 0) C dL_below_0 rfl ?_
  refine z_ldc (v := (2147483647 : Int32)) (pc := 1) C dL_below_1 q_93 ?_
  refine z_iand (pc := 3) C dL_below_3 ?_
  refine z_iload_n (k := 1) (pc := 4) C dL_below_4 rfl ?_
  obtain ⟨hc1, hM⟩ := z_gn hM
  refine z_irem (pc := 5) C dL_below_5 hc1 ?_
  cases hM
  exact z_iret (pc := 6) C rfl (Nat.zero_le _) (Nat.zero_le _) dL_below_6
set_option maxHeartbeats 4000000 in
set_option maxRecDepth 100000 in
theorem c_L_cell (l : Launch) (hl : l.stackTraces = false) (G : zG) (lo t0 : Nat) (h : zH) (nx : Nat) (a0 : Nat) (x1 : Int32) (o : Int32) (hM : M_L_cell h a0 x1 = some o) : z_Met l yL_cell cL_cell 2 (some .int) 0 0 G lo t0 [.ref a0, .int x1] h nx (.inr (some (.int o), h, nx)) 0 0 := by
  refine z_of [(0, .ref a0), (1, .int x1)] (by decide) (Nat.le_of_ble_eq_true rfl) rfl (fun p e s m below meth c C hin => ?_)
  unfold M_L_cell at hM
  refine z_iload_n (k := 1) (pc := 0) C dL_cell_0 rfl ?_
  refine z_aload_n (k := 0) (pc := 1) C dL_cell_1 rfl ?_
  obtain ⟨r1, g1, hM⟩ := Option.bind_eq_some_iff.mp hM
  refine z_scl (pc := 2) C g1 dL_cell_2 ?_
  refine z_icmp_ge (pc := 3) (tgt := 12) C dL_cell_3 (by decide) hM (fun hc3 hM => ?_) (fun hc3 hM => ?_)
  · refine z_ldc (v := (790386105 : Int32)) (pc := 12) C dL_cell_12 q_83 ?_
    refine z_iload_n (k := 1) (pc := 14) C dL_cell_14 rfl ?_
    refine z_iconst (v := (3 : Int32)) (pc := 15) C dL_cell_15 (by decide) ?_
    refine z_iadd (pc := 16) C dL_cell_16 ?_
    refine z_imul (pc := 17) C dL_cell_17 ?_
    cases hM
    exact z_iret (pc := 18) C rfl (Nat.zero_le _) (Nat.zero_le _) dL_cell_18
  · refine z_aload_n (k := 0) (pc := 6) C dL_cell_6 rfl ?_
    refine z_iload_n (k := 1) (pc := 7) C dL_cell_7 rfl ?_
    obtain ⟨r2, g2, hM⟩ := Option.bind_eq_some_iff.mp hM
    refine z_sci (pc := 8) C g2 dL_cell_8 ?_
    refine z_goto (pc := 9) (tgt := 18) C dL_cell_9 (by decide) ?_
    cases hM
    exact z_iret (pc := 18) C rfl (Nat.zero_le _) (Nat.zero_le _) dL_cell_18
