/-! by program out of the bytecode (wip/whole/gen.py): the mirrors, then the walks -/
noncomputable def M_X5_init (h : zH) (nx : Nat) (a0 : Nat) : Option (zH × Nat) := (z_pV (z_up h nx (zI 80 (fun _ => 0))) a0 6 2 (.ref nx)).bind fun h_1 => (z_pV (z_up h_1 (nx + 1) (zI 8 (fun _ => 0))) a0 6 4 (.ref (nx + 1))).bind fun h_2 => (z_pV (z_up h_2 ((nx + 1) + 1) (zI 8 (fun _ => 0))) a0 6 5 (.ref ((nx + 1) + 1))).bind fun h_3 => (z_pV (z_up h_3 (((nx + 1) + 1) + 1) (zI 576 (fun _ => 0))) a0 6 6 (.ref (((nx + 1) + 1) + 1))).bind fun h_4 => (z_pV (z_up h_4 ((((nx + 1) + 1) + 1) + 1) (zI 576 (fun _ => 0))) a0 6 9 (.ref ((((nx + 1) + 1) + 1) + 1))).bind fun h_5 => (z_pV (z_up h_5 (((((nx + 1) + 1) + 1) + 1) + 1) (zI 10 (fun _ => 0))) a0 6 10 (.ref (((((nx + 1) + 1) + 1) + 1) + 1))).bind fun h_6 => (some (h_6, ((((((nx + 1) + 1) + 1) + 1) + 1) + 1)))
noncomputable def M_X5_thrown (h : zH) (a0 : Nat) : Option (Int32) := (z_gI h a0 6 0).bind fun r1 => (some r1)
noncomputable def M_X5_no (h : zH) (a0 : Nat) (x1 : Int32) : Option (Int32 × zH) := (z_pV h a0 6 0 (.int x1)).bind fun h_1 => (some ((0 : Int32), h_1))
noncomputable def M_X5_isIn (x0 : Int32) (x1 : Int32) (x2 : Int32) : Option (Int32) := jn0 ((some (0 : Int32))) fun J1 => (if x0 < x1 then J1 else (if x2 < x0 then J1 else (some (1 : Int32))))
noncomputable def M_X5_isCell (x0 : Int32) (x1 : Int32) : Option (Int32) := (M_X5_isIn x0 (0 : Int32) (23 : Int32)).bind fun r1 => jn0 ((some (0 : Int32))) fun J2 => (if r1 = 0 then J2 else (M_X5_isIn x1 (0 : Int32) (23 : Int32)).bind fun r3 => (if r3 = 0 then J2 else (some (1 : Int32))))
noncomputable def M_X5_fits (x0 : Int32) (x1 : Int32) (x2 : Int32) (x3 : Int32) : Option (Int32) := (M_X5_isIn x0 (0 : Int32) ((24 : Int32) - x2)).bind fun r1 => jn0 ((some (0 : Int32))) fun J2 => (if r1 = 0 then J2 else (M_X5_isIn x1 (0 : Int32) ((24 : Int32) - x3)).bind fun r3 => (if r3 = 0 then J2 else (some (1 : Int32))))
noncomputable def M_X5_isAwning (h : zH) (a0 : Nat) (x1 : Int32) : Option (Int32) := (z_gI h a0 6 1).bind fun r1 => (M_X5_isIn x1 (0 : Int32) (r1 - (1 : Int32))).bind fun r2 => (if r2 = 0 ∨ r2 = 1 then (some r2) else none)
noncomputable def M_X5_isStall (h : zH) (a0 : Nat) (x1 : Int32) : Option (Int32) := (z_gI h a0 6 3).bind fun r1 => (M_X5_isIn x1 (0 : Int32) (r1 - (1 : Int32))).bind fun r2 => (if r2 = 0 ∨ r2 = 1 then (some r2) else none)
noncomputable def M_X5_of (h : zH) (a0 : Nat) (x1 : Int32) (x2 : Int32) : Option (Int32) := (z_gR h a0 6 2).bind fun r1 => (z_aI h r1 (((8 : Int32) * x1) + x2)).bind fun r2 => (some r2)
noncomputable def M_X5_isOut (h : zH) (a0 : Nat) (x1 : Int32) : Option (Int32) := (z_ck h a0 6).bind fun _ => (M_X5_of h a0 x1 (6 : Int32)).bind fun r2 => (if r2 = (1 : Int32) then (some (1 : Int32)) else (some (0 : Int32)))
noncomputable def M_X5_many (x0 : Int32) : Option (Int32) := wl2 (fun rec1 (x1_1 : Int32) (x2_1 : Int32) => (if x2_1 = 0 then (some x1_1) else (rec1 (x1_1 + (1 : Int32)) (x2_1 &&& (x2_1 - (1 : Int32)))))) 700 (0 : Int32) x0
noncomputable def M_X5_rows (x0 : Int32) (x1 : Int32) : Option (Int32) := (some ((((1 : Int32) <<< (x1 &&& 31)) - (1 : Int32)) <<< (x0 &&& 31)))
noncomputable def M_X5_bits (h : zH) (a0 : Nat) (x1 : Int32) (x2 : Int32) : Option (Int32) := (z_ck h a0 6).bind fun _ => (M_X5_isOut h a0 x1).bind fun r2 => jn0 ((some (0 : Int32))) fun J3 => (if r2 = 0 then J3 else (M_X5_of h a0 x1 (0 : Int32)).bind fun r4 => (M_X5_of h a0 x1 (0 : Int32)).bind fun r5 => (M_X5_of h a0 x1 (2 : Int32)).bind fun r6 => (M_X5_isIn x2 r4 ((r5 + r6) - (1 : Int32))).bind fun r7 => (if r7 = 0 then J3 else (M_X5_of h a0 x1 (1 : Int32)).bind fun r8 => (M_X5_of h a0 x1 (3 : Int32)).bind fun r9 => (M_X5_rows r8 r9).bind fun r10 => (some r10)))
noncomputable def M_X5_covered (h : zH) (a0 : Nat) (x1 : Int32) (x2 : Int32) : Option (Int32) := wl2 (fun rec1 (x3_1 : Int32) (x4_1 : Int32) => (z_gI h a0 6 1).bind fun r2 => (if r2 ≤ x4_1 then (some x3_1) else jn2 (fun (s0_3 : Int32) (s1_3 : Int32) => (rec1 (s0_3 ||| s1_3) (x4_1 + (1 : Int32)))) fun J3 => (if x4_1 = x2 then (J3 x3_1 (0 : Int32)) else (z_ck h a0 6).bind fun _ => (M_X5_bits h a0 x4_1 x1).bind fun r5 => (J3 x3_1 r5)))) 700 (0 : Int32) (0 : Int32)
noncomputable def M_X5_covered_ (h : zH) (a0 : Nat) (x1 : Int32) : Option (Int32) := (M_X5_isIn x1 (0 : Int32) (23 : Int32)).bind fun r1 => (if r1 = 0 then (some (0 : Int32)) else (z_ck h a0 6).bind fun _ => (M_X5_covered h a0 x1 (-1 : Int32)).bind fun r3 => (some r3))
noncomputable def M_X5_lying (h : zH) (a0 : Nat) (x1 : Int32) (x2 : Int32) : Option (Int32) := wl2 (fun rec1 (x3_1 : Int32) (x4_1 : Int32) => (z_gI h a0 6 1).bind fun r2 => (if r2 ≤ x4_1 then (some x3_1) else (z_ck h a0 6).bind fun _ => (M_X5_bits h a0 x4_1 x1).bind fun r4 => (rec1 (x3_1 + ((r4 >>> (x2 &&& 31)) &&& (1 : Int32))) (x4_1 + (1 : Int32))))) 700 (0 : Int32) (0 : Int32)
noncomputable def M_X5_isHigher (h : zH) (a0 : Nat) (x1 : Int32) (x2 : Int32) : Option (Int32) := (z_ck h a0 6).bind fun _ => (M_X5_of h a0 x1 (4 : Int32)).bind fun r2 => (M_X5_of h a0 x2 (4 : Int32)).bind fun r3 => jn0 ((some (1 : Int32))) fun J4 => (if r3 < r2 then J4 else (M_X5_of h a0 x1 (4 : Int32)).bind fun r5 => (M_X5_of h a0 x2 (4 : Int32)).bind fun r6 => jn0 ((some (0 : Int32))) fun J7 => (if r5 = r6 then (if x2 ≤ x1 then J7 else J4) else J7))
noncomputable def M_X5_below (h : zH) (a0 : Nat) (x1 : Int32) : Option (Int32) := wl2 (fun rec1 (x2_1 : Int32) (x3_1 : Int32) => (z_gI h a0 6 1).bind fun r2 => (if r2 ≤ x3_1 then (some x2_1) else (z_ck h a0 6).bind fun _ => (M_X5_isOut h a0 x3_1).bind fun r4 => jn1 (fun (x2_5 : Int32) => (rec1 x2_5 (x3_1 + (1 : Int32)))) fun J5 => (if r4 = 0 then (J5 x2_1) else jn0 (jn0 ((J5 x3_1)) fun J7 => (if x2_1 = (-1 : Int32) then J7 else (M_X5_isHigher h a0 x3_1 x2_1).bind fun r8 => (if r8 = 0 then (J5 x2_1) else J7))) fun J6 => (if x1 = (-1 : Int32) then J6 else (M_X5_isHigher h a0 x1 x3_1).bind fun r11 => (if r11 = 0 then (J5 x2_1) else J6))))) 700 (-1 : Int32) (0 : Int32)
noncomputable def M_X5_highest (h : zH) (a0 : Nat) (x1 : Int32) (x2 : Int32) (x3 : Int32) : Option (Int32) := (z_ck h a0 6).bind fun _ => (M_X5_below h a0 (-1 : Int32)).bind fun r2 => wl1 (fun rec3 (x4_3 : Int32) => (if x4_3 = (-1 : Int32) then (some (-1 : Int32)) else (M_X5_of h a0 x4_3 (4 : Int32)).bind fun r4 => jn0 ((M_X5_below h a0 x4_3).bind fun r6 => (rec3 r6)) fun J5 => (if x3 ≤ r4 then J5 else (M_X5_bits h a0 x4_3 x1).bind fun r7 => (if ((r7 >>> (x2 &&& 31)) &&& (1 : Int32)) = (1 : Int32) then (some x4_3) else J5)))) 700 r2
noncomputable def M_X5_fall (h : zH) (a0 : Nat) (x1 : Int32) (x2 : Int32) (x3 : Int32) (x4 : Int32) : Option (zH) := (z_ck h a0 6).bind fun _ => (M_X5_highest h a0 x1 x2 x3).bind fun r2 => (if r2 = (-1 : Int32) then (z_gR h a0 6 9).bind fun r6 => (z_aI h r6 (((24 : Int32) * x1) + x2)).bind fun r7 => (z_sI h r6 (((24 : Int32) * x1) + x2) (r7 + x4)).bind fun h_8 => (some h_8) else (z_gR h a0 6 10).bind fun r3 => (z_aI h r3 r2).bind fun r4 => (z_sI h r3 r2 (r4 + x4)).bind fun h_5 => (some h_5))
noncomputable def M_X5_drip (h : zH) (a0 : Nat) (x1 : Int32) : Option (Int32 × zH) := (z_ck h a0 6).bind fun _ => (M_X5_of h a0 x1 (5 : Int32)).bind fun r2 => jn1 (fun (s0_3 : Int32) => jn3 (fun (b0_4 : Nat) (s1_4 : Int32) (s2_4 : Int32) => (z_ck h b0_4 6).bind fun _ => (M_X5_of h b0_4 s1_4 s2_4).bind fun r6 => (M_X5_of h a0 x1 (5 : Int32)).bind fun r7 => jn1 (fun (s0_8 : Int32) => (M_X5_isIn s0_8 (0 : Int32) (23 : Int32)).bind fun r9 => (if r9 = 0 then (z_gR h a0 6 10).bind fun r32 => (z_aI h r32 x1).bind fun r33 => (some (r33, h)) else jn3 (fun (b0_10 : Nat) (s1_10 : Int32) (s2_10 : Int32) => (z_ck h b0_10 6).bind fun _ => (M_X5_of h b0_10 s1_10 s2_10).bind fun r12 => wl2 (fun rec13 (x6_13 : Int32) (h_13 : zH) => (if r6 ≤ x6_13 then (some ((0 : Int32), h_13)) else (z_gR h_13 a0 6 10).bind fun r14 => (z_aI h_13 r14 x1).bind fun r15 => (if r6 = 0 then none else (z_gR h_13 a0 6 10).bind fun r17 => (z_aI h_13 r17 x1).bind fun r18 => (if r6 = 0 then none else jn2 (fun (s0_20 : Int32) (s1_20 : Int32) => jn2 (fun (b0_21 : Nat) (s1_21 : Int32) => jn3 (fun (b0_22 : Nat) (s1_22 : Int32) (s2_22 : Int32) => (z_ck h_13 a0 6).bind fun _ => (M_X5_of h_13 a0 x1 (4 : Int32)).bind fun r24 => (z_ck h_13 b0_22 6).bind fun _ => (M_X5_fall h_13 b0_22 s1_22 s2_22 r24 (s0_20 + s1_20)).bind fun r26 => (rec13 (x6_13 + (1 : Int32)) r26)) fun J22 => (if s0_3 = 0 then (J22 b0_21 s1_21 s0_8) else (J22 b0_21 s1_21 (r12 + x6_13)))) fun J21 => (if s0_3 = 0 then (J21 a0 (r12 + x6_13)) else (J21 a0 s0_8))) fun J20 => (if (r18 - r18 / r6 * r6) ≤ x6_13 then (J20 (r15 / r6) (0 : Int32)) else (J20 (r15 / r6) (1 : Int32))))))) 700 (0 : Int32) h) fun J10 => (if s0_3 = 0 then (J10 a0 x1 (0 : Int32)) else (J10 a0 x1 (1 : Int32))))) fun J8 => (if (2 : Int32) ≤ r7 then jn3 (fun (b0_35 : Nat) (s1_35 : Int32) (s2_35 : Int32) => (z_ck h b0_35 6).bind fun _ => (M_X5_of h b0_35 s1_35 s2_35).bind fun r37 => jn4 (fun (s0_38 : Int32) (b1_38 : Nat) (s2_38 : Int32) (s3_38 : Int32) => (z_ck h b1_38 6).bind fun _ => (M_X5_of h b1_38 s2_38 s3_38).bind fun r40 => (J8 (s0_38 + r40))) fun J38 => (if s0_3 = 0 then (J38 r37 a0 x1 (3 : Int32)) else (J38 r37 a0 x1 (2 : Int32)))) fun J35 => (if s0_3 = 0 then (J35 a0 x1 (1 : Int32)) else (J35 a0 x1 (0 : Int32))) else jn3 (fun (b0_43 : Nat) (s1_43 : Int32) (s2_43 : Int32) => (z_ck h b0_43 6).bind fun _ => (M_X5_of h b0_43 s1_43 s2_43).bind fun r45 => (J8 (r45 - (1 : Int32)))) fun J43 => (if s0_3 = 0 then (J43 a0 x1 (1 : Int32)) else (J43 a0 x1 (0 : Int32))))) fun J4 => (if s0_3 = 0 then (J4 a0 x1 (2 : Int32)) else (J4 a0 x1 (3 : Int32)))) fun J3 => (if (r2 - r2 / (2 : Int32) * (2 : Int32)) = 0 then (J3 (1 : Int32)) else (J3 (0 : Int32)))
noncomputable def M_X5_pour (h : zH) (a0 : Nat) (x1 : Int32) : Option (Int32 × zH) := wl2 (fun rec1 (x2_1 : Int32) (h_1 : zH) => (if (576 : Int32) ≤ x2_1 then wl2 (fun rec2 (x2_2 : Int32) (h_2 : zH) => (if (10 : Int32) ≤ x2_2 then wl2 (fun rec3 (x2_3 : Int32) (h_3 : zH) => (if (576 : Int32) ≤ x2_3 then (z_ck h_3 a0 6).bind fun _ => (M_X5_below h_3 a0 (-1 : Int32)).bind fun r5 => wl3 (fun rec6 (x2_6 : Int32) (x3_6 : Int32) (h_6 : zH) => (if x3_6 = (-1 : Int32) then (some (x2_6, h_6)) else (z_ck h_6 a0 6).bind fun _ => (M_X5_drip h_6 a0 x3_6).bind fun r8 => (z_ck r8.2 a0 6).bind fun _ => (M_X5_below r8.2 a0 x3_6).bind fun r10 => (rec6 (x2_6 + r8.1) r10 r8.2))) 700 (0 : Int32) r5 h_3 else (z_ck h_3 a0 6).bind fun _ => (M_X5_fall h_3 a0 (x2_3 / (24 : Int32)) (x2_3 - x2_3 / (24 : Int32) * (24 : Int32)) (10 : Int32) x1).bind fun r13 => (rec3 (x2_3 + (1 : Int32)) r13))) 700 (0 : Int32) h_2 else (z_gR h_2 a0 6 10).bind fun r15 => (z_sI h_2 r15 x2_2 (0 : Int32)).bind fun h_16 => (rec2 (x2_2 + (1 : Int32)) h_16))) 700 (0 : Int32) h_1 else (z_gR h_1 a0 6 9).bind fun r18 => (z_sI h_1 r18 x2_1 (0 : Int32)).bind fun h_19 => (rec1 (x2_1 + (1 : Int32)) h_19))) 700 (0 : Int32) h
noncomputable def M_X5_hang (h : zH) (nx : Nat) (a0 : Nat) (x1 : Int32) (x2 : Int32) (x3 : Int32) (x4 : Int32) (x5 : Int32) (x6 : Int32) : Option (Int32 × zH × Nat) := (z_pV h a0 6 0 (.int (0 : Int32))).bind fun h_1 => (M_X5_isIn x3 (1 : Int32) (24 : Int32)).bind fun r2 => jn0 ((z_ck h_1 a0 6).bind fun _ => (M_X5_no h_1 a0 (1 : Int32)).bind fun r5 => (some (r5.1, r5.2, nx))) fun J3 => (if r2 = 0 then J3 else (M_X5_isIn x4 (1 : Int32) (24 : Int32)).bind fun r6 => (if r6 = 0 then J3 else (M_X5_isIn x5 (1 : Int32) (9 : Int32)).bind fun r7 => (if r7 = 0 then J3 else (M_X5_isIn x6 (0 : Int32) (3 : Int32)).bind fun r8 => (if r8 = 0 then J3 else (M_X5_fits x1 x2 x3 x4).bind fun r9 => (if r9 = 0 then (z_ck h_1 a0 6).bind fun _ => (M_X5_no h_1 a0 (2 : Int32)).bind fun r29 => (some (r29.1, r29.2, nx)) else (z_gI h_1 a0 6 1).bind fun r10 => (if r10 = (10 : Int32) then (z_ck h_1 a0 6).bind fun _ => (M_X5_no h_1 a0 (3 : Int32)).bind fun r26 => (some (r26.1, r26.2, nx)) else (z_sI (z_up h_1 nx (zI 8 (fun _ => 0))) nx (0 : Int32) x1).bind fun h_11 => (z_sI h_11 nx (1 : Int32) x2).bind fun h_12 => (z_sI h_12 nx (2 : Int32) x3).bind fun h_13 => (z_sI h_13 nx (3 : Int32) x4).bind fun h_14 => (z_sI h_14 nx (4 : Int32) x5).bind fun h_15 => (z_sI h_15 nx (5 : Int32) x6).bind fun h_16 => (z_sI h_16 nx (6 : Int32) (1 : Int32)).bind fun h_17 => (z_sI h_17 nx (7 : Int32) (0 : Int32)).bind fun h_18 => (z_gR h_18 a0 6 2).bind fun r19 => (z_gI h_18 a0 6 1).bind fun r20 => (z_cpI h_18 nx (0 : Int32) r19 ((8 : Int32) * r20) (8 : Int32)).bind fun h_21 => (z_gI h_21 a0 6 1).bind fun r22 => (z_pV h_21 a0 6 1 (.int (r22 + (1 : Int32)))).bind fun h_23 => (z_gI h_23 a0 6 1).bind fun r24 => (some ((r24 - (1 : Int32)), h_23, (nx + 1)))))))))
noncomputable def M_X5_roll (h : zH) (a0 : Nat) (x1 : Int32) : Option (Int32 × zH) := (z_ck h a0 6).bind fun _ => (M_X5_isAwning h a0 x1).bind fun r2 => jn2 (fun (b0_3 : Nat) (s1_3 : Int32) => (z_pV h b0_3 6 0 (.int s1_3)).bind fun h_4 => (z_gI h_4 a0 6 0).bind fun r5 => (if r5 = 0 then (z_gR h_4 a0 6 2).bind fun r6 => (z_ck h_4 a0 6).bind fun _ => (M_X5_of h_4 a0 x1 (6 : Int32)).bind fun r8 => (z_sI h_4 r6 (((8 : Int32) * x1) + (6 : Int32)) ((1 : Int32) - r8)).bind fun h_9 => (z_ck h_9 a0 6).bind fun _ => (M_X5_isOut h_9 a0 x1).bind fun r11 => (if r11 = 0 ∨ r11 = 1 then (some (r11, h_9)) else none) else (some ((0 : Int32), h_4)))) fun J3 => (if r2 = 0 then (J3 a0 (1 : Int32)) else (J3 a0 (0 : Int32)))
noncomputable def M_X5_out (h : zH) (a0 : Nat) : Option (Int32) := wl2 (fun rec1 (x1_1 : Int32) (x2_1 : Int32) => (z_gI h a0 6 1).bind fun r2 => (if r2 ≤ x2_1 then (some x1_1) else (z_ck h a0 6).bind fun _ => (M_X5_of h a0 x2_1 (6 : Int32)).bind fun r4 => (rec1 (x1_1 + r4) (x2_1 + (1 : Int32))))) 700 (0 : Int32) (0 : Int32)
noncomputable def M_X5_outline (h : zH) (a0 : Nat) : Option (Int32) := wl2 (fun rec1 (x1_1 : Int32) (x2_1 : Int32) => (if (24 : Int32) < x2_1 then (some x1_1) else (z_ck h a0 6).bind fun _ => (M_X5_covered_ h a0 x2_1).bind fun r3 => (M_X5_many (r3 ^^^ (r3 <<< ((1 : Int32) &&& 31)))).bind fun r4 => (M_X5_covered_ h a0 (x2_1 - (1 : Int32))).bind fun r5 => (M_X5_many (r3 ^^^ r5)).bind fun r6 => (rec1 (x1_1 + (r4 + r6)) (x2_1 + (1 : Int32))))) 700 (0 : Int32) (0 : Int32)
noncomputable def M_X5_spreads (h : zH) (a0 : Nat) (a1 : Nat) : Option (Int32 × zH) := wl3 (fun rec1 (x2_1 : Int32) (x3_1 : Int32) (h_1 : zH) => (if (24 : Int32) < x3_1 then (if x2_1 = 0 ∨ x2_1 = 1 then (some (x2_1, h_1)) else none) else (z_aI h_1 a0 x3_1).bind fun r3 => (z_aI h_1 a0 x3_1).bind fun r4 => (z_aI h_1 a0 x3_1).bind fun r5 => (z_aI h_1 a0 (x3_1 - (1 : Int32))).bind fun r6 => (z_aI h_1 a0 (x3_1 + (1 : Int32))).bind fun r7 => (z_aI h_1 a1 x3_1).bind fun r8 => (z_aI h_1 a0 x3_1).bind fun r9 => jn2 (fun (s0_10 : Int32) (s1_10 : Int32) => (z_sI h_1 a0 x3_1 (((((r3 ||| (r4 <<< ((1 : Int32) &&& 31))) ||| (r5 >>> ((1 : Int32) &&& 31))) ||| r6) ||| r7) &&& r8)).bind fun h_11 => (rec1 (s0_10 ||| s1_10) (x3_1 + (1 : Int32)) h_11)) fun J10 => (if (((((r3 ||| (r4 <<< ((1 : Int32) &&& 31))) ||| (r5 >>> ((1 : Int32) &&& 31))) ||| r6) ||| r7) &&& r8) = r9 then (J10 x2_1 (0 : Int32)) else (J10 x2_1 (1 : Int32))))) 700 (0 : Int32) (1 : Int32) h
noncomputable def M_X5_parts (h : zH) (nx : Nat) (a0 : Nat) : Option (Int32 × zH × Nat) := wl2 (fun rec1 (x3_1 : Int32) (h_1 : zH) => (if (24 : Int32) ≤ x3_1 then wl3 (fun rec2 (x3_2 : Int32) (x4_2 : Int32) (h_2 : zH) => (if (24 : Int32) < x4_2 then (some (x3_2, h_2, ((nx + 1) + 1))) else wl2 (fun rec3 (x3_3 : Int32) (h_3 : zH) => (z_aI h_3 nx x4_2).bind fun r4 => (if r4 = 0 then (rec2 x3_3 (x4_2 + (1 : Int32)) h_3) else wl2 (fun rec5 (x5_5 : Int32) (h_5 : zH) => (z_al h_5 (nx + 1)).bind fun r6 => (if r6 ≤ x5_5 then (z_aI h_5 nx x4_2).bind fun r7 => (z_aI h_5 nx x4_2).bind fun r8 => (z_sI h_5 (nx + 1) x4_2 (r7 &&& (-r8))).bind fun h_9 => wl2 (fun rec10 (x5_10 : Int32) (h_10 : zH) => (if x5_10 = 0 then wl2 (fun rec11 (x6_11 : Int32) (h_11 : zH) => (z_al h_11 (nx + 1)).bind fun r12 => (if r12 ≤ x6_11 then (rec3 (x3_3 + (1 : Int32)) h_11) else (z_aI h_11 nx x6_11).bind fun r13 => (z_aI h_11 (nx + 1) x6_11).bind fun r14 => (z_sI h_11 nx x6_11 (r13 &&& (r14 ^^^ (-1 : Int32)))).bind fun h_15 => (rec11 (x6_11 + (1 : Int32)) h_15))) 700 (0 : Int32) h_10 else (M_X5_spreads h_10 (nx + 1) nx).bind fun r17 => (rec10 r17.1 r17.2))) 700 (1 : Int32) h_9 else (z_sI h_5 (nx + 1) x5_5 (0 : Int32)).bind fun h_19 => (rec5 (x5_5 + (1 : Int32)) h_19))) 700 (0 : Int32) h_3)) 700 x3_2 h_2)) 700 (0 : Int32) (1 : Int32) h_1 else (z_ck h_1 a0 6).bind fun _ => (M_X5_covered_ h_1 a0 x3_1).bind fun r24 => (z_sI h_1 nx (x3_1 + (1 : Int32)) r24).bind fun h_25 => (rec1 (x3_1 + (1 : Int32)) h_25))) 700 (0 : Int32) (z_up (z_up h nx (zI 26 (fun _ => 0))) (nx + 1) (zI 26 (fun _ => 0)))
noncomputable def M_X5_got (h : zH) (a0 : Nat) (x1 : Int32) : Option (Int32) := (z_gR h a0 6 6).bind fun r1 => (z_gR h a0 6 4).bind fun r2 => (z_aI h r2 x1).bind fun r3 => (z_aI h r1 r3).bind fun r4 => (z_gR h a0 6 5).bind fun r5 => (z_aI h r5 x1).bind fun r6 => (some (r4 - r6))
noncomputable def M_X5_stallTold (h : zH) (a0 : Nat) (x1 : Int32) (x2 : Int32) : Option (Int32) := (if x2 = 0 then (z_gR h a0 6 4).bind fun r2 => (z_aI h r2 x1).bind fun r3 => (some (r3 / (24 : Int32))) else (if x2 = 1 then (z_gR h a0 6 4).bind fun r5 => (z_aI h r5 x1).bind fun r6 => (some (r6 - r6 / (24 : Int32) * (24 : Int32))) else (if x2 = 2 then (z_ck h a0 6).bind fun _ => (M_X5_got h a0 x1).bind fun r9 => (some r9) else (z_gR h a0 6 4).bind fun r10 => (z_aI h r10 x1).bind fun r11 => (z_gR h a0 6 4).bind fun r12 => (z_aI h r12 x1).bind fun r13 => (z_ck h a0 6).bind fun _ => (M_X5_lying h a0 (r11 / (24 : Int32)) (r13 - r13 / (24 : Int32) * (24 : Int32))).bind fun r15 => (some r15))))
noncomputable def M_X5_open (h : zH) (a0 : Nat) : Option (Int32) := wl2 (fun rec1 (x1_1 : Int32) (x2_1 : Int32) => (z_gI h a0 6 3).bind fun r2 => (if r2 ≤ x2_1 then (some x1_1) else (z_ck h a0 6).bind fun _ => (M_X5_stallTold h a0 x2_1 (3 : Int32)).bind fun r4 => jn2 (fun (s0_5 : Int32) (s1_5 : Int32) => (rec1 (s0_5 + s1_5) (x2_1 + (1 : Int32)))) fun J5 => (if r4 = 0 then (J5 x1_1 (1 : Int32)) else (J5 x1_1 (0 : Int32))))) 700 (0 : Int32) (0 : Int32)
noncomputable def M_X5_sumOf (h : zH) (a0 : Nat) (x1 : Int32) : Option (Int32) := wl2 (fun rec1 (x2_1 : Int32) (x3_1 : Int32) => (if (24 : Int32) ≤ x3_1 then (some x2_1) else jn2 (fun (s0_2 : Int32) (s1_2 : Int32) => wl2 (fun rec3 (x2_3 : Int32) (x4_3 : Int32) => (if (24 : Int32) ≤ x4_3 then (rec1 x2_3 (x3_1 + (1 : Int32))) else jn2 (fun (s0_4 : Int32) (s1_4 : Int32) => (rec3 (s0_4 + s1_4) (x4_3 + (1 : Int32)))) fun J4 => (if x1 = (6 : Int32) then (z_ck h a0 6).bind fun _ => (M_X5_lying h a0 x3_1 x4_3).bind fun r9 => (if r9 ≤ (1 : Int32) then (J4 x2_3 (0 : Int32)) else (J4 x2_3 (1 : Int32))) else (if x1 = (8 : Int32) then (z_gR h a0 6 6).bind fun r5 => (z_aI h r5 (((24 : Int32) * x3_1) + x4_3)).bind fun r6 => (J4 x2_3 r6) else (J4 x2_3 (0 : Int32)))))) 700 (s0_2 + s1_2) (0 : Int32)) fun J2 => (if x1 = (3 : Int32) then (z_ck h a0 6).bind fun _ => (M_X5_covered_ h a0 x3_1).bind fun r14 => (M_X5_many r14).bind fun r15 => (J2 x2_1 r15) else (J2 x2_1 (0 : Int32))))) 700 (0 : Int32) (0 : Int32)
noncomputable def M_X5_counted (h : zH) (nx : Nat) (a0 : Nat) (x1 : Int32) : Option (Int32 × zH × Nat) := jn0 ((z_ck h a0 6).bind fun _ => (M_X5_sumOf h a0 x1).bind fun r3 => (some (r3, h, nx))) fun J1 => (if x1 = 0 then (z_gI h a0 6 1).bind fun r5 => (some (r5, h, nx)) else (if x1 = 1 then (z_ck h a0 6).bind fun _ => (M_X5_out h a0).bind fun r8 => (some (r8, h, nx)) else (if x1 = 2 then (z_gI h a0 6 3).bind fun r10 => (some (r10, h, nx)) else (if x1 = 4 then (z_ck h a0 6).bind fun _ => (M_X5_outline h a0).bind fun r13 => (some (r13, h, nx)) else (if x1 = 5 then (z_ck h a0 6).bind fun _ => (M_X5_parts h nx a0).bind fun r16 => (some (r16.1, r16.2.1, r16.2.2)) else (if x1 = 7 then (z_gI h a0 6 7).bind fun r18 => (some (r18, h, nx)) else (if x1 = 9 then (z_gI h a0 6 8).bind fun r20 => (some (r20, h, nx)) else (if x1 = 10 then (z_ck h a0 6).bind fun _ => (M_X5_open h a0).bind fun r23 => (some (r23, h, nx)) else J1))))))))
noncomputable def M_X5_move (h : zH) (nx : Nat) (a0 : Nat) (x1 : Int32) (x2 : Int32) (x3 : Int32) : Option (Int32 × zH × Nat) := (z_pV h a0 6 0 (.int (0 : Int32))).bind fun h_1 => (z_ck h_1 a0 6).bind fun _ => (M_X5_isAwning h_1 a0 x1).bind fun r3 => jn0 ((M_X5_no h_1 a0 (1 : Int32)).bind fun r5 => (some (r5.1, r5.2, nx))) fun J4 => (if r3 = 0 then J4 else (M_X5_of h_1 a0 x1 (2 : Int32)).bind fun r6 => (M_X5_of h_1 a0 x1 (3 : Int32)).bind fun r7 => (M_X5_fits x2 x3 r6 r7).bind fun r8 => (if r8 = 0 then J4 else (z_gR h_1 a0 6 2).bind fun r9 => (z_sI h_1 r9 (((8 : Int32) * x1) + (0 : Int32)) x2).bind fun h_10 => (z_gR h_10 a0 6 2).bind fun r11 => (z_sI h_10 r11 (((8 : Int32) * x1) + (1 : Int32)) x3).bind fun h_12 => (z_ck h_12 a0 6).bind fun _ => (M_X5_counted h_12 nx a0 (3 : Int32)).bind fun r14 => (some (r14.1, r14.2.1, r14.2.2))))
noncomputable def M_X5_take (h : zH) (a0 : Nat) (x1 : Int32) : Option (Int32 × zH) := (z_pV h a0 6 0 (.int (0 : Int32))).bind fun h_1 => (z_ck h_1 a0 6).bind fun _ => (M_X5_isAwning h_1 a0 x1).bind fun r3 => (if r3 = 0 then (M_X5_no h_1 a0 (1 : Int32)).bind fun r14 => (some (r14.1, r14.2)) else (z_gI h_1 a0 6 1).bind fun r4 => (z_pV h_1 a0 6 1 (.int (r4 - (1 : Int32)))).bind fun h_5 => wl2 (fun rec6 (x2_6 : Int32) (h_6 : zH) => (z_gI h_6 a0 6 1).bind fun r7 => (if ((8 : Int32) * r7) ≤ x2_6 then (z_gI h_6 a0 6 1).bind fun r8 => (some (r8, h_6)) else (z_gR h_6 a0 6 2).bind fun r9 => (z_gR h_6 a0 6 2).bind fun r10 => (z_aI h_6 r10 (x2_6 + (8 : Int32))).bind fun r11 => (z_sI h_6 r9 x2_6 r11).bind fun h_12 => (rec6 (x2_6 + (1 : Int32)) h_12))) 700 ((8 : Int32) * x1) h_5)
noncomputable def M_X5_stall (h : zH) (a0 : Nat) (x1 : Int32) (x2 : Int32) : Option (Int32 × zH) := (z_pV h a0 6 0 (.int (0 : Int32))).bind fun h_1 => (M_X5_isCell x1 x2).bind fun r2 => (if r2 = 0 then (z_ck h_1 a0 6).bind fun _ => (M_X5_no h_1 a0 (1 : Int32)).bind fun r28 => (some (r28.1, r28.2)) else (z_gI h_1 a0 6 3).bind fun r3 => jn1 (fun (s0_4 : Int32) => wl2 (fun rec5 (x3_5 : Int32) (x4_5 : Int32) => (z_gI h_1 a0 6 3).bind fun r6 => (if r6 ≤ x4_5 then (if x3_5 = 0 then (z_ck h_1 a0 6).bind fun _ => (M_X5_no h_1 a0 (2 : Int32)).bind fun r19 => (some (r19.1, r19.2)) else (z_gR h_1 a0 6 4).bind fun r7 => (z_gI h_1 a0 6 3).bind fun r8 => (z_sI h_1 r7 r8 (((24 : Int32) * x1) + x2)).bind fun h_9 => (z_gR h_9 a0 6 5).bind fun r10 => (z_gI h_9 a0 6 3).bind fun r11 => (z_gR h_9 a0 6 6).bind fun r12 => (z_aI h_9 r12 (((24 : Int32) * x1) + x2)).bind fun r13 => (z_sI h_9 r10 r11 r13).bind fun h_14 => (z_gI h_14 a0 6 3).bind fun r15 => (z_pV h_14 a0 6 3 (.int (r15 + (1 : Int32)))).bind fun h_16 => (z_gI h_16 a0 6 3).bind fun r17 => (some ((r17 - (1 : Int32)), h_16))) else (z_gR h_1 a0 6 4).bind fun r21 => (z_aI h_1 r21 x4_5).bind fun r22 => jn2 (fun (s0_23 : Int32) (s1_23 : Int32) => (rec5 (s0_23 &&& s1_23) (x4_5 + (1 : Int32)))) fun J23 => (if r22 = (((24 : Int32) * x1) + x2) then (J23 x3_5 (0 : Int32)) else (J23 x3_5 (1 : Int32))))) 700 s0_4 (0 : Int32)) fun J4 => (if (8 : Int32) ≤ r3 then (J4 (0 : Int32)) else (J4 (1 : Int32))))
noncomputable def M_X5_rain (h : zH) (a0 : Nat) (x1 : Int32) : Option (Int32 × zH) := (z_pV h a0 6 0 (.int (0 : Int32))).bind fun h_1 => (M_X5_isIn x1 (1 : Int32) (20 : Int32)).bind fun r2 => (if r2 = 0 then (z_ck h_1 a0 6).bind fun _ => (M_X5_no h_1 a0 (1 : Int32)).bind fun r25 => (some (r25.1, r25.2)) else (z_ck h_1 a0 6).bind fun _ => (M_X5_pour h_1 a0 x1).bind fun r4 => wl2 (fun rec5 (x3_5 : Int32) (h_5 : zH) => (if (576 : Int32) ≤ x3_5 then wl2 (fun rec6 (x3_6 : Int32) (h_6 : zH) => (z_gI h_6 a0 6 1).bind fun r7 => (if r7 ≤ x3_6 then (z_gI h_6 a0 6 8).bind fun r8 => (z_pV h_6 a0 6 8 (.int (r8 + r4.1))).bind fun h_9 => (z_gI h_9 a0 6 7).bind fun r10 => (z_pV h_9 a0 6 7 (.int (r10 + (1 : Int32)))).bind fun h_11 => (some ((((576 : Int32) * x1) - r4.1), h_11)) else (z_gR h_6 a0 6 2).bind fun r12 => (z_aI h_6 r12 (((8 : Int32) * x3_6) + (7 : Int32))).bind fun r13 => (z_gR h_6 a0 6 10).bind fun r14 => (z_aI h_6 r14 x3_6).bind fun r15 => (z_sI h_6 r12 (((8 : Int32) * x3_6) + (7 : Int32)) (r13 + r15)).bind fun h_16 => (rec6 (x3_6 + (1 : Int32)) h_16))) 700 (0 : Int32) h_5 else (z_gR h_5 a0 6 6).bind fun r18 => (z_aI h_5 r18 x3_5).bind fun r19 => (z_gR h_5 a0 6 9).bind fun r20 => (z_aI h_5 r20 x3_5).bind fun r21 => (z_sI h_5 r18 x3_5 (r19 + r21)).bind fun h_22 => (rec5 (x3_5 + (1 : Int32)) h_22))) 700 (0 : Int32) r4.2)
noncomputable def M_X5_own (h : zH) (a0 : Nat) (x1 : Int32) : Option (Int32) := wl2 (fun rec1 (x2_1 : Int32) (x3_1 : Int32) => (if (24 : Int32) ≤ x3_1 then (some x2_1) else (z_ck h a0 6).bind fun _ => (M_X5_bits h a0 x1 x3_1).bind fun r3 => (M_X5_covered h a0 x3_1 x1).bind fun r4 => (M_X5_many (r3 &&& (r4 ^^^ (-1 : Int32)))).bind fun r5 => (rec1 (x2_1 + r5) (x3_1 + (1 : Int32))))) 700 (0 : Int32) (0 : Int32)
noncomputable def M_X5_awningTold (h : zH) (a0 : Nat) (x1 : Int32) (x2 : Int32) : Option (Int32) := (if (7 : Int32) ≤ x2 then (if x2 = (7 : Int32) then (z_ck h a0 6).bind fun _ => (M_X5_own h a0 x1).bind fun r4 => (some r4) else (z_ck h a0 6).bind fun _ => (M_X5_of h a0 x1 (7 : Int32)).bind fun r2 => (some r2)) else (z_ck h a0 6).bind fun _ => (M_X5_of h a0 x1 x2).bind fun r7 => (some r7))
noncomputable def M_X5_about (h : zH) (a0 : Nat) (x1 : Int32) (x2 : Int32) : Option (Int32 × zH) := (z_pV h a0 6 0 (.int (0 : Int32))).bind fun h_1 => (z_ck h_1 a0 6).bind fun _ => (M_X5_isAwning h_1 a0 x1).bind fun r3 => jn0 ((M_X5_no h_1 a0 (1 : Int32)).bind fun r5 => (some (r5.1, r5.2))) fun J4 => (if r3 = 0 then J4 else (M_X5_isIn x2 (0 : Int32) (8 : Int32)).bind fun r6 => (if r6 = 0 then J4 else (M_X5_awningTold h_1 a0 x1 x2).bind fun r7 => (some (r7, h_1))))
noncomputable def M_X5_cellTold (h : zH) (a0 : Nat) (x1 : Int32) (x2 : Int32) (x3 : Int32) : Option (Int32) := (if x3 = 0 then (z_ck h a0 6).bind fun _ => (M_X5_lying h a0 x1 x2).bind fun r7 => (some r7) else (if x3 = (1 : Int32) then (z_ck h a0 6).bind fun _ => (M_X5_highest h a0 x1 x2 (10 : Int32)).bind fun r4 => (some r4) else (z_gR h a0 6 6).bind fun r1 => (z_aI h r1 (((24 : Int32) * x1) + x2)).bind fun r2 => (some r2)))
noncomputable def M_X5_cell (h : zH) (a0 : Nat) (x1 : Int32) (x2 : Int32) (x3 : Int32) : Option (Int32 × zH) := (z_pV h a0 6 0 (.int (0 : Int32))).bind fun h_1 => (M_X5_isCell x1 x2).bind fun r2 => jn0 ((z_ck h_1 a0 6).bind fun _ => (M_X5_no h_1 a0 (1 : Int32)).bind fun r5 => (some (r5.1, r5.2))) fun J3 => (if r2 = 0 then J3 else (M_X5_isIn x3 (0 : Int32) (2 : Int32)).bind fun r6 => (if r6 = 0 then J3 else (z_ck h_1 a0 6).bind fun _ => (M_X5_cellTold h_1 a0 x1 x2 x3).bind fun r8 => (some (r8, h_1))))
noncomputable def M_X5_longest (x0 : Int32) : Option (Int32) := wl2 (fun rec1 (x1_1 : Int32) (x2_1 : Int32) => (if x2_1 = 0 then (some x1_1) else (rec1 (x1_1 + (1 : Int32)) (x2_1 &&& (x2_1 <<< ((1 : Int32) &&& 31)))))) 700 (0 : Int32) x0
noncomputable def M_X5_deepest (h : zH) (a0 : Nat) (x1 : Int32) : Option (Int32) := wl2 (fun rec1 (x2_1 : Int32) (x3_1 : Int32) => (if (24 : Int32) ≤ x3_1 then (some x2_1) else (z_ck h a0 6).bind fun _ => (M_X5_lying h a0 x1 x3_1).bind fun r3 => (rec1 (if x2_1 < r3 then r3 else x2_1) (x3_1 + (1 : Int32))))) 700 (0 : Int32) (0 : Int32)
noncomputable def M_X5_cordTold (h : zH) (a0 : Nat) (x1 : Int32) (x2 : Int32) : Option (Int32) := (z_ck h a0 6).bind fun _ => (M_X5_covered_ h a0 x1).bind fun r2 => (if x2 = 0 then (M_X5_many r2).bind fun r4 => (some r4) else (if x2 = 1 then (M_X5_many (r2 &&& ((r2 <<< ((1 : Int32) &&& 31)) ^^^ (-1 : Int32)))).bind fun r6 => (some r6) else (if x2 = 2 then (M_X5_longest r2).bind fun r8 => (some r8) else (M_X5_deepest h a0 x1).bind fun r9 => (some r9))))
noncomputable def M_X5_cord (h : zH) (a0 : Nat) (x1 : Int32) (x2 : Int32) : Option (Int32 × zH) := (z_pV h a0 6 0 (.int (0 : Int32))).bind fun h_1 => (M_X5_isIn x1 (0 : Int32) (23 : Int32)).bind fun r2 => jn0 ((z_ck h_1 a0 6).bind fun _ => (M_X5_no h_1 a0 (1 : Int32)).bind fun r5 => (some (r5.1, r5.2))) fun J3 => (if r2 = 0 then J3 else (M_X5_isIn x2 (0 : Int32) (3 : Int32)).bind fun r6 => (if r6 = 0 then J3 else (z_ck h_1 a0 6).bind fun _ => (M_X5_cordTold h_1 a0 x1 x2).bind fun r8 => (some (r8, h_1))))
noncomputable def M_X5_told (h : zH) (a0 : Nat) (x1 : Int32) (x2 : Int32) : Option (Int32 × zH) := (z_pV h a0 6 0 (.int (0 : Int32))).bind fun h_1 => (z_ck h_1 a0 6).bind fun _ => (M_X5_isStall h_1 a0 x1).bind fun r3 => jn0 ((M_X5_no h_1 a0 (1 : Int32)).bind fun r5 => (some (r5.1, r5.2))) fun J4 => (if r3 = 0 then J4 else (M_X5_isIn x2 (0 : Int32) (3 : Int32)).bind fun r6 => (if r6 = 0 then J4 else (M_X5_stallTold h_1 a0 x1 x2).bind fun r7 => (some (r7, h_1))))
noncomputable def M_X5_share (h : zH) (a0 : Nat) (x1 : Int32) (x2 : Int32) : Option (Int32 × zH) := (z_pV h a0 6 0 (.int (0 : Int32))).bind fun h_1 => (z_ck h_1 a0 6).bind fun _ => (M_X5_isAwning h_1 a0 x1).bind fun r3 => jn0 ((M_X5_no h_1 a0 (1 : Int32)).bind fun r5 => (some (r5.1, r5.2))) fun J4 => (if r3 = 0 then J4 else (M_X5_isAwning h_1 a0 x2).bind fun r6 => (if r6 = 0 then J4 else wl2 (fun rec7 (x3_7 : Int32) (x4_7 : Int32) => (if (24 : Int32) ≤ x4_7 then (some (x3_7, h_1)) else (M_X5_bits h_1 a0 x1 x4_7).bind fun r8 => (M_X5_bits h_1 a0 x2 x4_7).bind fun r9 => (M_X5_many (r8 &&& r9)).bind fun r10 => (rec7 (x3_7 + r10) (x4_7 + (1 : Int32))))) 700 (0 : Int32) (0 : Int32)))
noncomputable def M_X5_count (h : zH) (nx : Nat) (a0 : Nat) (x1 : Int32) : Option (Int32 × zH × Nat) := (z_pV h a0 6 0 (.int (0 : Int32))).bind fun h_1 => (M_X5_isIn x1 (0 : Int32) (10 : Int32)).bind fun r2 => (if r2 = 0 then (z_ck h_1 a0 6).bind fun _ => (M_X5_no h_1 a0 (1 : Int32)).bind fun r4 => (some (r4.1, r4.2, nx)) else (z_ck h_1 a0 6).bind fun _ => (M_X5_counted h_1 nx a0 x1).bind fun r6 => (some (r6.1, r6.2.1, r6.2.2)))
noncomputable def M_X5_would (h : zH) (a0 : Nat) (x1 : Int32) (x2 : Int32) : Option (Int32 × zH) := (z_pV h a0 6 0 (.int (0 : Int32))).bind fun h_1 => (z_ck h_1 a0 6).bind fun _ => (M_X5_isStall h_1 a0 x1).bind fun r3 => (if r3 = 0 then (M_X5_no h_1 a0 (1 : Int32)).bind fun r12 => (some (r12.1, r12.2)) else (M_X5_isIn x2 (1 : Int32) (20 : Int32)).bind fun r4 => (if r4 = 0 then (M_X5_no h_1 a0 (2 : Int32)).bind fun r10 => (some (r10.1, r10.2)) else (M_X5_pour h_1 a0 x2).bind fun r5 => (z_gR r5.2 a0 6 9).bind fun r6 => (z_gR r5.2 a0 6 4).bind fun r7 => (z_aI r5.2 r7 x1).bind fun r8 => (z_aI r5.2 r6 r8).bind fun r9 => (some (r9, r5.2))))
noncomputable def M_X5_best (h : zH) (nx : Nat) (a0 : Nat) (x1 : Int32) (x2 : Int32) (x3 : Int32) : Option (Int32 × zH × Nat) := (z_pV h a0 6 0 (.int (0 : Int32))).bind fun h_1 => (M_X5_isIn x1 (1 : Int32) (24 : Int32)).bind fun r2 => jn0 ((z_ck h_1 a0 6).bind fun _ => (M_X5_no h_1 a0 (1 : Int32)).bind fun r5 => (some (r5.1, r5.2, nx))) fun J3 => (if r2 = 0 then J3 else (M_X5_isIn x2 (1 : Int32) (24 : Int32)).bind fun r6 => (if r6 = 0 then J3 else (M_X5_isIn x3 (0 : Int32) (2 : Int32)).bind fun r7 => (if r7 = 0 then (z_ck h_1 a0 6).bind fun _ => (M_X5_no h_1 a0 (2 : Int32)).bind fun r33 => (some (r33.1, r33.2, nx)) else wl2 (fun rec8 (x5_8 : Int32) (h_8 : zH) => (if (24 : Int32) ≤ x5_8 then (z_sI (z_up h_8 (nx + 1) (zI 3 (fun _ => 0))) (nx + 1) (0 : Int32) (0 : Int32)).bind fun h_9 => (z_sI h_9 (nx + 1) (1 : Int32) (0 : Int32)).bind fun h_10 => (z_sI h_10 (nx + 1) (2 : Int32) (-1 : Int32)).bind fun h_11 => wl2 (fun rec12 (x6_12 : Int32) (h_12 : zH) => (if (24 : Int32) < (x6_12 + x2) then (z_aI h_12 (nx + 1) x3).bind fun r13 => (some (r13, h_12, ((nx + 1) + 1))) else wl2 (fun rec14 (x7_14 : Int32) (h_14 : zH) => (if (24 : Int32) < (x7_14 + x1) then (rec12 (x6_12 + (1 : Int32)) h_14) else wl2 (fun rec15 (x8_15 : Int32) (x9_15 : Int32) => (if (x7_14 + x1) ≤ x9_15 then (z_aI h_14 (nx + 1) (2 : Int32)).bind fun r16 => jn1 (fun (h_17 : zH) => (rec14 (x7_14 + (1 : Int32)) h_17)) fun J17 => (if r16 < x8_15 then (z_sI h_14 (nx + 1) (0 : Int32) x7_14).bind fun h_18 => (z_sI h_18 (nx + 1) (1 : Int32) x6_12).bind fun h_19 => (z_sI h_19 (nx + 1) (2 : Int32) x8_15).bind fun h_20 => (J17 h_20) else (J17 h_14)) else (z_aI h_14 nx x9_15).bind fun r22 => (M_X5_rows x6_12 x2).bind fun r23 => (M_X5_many (r22 &&& r23)).bind fun r24 => (rec15 (x8_15 + r24) (x9_15 + (1 : Int32))))) 700 (0 : Int32) x7_14)) 700 (0 : Int32) h_12)) 700 (0 : Int32) h_11 else (z_ck h_8 a0 6).bind fun _ => (M_X5_covered_ h_8 a0 x5_8).bind fun r29 => (z_sI h_8 nx x5_8 (r29 ^^^ (-1 : Int32))).bind fun h_30 => (rec8 (x5_8 + (1 : Int32)) h_30))) 700 (0 : Int32) (z_up h_1 nx (zI 24 (fun _ => 0))))))
noncomputable def M_X5_advise (h : zH) (a0 : Nat) : Option (Int32 × zH) := (z_pV h a0 6 0 (.int (0 : Int32))).bind fun h_1 => wl2 (fun rec2 (x1_2 : Int32) (x2_2 : Int32) => (z_gI h_1 a0 6 1).bind fun r3 => (if r3 ≤ x2_2 then (some (x1_2, h_1)) else (z_ck h_1 a0 6).bind fun _ => (M_X5_isOut h_1 a0 x2_2).bind fun r5 => jn1 (fun (x1_6 : Int32) => (rec2 x1_6 (x2_2 + (1 : Int32)))) fun J6 => (if r5 = 0 then (J6 x1_2) else jn0 ((J6 x2_2)) fun J7 => (if x1_2 = (-1 : Int32) then J7 else (M_X5_own h_1 a0 x2_2).bind fun r8 => (M_X5_own h_1 a0 x1_2).bind fun r9 => (if r9 ≤ r8 then (J6 x1_2) else J7))))) 700 (-1 : Int32) (0 : Int32)
noncomputable def M_X5_digest (h : zH) (nx : Nat) (a0 : Nat) : Option (Int64 × zH × Nat) := (z_pV h a0 6 0 (.int (0 : Int32))).bind fun h_1 => (z_ck h_1 a0 6).bind fun _ => (M_X5_counted h_1 nx a0 (0 : Int32)).bind fun r3 => (z_ck r3.2.1 a0 6).bind fun _ => (M_X5_counted r3.2.1 r3.2.2 a0 (1 : Int32)).bind fun r5 => (z_ck r5.2.1 a0 6).bind fun _ => (M_X5_counted r5.2.1 r5.2.2 a0 (2 : Int32)).bind fun r7 => (z_ck r7.2.1 a0 6).bind fun _ => (M_X5_counted r7.2.1 r7.2.2 a0 (3 : Int32)).bind fun r9 => (z_ck r9.2.1 a0 6).bind fun _ => (M_X5_counted r9.2.1 r9.2.2 a0 (4 : Int32)).bind fun r11 => (z_ck r11.2.1 a0 6).bind fun _ => (M_X5_counted r11.2.1 r11.2.2 a0 (5 : Int32)).bind fun r13 => (z_ck r13.2.1 a0 6).bind fun _ => (M_X5_counted r13.2.1 r13.2.2 a0 (6 : Int32)).bind fun r15 => (z_ck r15.2.1 a0 6).bind fun _ => (M_X5_counted r15.2.1 r15.2.2 a0 (7 : Int32)).bind fun r17 => (z_ck r17.2.1 a0 6).bind fun _ => (M_X5_counted r17.2.1 r17.2.2 a0 (8 : Int32)).bind fun r19 => (z_ck r19.2.1 a0 6).bind fun _ => (M_X5_counted r19.2.1 r19.2.2 a0 (9 : Int32)).bind fun r21 => (z_ck r21.2.1 a0 6).bind fun _ => (M_X5_counted r21.2.1 r21.2.2 a0 (10 : Int32)).bind fun r23 => wl2 (fun rec24 (X1_24 : Int64) (x3_24 : Int32) => (z_gI r23.2.1 a0 6 1).bind fun r25 => (if r25 ≤ x3_24 then wl2 (fun rec26 (X1_26 : Int64) (x3_26 : Int32) => (z_gI r23.2.1 a0 6 3).bind fun r27 => (if r27 ≤ x3_26 then wl2 (fun rec28 (X1_28 : Int64) (x3_28 : Int32) => (if (24 : Int32) ≤ x3_28 then (some (X1_28, r23.2.1, r23.2.2)) else wl2 (fun rec29 (X1_29 : Int64) (x4_29 : Int32) => (if (3 : Int32) < x4_29 then wl2 (fun rec30 (X1_30 : Int64) (x4_30 : Int32) => (if (24 : Int32) ≤ x4_30 then (rec28 X1_30 (x3_28 + (1 : Int32))) else wl2 (fun rec31 (X1_31 : Int64) (x5_31 : Int32) => (if (2 : Int32) < x5_31 then (rec30 X1_31 (x4_30 + (1 : Int32))) else (z_ck r23.2.1 a0 6).bind fun _ => (M_X5_cellTold r23.2.1 a0 x3_28 x4_30 x5_31).bind fun r33 => (rec31 ((X1_31 * (31 : Int64)) + r33.toInt64) (x5_31 + (1 : Int32))))) 700 X1_30 (0 : Int32))) 700 X1_29 (0 : Int32) else (z_ck r23.2.1 a0 6).bind fun _ => (M_X5_cordTold r23.2.1 a0 x3_28 x4_29).bind fun r37 => (rec29 ((X1_29 * (31 : Int64)) + r37.toInt64) (x4_29 + (1 : Int32))))) 700 X1_28 (0 : Int32))) 700 X1_26 (0 : Int32) else wl2 (fun rec40 (X1_40 : Int64) (x4_40 : Int32) => (if (3 : Int32) < x4_40 then (rec26 X1_40 (x3_26 + (1 : Int32))) else (z_ck r23.2.1 a0 6).bind fun _ => (M_X5_stallTold r23.2.1 a0 x3_26 x4_40).bind fun r42 => (rec40 ((X1_40 * (31 : Int64)) + r42.toInt64) (x4_40 + (1 : Int32))))) 700 X1_26 (0 : Int32))) 700 X1_24 (0 : Int32) else wl2 (fun rec45 (X1_45 : Int64) (x4_45 : Int32) => (if (8 : Int32) < x4_45 then (rec24 X1_45 (x3_24 + (1 : Int32))) else (z_ck r23.2.1 a0 6).bind fun _ => (M_X5_awningTold r23.2.1 a0 x3_24 x4_45).bind fun r47 => (rec45 ((X1_45 * (31 : Int64)) + r47.toInt64) (x4_45 + (1 : Int32))))) 700 X1_24 (0 : Int32))) 700 (((((((((((((((((((((((1741 : Int64) * (31 : Int64)) + ((r3.1).toInt64)) * (31 : Int64)) + ((r5.1).toInt64)) * (31 : Int64)) + ((r7.1).toInt64)) * (31 : Int64)) + ((r9.1).toInt64)) * (31 : Int64)) + ((r11.1).toInt64)) * (31 : Int64)) + ((r13.1).toInt64)) * (31 : Int64)) + ((r15.1).toInt64)) * (31 : Int64)) + ((r17.1).toInt64)) * (31 : Int64)) + ((r19.1).toInt64)) * (31 : Int64)) + ((r21.1).toInt64)) * (31 : Int64)) + ((r23.1).toInt64)) (0 : Int32)
set_option maxHeartbeats 4000000 in
set_option maxRecDepth 100000 in
theorem c_X5_init (l : Launch) (hl : l.stackTraces = false) (G : zG) (lo t0 : Nat) (h : zH) (nx : Nat) (a0 : Nat) (o : zH × Nat) (hM : M_X5_init h nx a0 = some o) : z_Met l yX5_init cX5_init 1 none 1 22 G lo t0 [.ref a0] h nx (.inr (none, o.1, o.2)) 6 1258 := by
  refine z_of [(0, .ref a0)] (by decide) (Nat.le_of_ble_eq_true rfl) rfl (fun p e s m below meth c C hin => ?_)
  unfold M_X5_init at hM
  refine z_aload_n (k := 0) (pc := 0) C dX5_init_0 rfl ?_
  refine z_obj (pc := 1) C q_68 q_11 q_12 (Nat.le_of_ble_eq_true rfl) (Nat.le_of_ble_eq_true rfl) dX5_init_1 ?_
  refine z_aload_n (k := 0) (pc := 4) C dX5_init_4 rfl ?_
  refine z_bipush (v := (80 : Int32)) (pc := 5) C dX5_init_5 (by decide) ?_
  refine z_newI (pc := 7) (n' := 80) C q_25 (by decide) (by decide) (by decide) (Nat.le_of_ble_eq_true rfl) (Nat.le_of_ble_eq_true rfl) dX5_init_7 ?_
  obtain ⟨h_1, g1, hM⟩ := Option.bind_eq_some_iff.mp hM
  refine z_putF (pc := 9) (k := 2) C g1 rfl inlX5 tyX5 tyX5_ok nmX5 (by decide) q_69 (fun _ h9 => h9) rfl hin rfl (tyX5_ok 2 (by decide)) rfl rfl dX5_init_9 ?_
  refine z_aload_n (k := 0) (pc := 12) C dX5_init_12 rfl ?_
  refine z_bipush (v := (8 : Int32)) (pc := 13) C dX5_init_13 (by decide) ?_
  refine z_newI (pc := 15) (n' := 8) C q_25 (by decide) (by decide) (by decide) (Nat.le_of_ble_eq_true rfl) (Nat.le_of_ble_eq_true rfl) dX5_init_15 ?_
  obtain ⟨h_2, g2, hM⟩ := Option.bind_eq_some_iff.mp hM
  refine z_putF (pc := 17) (k := 4) C g2 rfl inlX5 tyX5 tyX5_ok nmX5 (by decide) q_70 (fun _ h9 => h9) rfl hin rfl (tyX5_ok 4 (by decide)) rfl rfl dX5_init_17 ?_
  refine z_aload_n (k := 0) (pc := 20) C dX5_init_20 rfl ?_
  refine z_bipush (v := (8 : Int32)) (pc := 21) C dX5_init_21 (by decide) ?_
  refine z_newI (pc := 23) (n' := 8) C q_25 (by decide) (by decide) (by decide) (Nat.le_of_ble_eq_true rfl) (Nat.le_of_ble_eq_true rfl) dX5_init_23 ?_
  obtain ⟨h_3, g3, hM⟩ := Option.bind_eq_some_iff.mp hM
  refine z_putF (pc := 25) (k := 5) C g3 rfl inlX5 tyX5 tyX5_ok nmX5 (by decide) q_71 (fun _ h9 => h9) rfl hin rfl (tyX5_ok 5 (by decide)) rfl rfl dX5_init_25 ?_
  refine z_aload_n (k := 0) (pc := 28) C dX5_init_28 rfl ?_
  refine z_sipush (v := (576 : Int32)) (pc := 29) C dX5_init_29 (by decide) ?_
  refine z_newI (pc := 32) (n' := 576) C q_25 (by decide) (by decide) (by decide) (Nat.le_of_ble_eq_true rfl) (Nat.le_of_ble_eq_true rfl) dX5_init_32 ?_
  obtain ⟨h_4, g4, hM⟩ := Option.bind_eq_some_iff.mp hM
  refine z_putF (pc := 34) (k := 6) C g4 rfl inlX5 tyX5 tyX5_ok nmX5 (by decide) q_72 (fun _ h9 => h9) rfl hin rfl (tyX5_ok 6 (by decide)) rfl rfl dX5_init_34 ?_
  refine z_aload_n (k := 0) (pc := 37) C dX5_init_37 rfl ?_
  refine z_sipush (v := (576 : Int32)) (pc := 38) C dX5_init_38 (by decide) ?_
  refine z_newI (pc := 41) (n' := 576) C q_25 (by decide) (by decide) (by decide) (Nat.le_of_ble_eq_true rfl) (Nat.le_of_ble_eq_true rfl) dX5_init_41 ?_
  obtain ⟨h_5, g5, hM⟩ := Option.bind_eq_some_iff.mp hM
  refine z_putF (pc := 43) (k := 9) C g5 rfl inlX5 tyX5 tyX5_ok nmX5 (by decide) q_73 (fun _ h9 => h9) rfl hin rfl (tyX5_ok 9 (by decide)) rfl rfl dX5_init_43 ?_
  refine z_aload_n (k := 0) (pc := 46) C dX5_init_46 rfl ?_
  refine z_bipush (v := (10 : Int32)) (pc := 47) C dX5_init_47 (by decide) ?_
  refine z_newI (pc := 49) (n' := 10) C q_25 (by decide) (by decide) (by decide) (Nat.le_of_ble_eq_true rfl) (Nat.le_of_ble_eq_true rfl) dX5_init_49 ?_
  obtain ⟨h_6, g6, hM⟩ := Option.bind_eq_some_iff.mp hM
  refine z_putF (pc := 51) (k := 10) C g6 rfl inlX5 tyX5 tyX5_ok nmX5 (by decide) q_74 (fun _ h9 => h9) rfl hin rfl (tyX5_ok 10 (by decide)) rfl rfl dX5_init_51 ?_
  cases hM
  exact z_vret (pc := 54) C rfl (Nat.le_of_ble_eq_true rfl) (Nat.le_of_ble_eq_true rfl) dX5_init_54
set_option maxHeartbeats 4000000 in
set_option maxRecDepth 100000 in
theorem c_X5_thrown (l : Launch) (hl : l.stackTraces = false) (G : zG) (lo t0 : Nat) (h : zH) (nx : Nat) (a0 : Nat) (o : Int32) (hM : M_X5_thrown h a0 = some o) : z_Met l yX5_thrown cX5_thrown 1 (some .int) 0 0 G lo t0 [.ref a0] h nx (.inr (some (.int o), h, nx)) 0 0 := by
  refine z_of [(0, .ref a0)] (by decide) (Nat.le_of_ble_eq_true rfl) rfl (fun p e s m below meth c C hin => ?_)
  unfold M_X5_thrown at hM
  refine z_aload_n (k := 0) (pc := 0) C dX5_thrown_0 rfl ?_
  obtain ⟨r1, g1, hM⟩ := Option.bind_eq_some_iff.mp hM
  refine z_getI (pc := 1) (k := 0) C g1 rfl inlX5 (by decide) q_217 (fun _ h9 => h9) dX5_thrown_1 ?_
  cases hM
  exact z_iret (pc := 4) C rfl (Nat.zero_le _) (Nat.zero_le _) dX5_thrown_4
set_option maxHeartbeats 4000000 in
set_option maxRecDepth 100000 in
theorem c_X5_no (l : Launch) (hl : l.stackTraces = false) (G : zG) (lo t0 : Nat) (h : zH) (nx : Nat) (a0 : Nat) (x1 : Int32) (o : Int32 × zH) (hM : M_X5_no h a0 x1 = some o) : z_Met l yX5_no cX5_no 2 (some .int) 0 0 G lo t0 [.ref a0, .int x1] h nx (.inr (some (.int o.1), o.2, nx)) 0 0 := by
  refine z_of [(0, .ref a0), (1, .int x1)] (by decide) (Nat.le_of_ble_eq_true rfl) rfl (fun p e s m below meth c C hin => ?_)
  unfold M_X5_no at hM
  refine z_aload_n (k := 0) (pc := 0) C dX5_no_0 rfl ?_
  refine z_iload_n (k := 1) (pc := 1) C dX5_no_1 rfl ?_
  obtain ⟨h_1, g1, hM⟩ := Option.bind_eq_some_iff.mp hM
  refine z_put (pc := 2) (k := 0) C g1 rfl inlX5 tyX5 tyX5_ok nmX5 (by decide) q_217 (fun _ h9 => h9) rfl (tyX5_ok 0 (by decide)) rfl rfl dX5_no_2 ?_
  refine z_iconst (v := (0 : Int32)) (pc := 5) C dX5_no_5 (by decide) ?_
  cases hM
  exact z_iret (pc := 6) C rfl (Nat.zero_le _) (Nat.zero_le _) dX5_no_6
set_option maxHeartbeats 4000000 in
set_option maxRecDepth 100000 in
theorem c_X5_isIn (l : Launch) (hl : l.stackTraces = false) (G : zG) (lo t0 : Nat) (h : zH) (nx : Nat) (x0 : Int32) (x1 : Int32) (x2 : Int32) (o : Int32) (hM : M_X5_isIn x0 x1 x2 = some o) : z_Met l yX5_isIn cX5_isIn 3 (some .boolean) 0 0 G lo t0 [.int x0, .int x1, .int x2] h nx (.inr (some (.int o), h, nx)) 0 0 := by
  refine z_of [(0, .int x0), (1, .int x1), (2, .int x2)] (by decide) (Nat.le_of_ble_eq_true rfl) rfl (fun p e s m below meth c C hin => ?_)
  unfold M_X5_isIn at hM
  refine z_iload_n (k := 0) (pc := 0) C dX5_isIn_0 rfl ?_
  refine z_iload_n (k := 1) (pc := 1) C dX5_isIn_1 rfl ?_
  refine zj0 0 0 14 ([]) ([]) (h) (nx) hM (fun  hM => ?_) (fun J1 iJ1 hM => ?_)
  · refine z_iconst (v := (0 : Int32)) (pc := 14) C dX5_isIn_14 (by decide) ?_
    cases hM
    exact z_zret (pc := 15) C (Or.inl rfl) rfl (Nat.zero_le _) (Nat.zero_le _) dX5_isIn_15
  refine z_icmp_lt (pc := 2) (tgt := 14) C dX5_isIn_2 (by decide) hM (fun hc3 hM => ?_) (fun hc3 hM => ?_)
  · exact z_sub [] rfl (iJ1 hM)
  · refine z_iload_n (k := 0) (pc := 5) C dX5_isIn_5 rfl ?_
    refine z_iload_n (k := 2) (pc := 6) C dX5_isIn_6 rfl ?_
    refine z_icmp_gt (pc := 7) (tgt := 14) C dX5_isIn_7 (by decide) hM (fun hc2 hM => ?_) (fun hc2 hM => ?_)
    · exact z_sub [] rfl (iJ1 hM)
    · refine z_iconst (v := (1 : Int32)) (pc := 10) C dX5_isIn_10 (by decide) ?_
      refine z_goto (pc := 11) (tgt := 15) C dX5_isIn_11 (by decide) ?_
      cases hM
      exact z_zret (pc := 15) C (Or.inr rfl) rfl (Nat.zero_le _) (Nat.zero_le _) dX5_isIn_15
set_option maxHeartbeats 4000000 in
set_option maxRecDepth 100000 in
theorem c_X5_isCell (l : Launch) (hl : l.stackTraces = false) (G : zG) (lo t0 : Nat) (h : zH) (nx : Nat) (x0 : Int32) (x1 : Int32) (o : Int32) (hM : M_X5_isCell x0 x1 = some o) : z_Met l yX5_isCell cX5_isCell 2 (some .boolean) 1 22 G lo t0 [.int x0, .int x1] h nx (.inr (some (.int o), h, nx)) 0 0 := by
  refine z_of [(0, .int x0), (1, .int x1)] (by decide) (Nat.le_of_ble_eq_true rfl) rfl (fun p e s m below meth c C hin => ?_)
  unfold M_X5_isCell at hM
  refine z_iload_n (k := 0) (pc := 0) C dX5_isCell_0 rfl ?_
  refine z_iconst (v := (0 : Int32)) (pc := 1) C dX5_isCell_1 (by decide) ?_
  refine z_bipush (v := (23 : Int32)) (pc := 2) C dX5_isCell_2 (by decide) ?_
  obtain ⟨r1, g1, hM⟩ := Option.bind_eq_some_iff.mp hM
  refine z_goN (kc := 0) (ks := 0) ([.int r1]) (z_callS (pc := 4) (As := [.int x0, .int (0 : Int32), .int (23 : Int32)]) (rest := []) (n := 3) C (c_X5_isIn l hl G lo t0 h nx x0 (0 : Int32) (23 : Int32) r1 g1) q_220 q_221 q_5 q_222 ⟨by decide +kernel, by decide +kernel, by decide +kernel⟩ ⟨Nat.le_of_ble_eq_true rfl, Nat.le_of_ble_eq_true rfl⟩ rfl (Nat.le_of_ble_eq_true rfl) dX5_isCell_4 ⟨(Nat.zero_le _), (Nat.zero_le _)⟩) rfl (Nat.le_of_ble_eq_true rfl) (Nat.le_of_ble_eq_true rfl) ?_
  refine zj0 0 0 24 ([]) ([]) (h) (nx) hM (fun  hM => ?_) (fun J2 iJ2 hM => ?_)
  · refine z_iconst (v := (0 : Int32)) (pc := 24) C dX5_isCell_24 (by decide) ?_
    cases hM
    exact z_zret (pc := 25) C (Or.inl rfl) rfl (Nat.zero_le _) (Nat.zero_le _) dX5_isCell_25
  refine z_if_eq (pc := 7) (tgt := 24) C dX5_isCell_7 (by decide) hM (fun hc5 hM => ?_) (fun hc5 hM => ?_)
  · exact z_sub [] rfl (iJ2 hM)
  · refine z_iload_n (k := 1) (pc := 10) C dX5_isCell_10 rfl ?_
    refine z_iconst (v := (0 : Int32)) (pc := 11) C dX5_isCell_11 (by decide) ?_
    refine z_bipush (v := (23 : Int32)) (pc := 12) C dX5_isCell_12 (by decide) ?_
    obtain ⟨r3, g3, hM⟩ := Option.bind_eq_some_iff.mp hM
    refine z_goN (kc := 0) (ks := 0) ([.int r3]) (z_callS (pc := 14) (As := [.int x1, .int (0 : Int32), .int (23 : Int32)]) (rest := []) (n := 3) C (c_X5_isIn l hl G lo t0 h nx x1 (0 : Int32) (23 : Int32) r3 g3) q_220 q_221 q_5 q_222 ⟨by decide +kernel, by decide +kernel, by decide +kernel⟩ ⟨Nat.le_of_ble_eq_true rfl, Nat.le_of_ble_eq_true rfl⟩ rfl (Nat.le_of_ble_eq_true rfl) dX5_isCell_14 ⟨(Nat.zero_le _), (Nat.zero_le _)⟩) rfl (Nat.le_of_ble_eq_true rfl) (Nat.le_of_ble_eq_true rfl) ?_
    refine z_if_eq (pc := 17) (tgt := 24) C dX5_isCell_17 (by decide) hM (fun hc4 hM => ?_) (fun hc4 hM => ?_)
    · exact z_sub [] rfl (iJ2 hM)
    · refine z_iconst (v := (1 : Int32)) (pc := 20) C dX5_isCell_20 (by decide) ?_
      refine z_goto (pc := 21) (tgt := 25) C dX5_isCell_21 (by decide) ?_
      cases hM
      exact z_zret (pc := 25) C (Or.inr rfl) rfl (Nat.zero_le _) (Nat.zero_le _) dX5_isCell_25
set_option maxHeartbeats 4000000 in
set_option maxRecDepth 100000 in
theorem c_X5_fits (l : Launch) (hl : l.stackTraces = false) (G : zG) (lo t0 : Nat) (h : zH) (nx : Nat) (x0 : Int32) (x1 : Int32) (x2 : Int32) (x3 : Int32) (o : Int32) (hM : M_X5_fits x0 x1 x2 x3 = some o) : z_Met l yX5_fits cX5_fits 4 (some .boolean) 1 22 G lo t0 [.int x0, .int x1, .int x2, .int x3] h nx (.inr (some (.int o), h, nx)) 0 0 := by
  refine z_of [(0, .int x0), (1, .int x1), (2, .int x2), (3, .int x3)] (by decide) (Nat.le_of_ble_eq_true rfl) rfl (fun p e s m below meth c C hin => ?_)
  unfold M_X5_fits at hM
  refine z_iload_n (k := 0) (pc := 0) C dX5_fits_0 rfl ?_
  refine z_iconst (v := (0 : Int32)) (pc := 1) C dX5_fits_1 (by decide) ?_
  refine z_bipush (v := (24 : Int32)) (pc := 2) C dX5_fits_2 (by decide) ?_
  refine z_iload_n (k := 2) (pc := 4) C dX5_fits_4 rfl ?_
  refine z_isub (pc := 5) C dX5_fits_5 ?_
  obtain ⟨r1, g1, hM⟩ := Option.bind_eq_some_iff.mp hM
  refine z_goN (kc := 0) (ks := 0) ([.int r1]) (z_callS (pc := 6) (As := [.int x0, .int (0 : Int32), .int ((24 : Int32) - x2)]) (rest := []) (n := 3) C (c_X5_isIn l hl G lo t0 h nx x0 (0 : Int32) ((24 : Int32) - x2) r1 g1) q_220 q_221 q_5 q_222 ⟨by decide +kernel, by decide +kernel, by decide +kernel⟩ ⟨Nat.le_of_ble_eq_true rfl, Nat.le_of_ble_eq_true rfl⟩ rfl (Nat.le_of_ble_eq_true rfl) dX5_fits_6 ⟨(Nat.zero_le _), (Nat.zero_le _)⟩) rfl (Nat.le_of_ble_eq_true rfl) (Nat.le_of_ble_eq_true rfl) ?_
  refine zj0 0 0 28 ([]) ([]) (h) (nx) hM (fun  hM => ?_) (fun J2 iJ2 hM => ?_)
  · refine z_iconst (v := (0 : Int32)) (pc := 28) C dX5_fits_28 (by decide) ?_
    cases hM
    exact z_zret (pc := 29) C (Or.inl rfl) rfl (Nat.zero_le _) (Nat.zero_le _) dX5_fits_29
  refine z_if_eq (pc := 9) (tgt := 28) C dX5_fits_9 (by decide) hM (fun hc5 hM => ?_) (fun hc5 hM => ?_)
  · exact z_sub [] rfl (iJ2 hM)
  · refine z_iload_n (k := 1) (pc := 12) C dX5_fits_12 rfl ?_
    refine z_iconst (v := (0 : Int32)) (pc := 13) C dX5_fits_13 (by decide) ?_
    refine z_bipush (v := (24 : Int32)) (pc := 14) C dX5_fits_14 (by decide) ?_
    refine z_iload_n (k := 3) (pc := 16) C dX5_fits_16 rfl ?_
    refine z_isub (pc := 17) C dX5_fits_17 ?_
    obtain ⟨r3, g3, hM⟩ := Option.bind_eq_some_iff.mp hM
    refine z_goN (kc := 0) (ks := 0) ([.int r3]) (z_callS (pc := 18) (As := [.int x1, .int (0 : Int32), .int ((24 : Int32) - x3)]) (rest := []) (n := 3) C (c_X5_isIn l hl G lo t0 h nx x1 (0 : Int32) ((24 : Int32) - x3) r3 g3) q_220 q_221 q_5 q_222 ⟨by decide +kernel, by decide +kernel, by decide +kernel⟩ ⟨Nat.le_of_ble_eq_true rfl, Nat.le_of_ble_eq_true rfl⟩ rfl (Nat.le_of_ble_eq_true rfl) dX5_fits_18 ⟨(Nat.zero_le _), (Nat.zero_le _)⟩) rfl (Nat.le_of_ble_eq_true rfl) (Nat.le_of_ble_eq_true rfl) ?_
    refine z_if_eq (pc := 21) (tgt := 28) C dX5_fits_21 (by decide) hM (fun hc4 hM => ?_) (fun hc4 hM => ?_)
    · exact z_sub [] rfl (iJ2 hM)
    · refine z_iconst (v := (1 : Int32)) (pc := 24) C dX5_fits_24 (by decide) ?_
      refine z_goto (pc := 25) (tgt := 29) C dX5_fits_25 (by decide) ?_
      cases hM
      exact z_zret (pc := 29) C (Or.inr rfl) rfl (Nat.zero_le _) (Nat.zero_le _) dX5_fits_29
set_option maxHeartbeats 4000000 in
set_option maxRecDepth 100000 in
theorem c_X5_isAwning (l : Launch) (hl : l.stackTraces = false) (G : zG) (lo t0 : Nat) (h : zH) (nx : Nat) (a0 : Nat) (x1 : Int32) (o : Int32) (hM : M_X5_isAwning h a0 x1 = some o) : z_Met l yX5_isAwning cX5_isAwning 2 (some .boolean) 1 22 G lo t0 [.ref a0, .int x1] h nx (.inr (some (.int o), h, nx)) 0 0 := by
  refine z_of [(0, .ref a0), (1, .int x1)] (by decide) (Nat.le_of_ble_eq_true rfl) rfl (fun p e s m below meth c C hin => ?_)
  unfold M_X5_isAwning at hM
  refine z_iload_n (k := 1) (pc := 0) C dX5_isAwning_0 rfl ?_
  refine z_iconst (v := (0 : Int32)) (pc := 1) C dX5_isAwning_1 (by decide) ?_
  refine z_aload_n (k := 0) (pc := 2) C dX5_isAwning_2 rfl ?_
  obtain ⟨r1, g1, hM⟩ := Option.bind_eq_some_iff.mp hM
  refine z_getI (pc := 3) (k := 1) C g1 rfl inlX5 (by decide) q_218 (fun _ h9 => h9) dX5_isAwning_3 ?_
  refine z_iconst (v := (1 : Int32)) (pc := 6) C dX5_isAwning_6 (by decide) ?_
  refine z_isub (pc := 7) C dX5_isAwning_7 ?_
  obtain ⟨r2, g2, hM⟩ := Option.bind_eq_some_iff.mp hM
  refine z_goN (kc := 0) (ks := 0) ([.int r2]) (z_callS (pc := 8) (As := [.int x1, .int (0 : Int32), .int (r1 - (1 : Int32))]) (rest := []) (n := 3) C (c_X5_isIn l hl G lo t0 h nx x1 (0 : Int32) (r1 - (1 : Int32)) r2 g2) q_220 q_221 q_5 q_222 ⟨by decide +kernel, by decide +kernel, by decide +kernel⟩ ⟨Nat.le_of_ble_eq_true rfl, Nat.le_of_ble_eq_true rfl⟩ rfl (Nat.le_of_ble_eq_true rfl) dX5_isAwning_8 ⟨(Nat.zero_le _), (Nat.zero_le _)⟩) rfl (Nat.le_of_ble_eq_true rfl) (Nat.le_of_ble_eq_true rfl) ?_
  obtain ⟨hc3, hM⟩ := z_gy hM
  cases hM
  exact z_zret (pc := 11) C hc3 rfl (Nat.zero_le _) (Nat.zero_le _) dX5_isAwning_11
set_option maxHeartbeats 4000000 in
set_option maxRecDepth 100000 in
theorem c_X5_isStall (l : Launch) (hl : l.stackTraces = false) (G : zG) (lo t0 : Nat) (h : zH) (nx : Nat) (a0 : Nat) (x1 : Int32) (o : Int32) (hM : M_X5_isStall h a0 x1 = some o) : z_Met l yX5_isStall cX5_isStall 2 (some .boolean) 1 22 G lo t0 [.ref a0, .int x1] h nx (.inr (some (.int o), h, nx)) 0 0 := by
  refine z_of [(0, .ref a0), (1, .int x1)] (by decide) (Nat.le_of_ble_eq_true rfl) rfl (fun p e s m below meth c C hin => ?_)
  unfold M_X5_isStall at hM
  refine z_iload_n (k := 1) (pc := 0) C dX5_isStall_0 rfl ?_
  refine z_iconst (v := (0 : Int32)) (pc := 1) C dX5_isStall_1 (by decide) ?_
  refine z_aload_n (k := 0) (pc := 2) C dX5_isStall_2 rfl ?_
  obtain ⟨r1, g1, hM⟩ := Option.bind_eq_some_iff.mp hM
  refine z_getI (pc := 3) (k := 3) C g1 rfl inlX5 (by decide) q_291 (fun _ h9 => h9) dX5_isStall_3 ?_
  refine z_iconst (v := (1 : Int32)) (pc := 6) C dX5_isStall_6 (by decide) ?_
  refine z_isub (pc := 7) C dX5_isStall_7 ?_
  obtain ⟨r2, g2, hM⟩ := Option.bind_eq_some_iff.mp hM
  refine z_goN (kc := 0) (ks := 0) ([.int r2]) (z_callS (pc := 8) (As := [.int x1, .int (0 : Int32), .int (r1 - (1 : Int32))]) (rest := []) (n := 3) C (c_X5_isIn l hl G lo t0 h nx x1 (0 : Int32) (r1 - (1 : Int32)) r2 g2) q_220 q_221 q_5 q_222 ⟨by decide +kernel, by decide +kernel, by decide +kernel⟩ ⟨Nat.le_of_ble_eq_true rfl, Nat.le_of_ble_eq_true rfl⟩ rfl (Nat.le_of_ble_eq_true rfl) dX5_isStall_8 ⟨(Nat.zero_le _), (Nat.zero_le _)⟩) rfl (Nat.le_of_ble_eq_true rfl) (Nat.le_of_ble_eq_true rfl) ?_
  obtain ⟨hc3, hM⟩ := z_gy hM
  cases hM
  exact z_zret (pc := 11) C hc3 rfl (Nat.zero_le _) (Nat.zero_le _) dX5_isStall_11
set_option maxHeartbeats 4000000 in
set_option maxRecDepth 100000 in
theorem c_X5_of (l : Launch) (hl : l.stackTraces = false) (G : zG) (lo t0 : Nat) (h : zH) (nx : Nat) (a0 : Nat) (x1 : Int32) (x2 : Int32) (o : Int32) (hM : M_X5_of h a0 x1 x2 = some o) : z_Met l yX5_of cX5_of 3 (some .int) 0 0 G lo t0 [.ref a0, .int x1, .int x2] h nx (.inr (some (.int o), h, nx)) 0 0 := by
  refine z_of [(0, .ref a0), (1, .int x1), (2, .int x2)] (by decide) (Nat.le_of_ble_eq_true rfl) rfl (fun p e s m below meth c C hin => ?_)
  unfold M_X5_of at hM
  refine z_aload_n (k := 0) (pc := 0) C dX5_of_0 rfl ?_
  obtain ⟨r1, g1, hM⟩ := Option.bind_eq_some_iff.mp hM
  refine z_getR (pc := 1) (k := 2) C g1 rfl inlX5 (by decide) q_69 (fun _ h9 => h9) dX5_of_1 ?_
  refine z_bipush (v := (8 : Int32)) (pc := 4) C dX5_of_4 (by decide) ?_
  refine z_iload_n (k := 1) (pc := 6) C dX5_of_6 rfl ?_
  refine z_imul (pc := 7) C dX5_of_7 ?_
  refine z_iload_n (k := 2) (pc := 8) C dX5_of_8 rfl ?_
  refine z_iadd (pc := 9) C dX5_of_9 ?_
  obtain ⟨r2, g2, hM⟩ := Option.bind_eq_some_iff.mp hM
  refine z_iald (pc := 10) C g2 dX5_of_10 ?_
  cases hM
  exact z_iret (pc := 11) C rfl (Nat.zero_le _) (Nat.zero_le _) dX5_of_11
set_option maxHeartbeats 4000000 in
set_option maxRecDepth 100000 in
theorem c_X5_isOut (l : Launch) (hl : l.stackTraces = false) (G : zG) (lo t0 : Nat) (h : zH) (nx : Nat) (a0 : Nat) (x1 : Int32) (o : Int32) (hM : M_X5_isOut h a0 x1 = some o) : z_Met l yX5_isOut cX5_isOut 2 (some .boolean) 1 22 G lo t0 [.ref a0, .int x1] h nx (.inr (some (.int o), h, nx)) 0 0 := by
  refine z_of [(0, .ref a0), (1, .int x1)] (by decide) (Nat.le_of_ble_eq_true rfl) rfl (fun p e s m below meth c C hin => ?_)
  unfold M_X5_isOut at hM
  refine z_aload_n (k := 0) (pc := 0) C dX5_isOut_0 rfl ?_
  refine z_iload_n (k := 1) (pc := 1) C dX5_isOut_1 rfl ?_
  refine z_bipush (v := (6 : Int32)) (pc := 2) C dX5_isOut_2 (by decide) ?_
  obtain ⟨_, g1, hM⟩ := Option.bind_eq_some_iff.mp hM
  obtain ⟨r2, g2, hM⟩ := Option.bind_eq_some_iff.mp hM
  refine z_goN (kc := 0) (ks := 0) ([.int r2]) (z_callV (pc := 4) (As := [.int x1, .int (6 : Int32)]) (rest := []) (n := 2) (ci := 6) C (c_X5_of l hl G lo t0 h nx a0 x1 (6 : Int32) r2 g2) g1 rfl q_256 q_257 q_258 q_5 q_259 ⟨rfl, by decide +kernel, by decide +kernel, by decide +kernel⟩ ⟨Nat.le_of_ble_eq_true rfl, Nat.le_of_ble_eq_true rfl⟩ rfl (Nat.le_of_ble_eq_true rfl) dX5_isOut_4 ⟨(Nat.zero_le _), (Nat.zero_le _)⟩) rfl (Nat.le_of_ble_eq_true rfl) (Nat.le_of_ble_eq_true rfl) ?_
  refine z_iconst (v := (1 : Int32)) (pc := 7) C dX5_isOut_7 (by decide) ?_
  refine z_icmp_ne (pc := 8) (tgt := 15) C dX5_isOut_8 (by decide) hM (fun hc3 hM => ?_) (fun hc3 hM => ?_)
  · refine z_iconst (v := (1 : Int32)) (pc := 11) C dX5_isOut_11 (by decide) ?_
    refine z_goto (pc := 12) (tgt := 16) C dX5_isOut_12 (by decide) ?_
    cases hM
    exact z_zret (pc := 16) C (Or.inr rfl) rfl (Nat.zero_le _) (Nat.zero_le _) dX5_isOut_16
  · refine z_iconst (v := (0 : Int32)) (pc := 15) C dX5_isOut_15 (by decide) ?_
    cases hM
    exact z_zret (pc := 16) C (Or.inl rfl) rfl (Nat.zero_le _) (Nat.zero_le _) dX5_isOut_16
set_option maxHeartbeats 4000000 in
set_option maxRecDepth 100000 in
theorem c_X5_many (l : Launch) (hl : l.stackTraces = false) (G : zG) (lo t0 : Nat) (h : zH) (nx : Nat) (x0 : Int32) (o : Int32) (hM : M_X5_many x0 = some o) : z_Met l yX5_many cX5_many 3 (some .int) 0 0 G lo t0 [.int x0] h nx (.inr (some (.int o), h, nx)) 0 0 := by
  refine z_of [(0, .int x0)] (by decide) (Nat.le_of_ble_eq_true rfl) rfl (fun p e s m below meth c C hin => ?_)
  unfold M_X5_many at hM
  refine z_iconst (v := (0 : Int32)) (pc := 0) C dX5_many_0 (by decide) ?_
  refine z_istore_n (lv' := [(1, .int (0 : Int32)), (0, .int x0)]) (pc := 1) C dX5_many_1 (by decide) rfl ?_
  refine z_iload_n (k := 1) (pc := 2) C dX5_many_2 rfl ?_
  refine z_istore_n (lv' := [(2, .int x0), (1, .int (0 : Int32)), (0, .int x0)]) (pc := 3) C dX5_many_3 (by decide) rfl ?_
  refine z_sub [1, 0] rfl (zl2 (fun (x1_1 : Int32) (x2_1 : Int32) => [(1, .int x1_1), (2, .int x2_1)]) (fun (x1_1 : Int32) (x2_1 : Int32) => h) (fun (x1_1 : Int32) (x2_1 : Int32) => nx) hM (fun rec1 irec1 x1_1 x2_1 hM => ?_))
  refine z_iload_n (k := 1) (pc := 4) C dX5_many_4 rfl ?_
  refine z_if_eq (pc := 5) (tgt := 20) C dX5_many_5 (by decide) hM (fun hc2 hM => ?_) (fun hc2 hM => ?_)
  · refine z_iload_n (k := 0) (pc := 20) C dX5_many_20 rfl ?_
    cases hM
    exact z_iret (pc := 21) C rfl (Nat.zero_le _) (Nat.zero_le _) dX5_many_21
  · refine z_iinc (k := 0) (v := (x1_1 + (1 : Int32))) (lv' := [(1, .int (x1_1 + (1 : Int32))), (2, .int x2_1)]) (pc := 8) C dX5_many_8 rfl (by first | rfl | decide) (by decide) rfl ?_
    refine z_iload_n (k := 1) (pc := 11) C dX5_many_11 rfl ?_
    refine z_iload_n (k := 1) (pc := 12) C dX5_many_12 rfl ?_
    refine z_iconst (v := (1 : Int32)) (pc := 13) C dX5_many_13 (by decide) ?_
    refine z_isub (pc := 14) C dX5_many_14 ?_
    refine z_iand (pc := 15) C dX5_many_15 ?_
    refine z_istore_n (lv' := [(2, .int (x2_1 &&& (x2_1 - (1 : Int32)))), (1, .int (x1_1 + (1 : Int32)))]) (pc := 16) C dX5_many_16 (by decide) rfl ?_
    refine z_goto (pc := 17) (tgt := 4) C dX5_many_17 (by decide) ?_
    exact z_sub [1, 0] rfl (irec1 (x1_1 + (1 : Int32)) (x2_1 &&& (x2_1 - (1 : Int32))) hM)
set_option maxHeartbeats 4000000 in
set_option maxRecDepth 100000 in
theorem c_X5_rows (l : Launch) (hl : l.stackTraces = false) (G : zG) (lo t0 : Nat) (h : zH) (nx : Nat) (x0 : Int32) (x1 : Int32) (o : Int32) (hM : M_X5_rows x0 x1 = some o) : z_Met l yX5_rows cX5_rows 2 (some .int) 0 0 G lo t0 [.int x0, .int x1] h nx (.inr (some (.int o), h, nx)) 0 0 := by
  refine z_of [(0, .int x0), (1, .int x1)] (by decide) (Nat.le_of_ble_eq_true rfl) rfl (fun p e s m below meth c C hin => ?_)
  unfold M_X5_rows at hM
  refine z_iconst (v := (1 : Int32)) (pc := 0) C dX5_rows_0 (by decide) ?_
  refine z_iload_n (k := 1) (pc := 1) C dX5_rows_1 rfl ?_
  refine z_ishl (pc := 2) C dX5_rows_2 ?_
  refine z_iconst (v := (1 : Int32)) (pc := 3) C dX5_rows_3 (by decide) ?_
  refine z_isub (pc := 4) C dX5_rows_4 ?_
  refine z_iload_n (k := 0) (pc := 5) C dX5_rows_5 rfl ?_
  refine z_ishl (pc := 6) C dX5_rows_6 ?_
  cases hM
  exact z_iret (pc := 7) C rfl (Nat.zero_le _) (Nat.zero_le _) dX5_rows_7
set_option maxHeartbeats 4000000 in
set_option maxRecDepth 100000 in
theorem c_X5_bits (l : Launch) (hl : l.stackTraces = false) (G : zG) (lo t0 : Nat) (h : zH) (nx : Nat) (a0 : Nat) (x1 : Int32) (x2 : Int32) (o : Int32) (hM : M_X5_bits h a0 x1 x2 = some o) : z_Met l yX5_bits cX5_bits 3 (some .int) 2 43 G lo t0 [.ref a0, .int x1, .int x2] h nx (.inr (some (.int o), h, nx)) 0 0 := by
  refine z_of [(0, .ref a0), (1, .int x1), (2, .int x2)] (by decide) (Nat.le_of_ble_eq_true rfl) rfl (fun p e s m below meth c C hin => ?_)
  unfold M_X5_bits at hM
  refine z_aload_n (k := 0) (pc := 0) C dX5_bits_0 rfl ?_
  refine z_iload_n (k := 1) (pc := 1) C dX5_bits_1 rfl ?_
  obtain ⟨_, g1, hM⟩ := Option.bind_eq_some_iff.mp hM
  obtain ⟨r2, g2, hM⟩ := Option.bind_eq_some_iff.mp hM
  refine z_goN (kc := 0) (ks := 0) ([.int r2]) (z_callV (pc := 2) (As := [.int x1]) (rest := []) (n := 1) (ci := 6) C (c_X5_isOut l hl G lo t0 h nx a0 x1 r2 g2) g1 rfl q_260 q_261 q_262 q_5 q_263 ⟨rfl, by decide +kernel, by decide +kernel, by decide +kernel⟩ ⟨Nat.le_of_ble_eq_true rfl, Nat.le_of_ble_eq_true rfl⟩ rfl (Nat.le_of_ble_eq_true rfl) dX5_bits_2 ⟨(Nat.zero_le _), (Nat.zero_le _)⟩) rfl (Nat.le_of_ble_eq_true rfl) (Nat.le_of_ble_eq_true rfl) ?_
  refine zj0 0 0 54 ([]) ([]) (h) (nx) hM (fun  hM => ?_) (fun J3 iJ3 hM => ?_)
  · refine z_iconst (v := (0 : Int32)) (pc := 54) C dX5_bits_54 (by decide) ?_
    cases hM
    exact z_iret (pc := 55) C rfl (Nat.zero_le _) (Nat.zero_le _) dX5_bits_55
  refine z_if_eq (pc := 5) (tgt := 54) C dX5_bits_5 (by decide) hM (fun hc12 hM => ?_) (fun hc12 hM => ?_)
  · exact z_sub [] rfl (iJ3 hM)
  · refine z_iload_n (k := 2) (pc := 8) C dX5_bits_8 rfl ?_
    refine z_aload_n (k := 0) (pc := 9) C dX5_bits_9 rfl ?_
    refine z_iload_n (k := 1) (pc := 10) C dX5_bits_10 rfl ?_
    refine z_iconst (v := (0 : Int32)) (pc := 11) C dX5_bits_11 (by decide) ?_
    obtain ⟨r4, g4, hM⟩ := Option.bind_eq_some_iff.mp hM
    refine z_goN (kc := 0) (ks := 0) ([.int r4, .int x2]) (z_callV (pc := 12) (As := [.int x1, .int (0 : Int32)]) (rest := [.int x2]) (n := 2) (ci := 6) C (c_X5_of l hl G lo t0 h nx a0 x1 (0 : Int32) r4 g4) g1 rfl q_256 q_257 q_258 q_5 q_259 ⟨rfl, by decide +kernel, by decide +kernel, by decide +kernel⟩ ⟨Nat.le_of_ble_eq_true rfl, Nat.le_of_ble_eq_true rfl⟩ rfl (Nat.le_of_ble_eq_true rfl) dX5_bits_12 ⟨(Nat.zero_le _), (Nat.zero_le _)⟩) rfl (Nat.le_of_ble_eq_true rfl) (Nat.le_of_ble_eq_true rfl) ?_
    refine z_aload_n (k := 0) (pc := 15) C dX5_bits_15 rfl ?_
    refine z_iload_n (k := 1) (pc := 16) C dX5_bits_16 rfl ?_
    refine z_iconst (v := (0 : Int32)) (pc := 17) C dX5_bits_17 (by decide) ?_
    obtain ⟨r5, g5, hM⟩ := Option.bind_eq_some_iff.mp hM
    refine z_goN (kc := 0) (ks := 0) ([.int r5, .int r4, .int x2]) (z_callV (pc := 18) (As := [.int x1, .int (0 : Int32)]) (rest := [.int r4, .int x2]) (n := 2) (ci := 6) C (c_X5_of l hl G lo t0 h nx a0 x1 (0 : Int32) r5 g5) g1 rfl q_256 q_257 q_258 q_5 q_259 ⟨rfl, by decide +kernel, by decide +kernel, by decide +kernel⟩ ⟨Nat.le_of_ble_eq_true rfl, Nat.le_of_ble_eq_true rfl⟩ rfl (Nat.le_of_ble_eq_true rfl) dX5_bits_18 ⟨(Nat.zero_le _), (Nat.zero_le _)⟩) rfl (Nat.le_of_ble_eq_true rfl) (Nat.le_of_ble_eq_true rfl) ?_
    refine z_aload_n (k := 0) (pc := 21) C dX5_bits_21 rfl ?_
    refine z_iload_n (k := 1) (pc := 22) C dX5_bits_22 rfl ?_
    refine z_iconst (v := (2 : Int32)) (pc := 23) C dX5_bits_23 (by decide) ?_
    obtain ⟨r6, g6, hM⟩ := Option.bind_eq_some_iff.mp hM
    refine z_goN (kc := 0) (ks := 0) ([.int r6, .int r5, .int r4, .int x2]) (z_callV (pc := 24) (As := [.int x1, .int (2 : Int32)]) (rest := [.int r5, .int r4, .int x2]) (n := 2) (ci := 6) C (c_X5_of l hl G lo t0 h nx a0 x1 (2 : Int32) r6 g6) g1 rfl q_256 q_257 q_258 q_5 q_259 ⟨rfl, by decide +kernel, by decide +kernel, by decide +kernel⟩ ⟨Nat.le_of_ble_eq_true rfl, Nat.le_of_ble_eq_true rfl⟩ rfl (Nat.le_of_ble_eq_true rfl) dX5_bits_24 ⟨(Nat.zero_le _), (Nat.zero_le _)⟩) rfl (Nat.le_of_ble_eq_true rfl) (Nat.le_of_ble_eq_true rfl) ?_
    refine z_iadd (pc := 27) C dX5_bits_27 ?_
    refine z_iconst (v := (1 : Int32)) (pc := 28) C dX5_bits_28 (by decide) ?_
    refine z_isub (pc := 29) C dX5_bits_29 ?_
    obtain ⟨r7, g7, hM⟩ := Option.bind_eq_some_iff.mp hM
    refine z_goN (kc := 0) (ks := 0) ([.int r7]) (z_callS (pc := 30) (As := [.int x2, .int r4, .int ((r5 + r6) - (1 : Int32))]) (rest := []) (n := 3) C (c_X5_isIn l hl G lo t0 h nx x2 r4 ((r5 + r6) - (1 : Int32)) r7 g7) q_220 q_221 q_5 q_222 ⟨by decide +kernel, by decide +kernel, by decide +kernel⟩ ⟨Nat.le_of_ble_eq_true rfl, Nat.le_of_ble_eq_true rfl⟩ rfl (Nat.le_of_ble_eq_true rfl) dX5_bits_30 ⟨(Nat.zero_le _), (Nat.zero_le _)⟩) rfl (Nat.le_of_ble_eq_true rfl) (Nat.le_of_ble_eq_true rfl) ?_
    refine z_if_eq (pc := 33) (tgt := 54) C dX5_bits_33 (by decide) hM (fun hc11 hM => ?_) (fun hc11 hM => ?_)
    · exact z_sub [] rfl (iJ3 hM)
    · refine z_aload_n (k := 0) (pc := 36) C dX5_bits_36 rfl ?_
      refine z_iload_n (k := 1) (pc := 37) C dX5_bits_37 rfl ?_
      refine z_iconst (v := (1 : Int32)) (pc := 38) C dX5_bits_38 (by decide) ?_
      obtain ⟨r8, g8, hM⟩ := Option.bind_eq_some_iff.mp hM
      refine z_goN (kc := 0) (ks := 0) ([.int r8]) (z_callV (pc := 39) (As := [.int x1, .int (1 : Int32)]) (rest := []) (n := 2) (ci := 6) C (c_X5_of l hl G lo t0 h nx a0 x1 (1 : Int32) r8 g8) g1 rfl q_256 q_257 q_258 q_5 q_259 ⟨rfl, by decide +kernel, by decide +kernel, by decide +kernel⟩ ⟨Nat.le_of_ble_eq_true rfl, Nat.le_of_ble_eq_true rfl⟩ rfl (Nat.le_of_ble_eq_true rfl) dX5_bits_39 ⟨(Nat.zero_le _), (Nat.zero_le _)⟩) rfl (Nat.le_of_ble_eq_true rfl) (Nat.le_of_ble_eq_true rfl) ?_
      refine z_aload_n (k := 0) (pc := 42) C dX5_bits_42 rfl ?_
      refine z_iload_n (k := 1) (pc := 43) C dX5_bits_43 rfl ?_
      refine z_iconst (v := (3 : Int32)) (pc := 44) C dX5_bits_44 (by decide) ?_
      obtain ⟨r9, g9, hM⟩ := Option.bind_eq_some_iff.mp hM
      refine z_goN (kc := 0) (ks := 0) ([.int r9, .int r8]) (z_callV (pc := 45) (As := [.int x1, .int (3 : Int32)]) (rest := [.int r8]) (n := 2) (ci := 6) C (c_X5_of l hl G lo t0 h nx a0 x1 (3 : Int32) r9 g9) g1 rfl q_256 q_257 q_258 q_5 q_259 ⟨rfl, by decide +kernel, by decide +kernel, by decide +kernel⟩ ⟨Nat.le_of_ble_eq_true rfl, Nat.le_of_ble_eq_true rfl⟩ rfl (Nat.le_of_ble_eq_true rfl) dX5_bits_45 ⟨(Nat.zero_le _), (Nat.zero_le _)⟩) rfl (Nat.le_of_ble_eq_true rfl) (Nat.le_of_ble_eq_true rfl) ?_
      obtain ⟨r10, g10, hM⟩ := Option.bind_eq_some_iff.mp hM
      refine z_goN (kc := 0) (ks := 0) ([.int r10]) (z_callS (pc := 48) (As := [.int r8, .int r9]) (rest := []) (n := 2) C (c_X5_rows l hl G lo t0 h nx r8 r9 r10 g10) q_314 q_315 q_5 q_316 ⟨by decide +kernel, by decide +kernel, by decide +kernel⟩ ⟨Nat.le_of_ble_eq_true rfl, Nat.le_of_ble_eq_true rfl⟩ rfl (Nat.le_of_ble_eq_true rfl) dX5_bits_48 ⟨(Nat.zero_le _), (Nat.zero_le _)⟩) rfl (Nat.le_of_ble_eq_true rfl) (Nat.le_of_ble_eq_true rfl) ?_
      refine z_goto (pc := 51) (tgt := 55) C dX5_bits_51 (by decide) ?_
      cases hM
      exact z_iret (pc := 55) C rfl (Nat.zero_le _) (Nat.zero_le _) dX5_bits_55
set_option maxHeartbeats 4000000 in
set_option maxRecDepth 100000 in
theorem c_X5_covered (l : Launch) (hl : l.stackTraces = false) (G : zG) (lo t0 : Nat) (h : zH) (nx : Nat) (a0 : Nat) (x1 : Int32) (x2 : Int32) (o : Int32) (hM : M_X5_covered h a0 x1 x2 = some o) : z_Met l yX5_covered cX5_covered 5 (some .int) 3 65 G lo t0 [.ref a0, .int x1, .int x2] h nx (.inr (some (.int o), h, nx)) 0 0 := by
  refine z_of [(0, .ref a0), (1, .int x1), (2, .int x2)] (by decide) (Nat.le_of_ble_eq_true rfl) rfl (fun p e s m below meth c C hin => ?_)
  unfold M_X5_covered at hM
  refine z_iconst (v := (0 : Int32)) (pc := 0) C dX5_covered_0 (by decide) ?_
  refine z_istore_n (lv' := [(3, .int (0 : Int32)), (0, .ref a0), (1, .int x1), (2, .int x2)]) (pc := 1) C dX5_covered_1 (by decide) rfl ?_
  refine z_iconst (v := (0 : Int32)) (pc := 2) C dX5_covered_2 (by decide) ?_
  refine z_istore (lv' := [(4, .int (0 : Int32)), (3, .int (0 : Int32)), (0, .ref a0), (1, .int x1), (2, .int x2)]) (pc := 3) C dX5_covered_3 (by decide) rfl ?_
  refine z_sub [2, 3, 4, 1, 0] rfl (zl2 (fun (x3_1 : Int32) (x4_1 : Int32) => [(0, .ref a0), (1, .int x1), (2, .int x2), (3, .int x3_1), (4, .int x4_1)]) (fun (x3_1 : Int32) (x4_1 : Int32) => h) (fun (x3_1 : Int32) (x4_1 : Int32) => nx) hM (fun rec1 irec1 x3_1 x4_1 hM => ?_))
  refine z_iload (k := 4) (pc := 5) C dX5_covered_5 rfl ?_
  refine z_aload_n (k := 0) (pc := 7) C dX5_covered_7 rfl ?_
  obtain ⟨r2, g2, hM⟩ := Option.bind_eq_some_iff.mp hM
  refine z_getI (pc := 8) (k := 1) C g2 rfl inlX5 (by decide) q_218 (fun _ h9 => h9) dX5_covered_8 ?_
  refine z_icmp_ge (pc := 11) (tgt := 40) C dX5_covered_11 (by decide) hM (fun hc7 hM => ?_) (fun hc7 hM => ?_)
  · refine z_iload_n (k := 3) (pc := 40) C dX5_covered_40 rfl ?_
    cases hM
    exact z_iret (pc := 41) C rfl (Nat.zero_le _) (Nat.zero_le _) dX5_covered_41
  · refine z_iload_n (k := 3) (pc := 14) C dX5_covered_14 rfl ?_
    refine z_iload (k := 4) (pc := 15) C dX5_covered_15 rfl ?_
    refine z_iload_n (k := 2) (pc := 17) C dX5_covered_17 rfl ?_
    refine zj2 0 0 32 (fun (s0_3 : Int32) (s1_3 : Int32) => [(0, .ref a0), (1, .int x1), (2, .int x2), (4, .int x4_1)]) (fun (s0_3 : Int32) (s1_3 : Int32) => [.int s1_3, .int s0_3]) (fun (s0_3 : Int32) (s1_3 : Int32) => h) (fun (s0_3 : Int32) (s1_3 : Int32) => nx) hM (fun s0_3 s1_3 hM => ?_) (fun J3 iJ3 hM => ?_)
    · refine z_ior (pc := 32) C dX5_covered_32 ?_
      refine z_istore_n (lv' := [(3, .int (s0_3 ||| s1_3)), (0, .ref a0), (1, .int x1), (2, .int x2), (4, .int x4_1)]) (pc := 33) C dX5_covered_33 (by decide) rfl ?_
      refine z_iinc (k := 4) (v := (x4_1 + (1 : Int32))) (lv' := [(4, .int (x4_1 + (1 : Int32))), (3, .int (s0_3 ||| s1_3)), (0, .ref a0), (1, .int x1), (2, .int x2)]) (pc := 34) C dX5_covered_34 rfl (by first | rfl | decide) (by decide) rfl ?_
      refine z_goto (pc := 37) (tgt := 5) C dX5_covered_37 (by decide) ?_
      exact z_sub [2, 3, 4, 1, 0] rfl (irec1 (s0_3 ||| s1_3) (x4_1 + (1 : Int32)) hM)
    refine z_icmp_ne (pc := 18) (tgt := 25) C dX5_covered_18 (by decide) hM (fun hc6 hM => ?_) (fun hc6 hM => ?_)
    · refine z_iconst (v := (0 : Int32)) (pc := 21) C dX5_covered_21 (by decide) ?_
      refine z_goto (pc := 22) (tgt := 32) C dX5_covered_22 (by decide) ?_
      exact z_sub [0, 1, 2, 4] rfl (iJ3 x3_1 (0 : Int32) hM)
    · refine z_aload_n (k := 0) (pc := 25) C dX5_covered_25 rfl ?_
      refine z_iload (k := 4) (pc := 26) C dX5_covered_26 rfl ?_
      refine z_iload_n (k := 1) (pc := 28) C dX5_covered_28 rfl ?_
      obtain ⟨_, g4, hM⟩ := Option.bind_eq_some_iff.mp hM
      obtain ⟨r5, g5, hM⟩ := Option.bind_eq_some_iff.mp hM
      refine z_goN (kc := 0) (ks := 0) ([.int r5, .int x3_1]) (z_callV (pc := 29) (As := [.int x4_1, .int x1]) (rest := [.int x3_1]) (n := 2) (ci := 6) C (c_X5_bits l hl G lo t0 h nx a0 x4_1 x1 r5 g5) g4 rfl q_310 q_311 q_312 q_5 q_313 ⟨rfl, by decide +kernel, by decide +kernel, by decide +kernel⟩ ⟨Nat.le_of_ble_eq_true rfl, Nat.le_of_ble_eq_true rfl⟩ rfl (Nat.le_of_ble_eq_true rfl) dX5_covered_29 ⟨(Nat.zero_le _), (Nat.zero_le _)⟩) rfl (Nat.le_of_ble_eq_true rfl) (Nat.le_of_ble_eq_true rfl) ?_
      exact z_sub [0, 1, 2, 4] rfl (iJ3 x3_1 r5 hM)
set_option maxHeartbeats 4000000 in
set_option maxRecDepth 100000 in
theorem c_X5_covered_ (l : Launch) (hl : l.stackTraces = false) (G : zG) (lo t0 : Nat) (h : zH) (nx : Nat) (a0 : Nat) (x1 : Int32) (o : Int32) (hM : M_X5_covered_ h a0 x1 = some o) : z_Met l yX5_covered_ cX5_covered_ 2 (some .int) 4 89 G lo t0 [.ref a0, .int x1] h nx (.inr (some (.int o), h, nx)) 0 0 := by
  refine z_of [(0, .ref a0), (1, .int x1)] (by decide) (Nat.le_of_ble_eq_true rfl) rfl (fun p e s m below meth c C hin => ?_)
  unfold M_X5_covered_ at hM
  refine z_iload_n (k := 1) (pc := 0) C dX5_covered__0 rfl ?_
  refine z_iconst (v := (0 : Int32)) (pc := 1) C dX5_covered__1 (by decide) ?_
  refine z_bipush (v := (23 : Int32)) (pc := 2) C dX5_covered__2 (by decide) ?_
  obtain ⟨r1, g1, hM⟩ := Option.bind_eq_some_iff.mp hM
  refine z_goN (kc := 0) (ks := 0) ([.int r1]) (z_callS (pc := 4) (As := [.int x1, .int (0 : Int32), .int (23 : Int32)]) (rest := []) (n := 3) C (c_X5_isIn l hl G lo t0 h nx x1 (0 : Int32) (23 : Int32) r1 g1) q_220 q_221 q_5 q_222 ⟨by decide +kernel, by decide +kernel, by decide +kernel⟩ ⟨Nat.le_of_ble_eq_true rfl, Nat.le_of_ble_eq_true rfl⟩ rfl (Nat.le_of_ble_eq_true rfl) dX5_covered__4 ⟨(Nat.zero_le _), (Nat.zero_le _)⟩) rfl (Nat.le_of_ble_eq_true rfl) (Nat.le_of_ble_eq_true rfl) ?_
  refine z_if_eq (pc := 7) (tgt := 19) C dX5_covered__7 (by decide) hM (fun hc4 hM => ?_) (fun hc4 hM => ?_)
  · refine z_iconst (v := (0 : Int32)) (pc := 19) C dX5_covered__19 (by decide) ?_
    cases hM
    exact z_iret (pc := 20) C rfl (Nat.zero_le _) (Nat.zero_le _) dX5_covered__20
  · refine z_aload_n (k := 0) (pc := 10) C dX5_covered__10 rfl ?_
    refine z_iload_n (k := 1) (pc := 11) C dX5_covered__11 rfl ?_
    refine z_iconst (v := (-1 : Int32)) (pc := 12) C dX5_covered__12 (by decide) ?_
    obtain ⟨_, g2, hM⟩ := Option.bind_eq_some_iff.mp hM
    obtain ⟨r3, g3, hM⟩ := Option.bind_eq_some_iff.mp hM
    refine z_goN (kc := 0) (ks := 0) ([.int r3]) (z_callV (pc := 13) (As := [.int x1, .int (-1 : Int32)]) (rest := []) (n := 2) (ci := 6) C (c_X5_covered l hl G lo t0 h nx a0 x1 (-1 : Int32) r3 g3) g2 rfl q_306 q_307 q_308 q_5 q_309 ⟨rfl, by decide +kernel, by decide +kernel, by decide +kernel⟩ ⟨Nat.le_of_ble_eq_true rfl, Nat.le_of_ble_eq_true rfl⟩ rfl (Nat.le_of_ble_eq_true rfl) dX5_covered__13 ⟨(Nat.zero_le _), (Nat.zero_le _)⟩) rfl (Nat.le_of_ble_eq_true rfl) (Nat.le_of_ble_eq_true rfl) ?_
    refine z_goto (pc := 16) (tgt := 20) C dX5_covered__16 (by decide) ?_
    cases hM
    exact z_iret (pc := 20) C rfl (Nat.zero_le _) (Nat.zero_le _) dX5_covered__20
set_option maxHeartbeats 4000000 in
set_option maxRecDepth 100000 in
theorem c_X5_lying (l : Launch) (hl : l.stackTraces = false) (G : zG) (lo t0 : Nat) (h : zH) (nx : Nat) (a0 : Nat) (x1 : Int32) (x2 : Int32) (o : Int32) (hM : M_X5_lying h a0 x1 x2 = some o) : z_Met l yX5_lying cX5_lying 5 (some .int) 3 65 G lo t0 [.ref a0, .int x1, .int x2] h nx (.inr (some (.int o), h, nx)) 0 0 := by
  refine z_of [(0, .ref a0), (1, .int x1), (2, .int x2)] (by decide) (Nat.le_of_ble_eq_true rfl) rfl (fun p e s m below meth c C hin => ?_)
  unfold M_X5_lying at hM
  refine z_iconst (v := (0 : Int32)) (pc := 0) C dX5_lying_0 (by decide) ?_
  refine z_istore_n (lv' := [(3, .int (0 : Int32)), (0, .ref a0), (1, .int x1), (2, .int x2)]) (pc := 1) C dX5_lying_1 (by decide) rfl ?_
  refine z_iconst (v := (0 : Int32)) (pc := 2) C dX5_lying_2 (by decide) ?_
  refine z_istore (lv' := [(4, .int (0 : Int32)), (3, .int (0 : Int32)), (0, .ref a0), (1, .int x1), (2, .int x2)]) (pc := 3) C dX5_lying_3 (by decide) rfl ?_
  refine z_sub [2, 3, 4, 1, 0] rfl (zl2 (fun (x3_1 : Int32) (x4_1 : Int32) => [(0, .ref a0), (1, .int x1), (2, .int x2), (3, .int x3_1), (4, .int x4_1)]) (fun (x3_1 : Int32) (x4_1 : Int32) => h) (fun (x3_1 : Int32) (x4_1 : Int32) => nx) hM (fun rec1 irec1 x3_1 x4_1 hM => ?_))
  refine z_iload (k := 4) (pc := 5) C dX5_lying_5 rfl ?_
  refine z_aload_n (k := 0) (pc := 7) C dX5_lying_7 rfl ?_
  obtain ⟨r2, g2, hM⟩ := Option.bind_eq_some_iff.mp hM
  refine z_getI (pc := 8) (k := 1) C g2 rfl inlX5 (by decide) q_218 (fun _ h9 => h9) dX5_lying_8 ?_
  refine z_icmp_ge (pc := 11) (tgt := 34) C dX5_lying_11 (by decide) hM (fun hc5 hM => ?_) (fun hc5 hM => ?_)
  · refine z_iload_n (k := 3) (pc := 34) C dX5_lying_34 rfl ?_
    cases hM
    exact z_iret (pc := 35) C rfl (Nat.zero_le _) (Nat.zero_le _) dX5_lying_35
  · refine z_iload_n (k := 3) (pc := 14) C dX5_lying_14 rfl ?_
    refine z_aload_n (k := 0) (pc := 15) C dX5_lying_15 rfl ?_
    refine z_iload (k := 4) (pc := 16) C dX5_lying_16 rfl ?_
    refine z_iload_n (k := 1) (pc := 18) C dX5_lying_18 rfl ?_
    obtain ⟨_, g3, hM⟩ := Option.bind_eq_some_iff.mp hM
    obtain ⟨r4, g4, hM⟩ := Option.bind_eq_some_iff.mp hM
    refine z_goN (kc := 0) (ks := 0) ([.int r4, .int x3_1]) (z_callV (pc := 19) (As := [.int x4_1, .int x1]) (rest := [.int x3_1]) (n := 2) (ci := 6) C (c_X5_bits l hl G lo t0 h nx a0 x4_1 x1 r4 g4) g3 rfl q_310 q_311 q_312 q_5 q_313 ⟨rfl, by decide +kernel, by decide +kernel, by decide +kernel⟩ ⟨Nat.le_of_ble_eq_true rfl, Nat.le_of_ble_eq_true rfl⟩ rfl (Nat.le_of_ble_eq_true rfl) dX5_lying_19 ⟨(Nat.zero_le _), (Nat.zero_le _)⟩) rfl (Nat.le_of_ble_eq_true rfl) (Nat.le_of_ble_eq_true rfl) ?_
    refine z_iload_n (k := 2) (pc := 22) C dX5_lying_22 rfl ?_
    refine z_ishr (pc := 23) C dX5_lying_23 ?_
    refine z_iconst (v := (1 : Int32)) (pc := 24) C dX5_lying_24 (by decide) ?_
    refine z_iand (pc := 25) C dX5_lying_25 ?_
    refine z_iadd (pc := 26) C dX5_lying_26 ?_
    refine z_istore_n (lv' := [(3, .int (x3_1 + ((r4 >>> (x2 &&& 31)) &&& (1 : Int32)))), (0, .ref a0), (1, .int x1), (2, .int x2), (4, .int x4_1)]) (pc := 27) C dX5_lying_27 (by decide) rfl ?_
    refine z_iinc (k := 4) (v := (x4_1 + (1 : Int32))) (lv' := [(4, .int (x4_1 + (1 : Int32))), (3, .int (x3_1 + ((r4 >>> (x2 &&& 31)) &&& (1 : Int32)))), (0, .ref a0), (1, .int x1), (2, .int x2)]) (pc := 28) C dX5_lying_28 rfl (by first | rfl | decide) (by decide) rfl ?_
    refine z_goto (pc := 31) (tgt := 5) C dX5_lying_31 (by decide) ?_
    exact z_sub [2, 3, 4, 1, 0] rfl (irec1 (x3_1 + ((r4 >>> (x2 &&& 31)) &&& (1 : Int32))) (x4_1 + (1 : Int32)) hM)
set_option maxHeartbeats 4000000 in
set_option maxRecDepth 100000 in
theorem c_X5_isHigher (l : Launch) (hl : l.stackTraces = false) (G : zG) (lo t0 : Nat) (h : zH) (nx : Nat) (a0 : Nat) (x1 : Int32) (x2 : Int32) (o : Int32) (hM : M_X5_isHigher h a0 x1 x2 = some o) : z_Met l yX5_isHigher cX5_isHigher 3 (some .boolean) 1 22 G lo t0 [.ref a0, .int x1, .int x2] h nx (.inr (some (.int o), h, nx)) 0 0 := by
  refine z_of [(0, .ref a0), (1, .int x1), (2, .int x2)] (by decide) (Nat.le_of_ble_eq_true rfl) rfl (fun p e s m below meth c C hin => ?_)
  unfold M_X5_isHigher at hM
  refine z_aload_n (k := 0) (pc := 0) C dX5_isHigher_0 rfl ?_
  refine z_iload_n (k := 1) (pc := 1) C dX5_isHigher_1 rfl ?_
  refine z_iconst (v := (4 : Int32)) (pc := 2) C dX5_isHigher_2 (by decide) ?_
  obtain ⟨_, g1, hM⟩ := Option.bind_eq_some_iff.mp hM
  obtain ⟨r2, g2, hM⟩ := Option.bind_eq_some_iff.mp hM
  refine z_goN (kc := 0) (ks := 0) ([.int r2]) (z_callV (pc := 3) (As := [.int x1, .int (4 : Int32)]) (rest := []) (n := 2) (ci := 6) C (c_X5_of l hl G lo t0 h nx a0 x1 (4 : Int32) r2 g2) g1 rfl q_256 q_257 q_258 q_5 q_259 ⟨rfl, by decide +kernel, by decide +kernel, by decide +kernel⟩ ⟨Nat.le_of_ble_eq_true rfl, Nat.le_of_ble_eq_true rfl⟩ rfl (Nat.le_of_ble_eq_true rfl) dX5_isHigher_3 ⟨(Nat.zero_le _), (Nat.zero_le _)⟩) rfl (Nat.le_of_ble_eq_true rfl) (Nat.le_of_ble_eq_true rfl) ?_
  refine z_aload_n (k := 0) (pc := 6) C dX5_isHigher_6 rfl ?_
  refine z_iload_n (k := 2) (pc := 7) C dX5_isHigher_7 rfl ?_
  refine z_iconst (v := (4 : Int32)) (pc := 8) C dX5_isHigher_8 (by decide) ?_
  obtain ⟨r3, g3, hM⟩ := Option.bind_eq_some_iff.mp hM
  refine z_goN (kc := 0) (ks := 0) ([.int r3, .int r2]) (z_callV (pc := 9) (As := [.int x2, .int (4 : Int32)]) (rest := [.int r2]) (n := 2) (ci := 6) C (c_X5_of l hl G lo t0 h nx a0 x2 (4 : Int32) r3 g3) g1 rfl q_256 q_257 q_258 q_5 q_259 ⟨rfl, by decide +kernel, by decide +kernel, by decide +kernel⟩ ⟨Nat.le_of_ble_eq_true rfl, Nat.le_of_ble_eq_true rfl⟩ rfl (Nat.le_of_ble_eq_true rfl) dX5_isHigher_9 ⟨(Nat.zero_le _), (Nat.zero_le _)⟩) rfl (Nat.le_of_ble_eq_true rfl) (Nat.le_of_ble_eq_true rfl) ?_
  refine zj0 0 0 35 ([]) ([]) (h) (nx) hM (fun  hM => ?_) (fun J4 iJ4 hM => ?_)
  · refine z_iconst (v := (1 : Int32)) (pc := 35) C dX5_isHigher_35 (by decide) ?_
    refine z_goto (pc := 36) (tgt := 40) C dX5_isHigher_36 (by decide) ?_
    cases hM
    exact z_zret (pc := 40) C (Or.inr rfl) rfl (Nat.zero_le _) (Nat.zero_le _) dX5_isHigher_40
  refine z_icmp_gt (pc := 12) (tgt := 35) C dX5_isHigher_12 (by decide) hM (fun hc10 hM => ?_) (fun hc10 hM => ?_)
  · exact z_sub [] rfl (iJ4 hM)
  · refine z_aload_n (k := 0) (pc := 15) C dX5_isHigher_15 rfl ?_
    refine z_iload_n (k := 1) (pc := 16) C dX5_isHigher_16 rfl ?_
    refine z_iconst (v := (4 : Int32)) (pc := 17) C dX5_isHigher_17 (by decide) ?_
    obtain ⟨r5, g5, hM⟩ := Option.bind_eq_some_iff.mp hM
    refine z_goN (kc := 0) (ks := 0) ([.int r5]) (z_callV (pc := 18) (As := [.int x1, .int (4 : Int32)]) (rest := []) (n := 2) (ci := 6) C (c_X5_of l hl G lo t0 h nx a0 x1 (4 : Int32) r5 g5) g1 rfl q_256 q_257 q_258 q_5 q_259 ⟨rfl, by decide +kernel, by decide +kernel, by decide +kernel⟩ ⟨Nat.le_of_ble_eq_true rfl, Nat.le_of_ble_eq_true rfl⟩ rfl (Nat.le_of_ble_eq_true rfl) dX5_isHigher_18 ⟨(Nat.zero_le _), (Nat.zero_le _)⟩) rfl (Nat.le_of_ble_eq_true rfl) (Nat.le_of_ble_eq_true rfl) ?_
    refine z_aload_n (k := 0) (pc := 21) C dX5_isHigher_21 rfl ?_
    refine z_iload_n (k := 2) (pc := 22) C dX5_isHigher_22 rfl ?_
    refine z_iconst (v := (4 : Int32)) (pc := 23) C dX5_isHigher_23 (by decide) ?_
    obtain ⟨r6, g6, hM⟩ := Option.bind_eq_some_iff.mp hM
    refine z_goN (kc := 0) (ks := 0) ([.int r6, .int r5]) (z_callV (pc := 24) (As := [.int x2, .int (4 : Int32)]) (rest := [.int r5]) (n := 2) (ci := 6) C (c_X5_of l hl G lo t0 h nx a0 x2 (4 : Int32) r6 g6) g1 rfl q_256 q_257 q_258 q_5 q_259 ⟨rfl, by decide +kernel, by decide +kernel, by decide +kernel⟩ ⟨Nat.le_of_ble_eq_true rfl, Nat.le_of_ble_eq_true rfl⟩ rfl (Nat.le_of_ble_eq_true rfl) dX5_isHigher_24 ⟨(Nat.zero_le _), (Nat.zero_le _)⟩) rfl (Nat.le_of_ble_eq_true rfl) (Nat.le_of_ble_eq_true rfl) ?_
    refine zj0 0 0 39 ([]) ([]) (h) (nx) hM (fun  hM => ?_) (fun J7 iJ7 hM => ?_)
    · refine z_iconst (v := (0 : Int32)) (pc := 39) C dX5_isHigher_39 (by decide) ?_
      cases hM
      exact z_zret (pc := 40) C (Or.inl rfl) rfl (Nat.zero_le _) (Nat.zero_le _) dX5_isHigher_40
    refine z_icmp_ne (pc := 27) (tgt := 39) C dX5_isHigher_27 (by decide) hM (fun hc9 hM => ?_) (fun hc9 hM => ?_)
    · refine z_iload_n (k := 1) (pc := 30) C dX5_isHigher_30 rfl ?_
      refine z_iload_n (k := 2) (pc := 31) C dX5_isHigher_31 rfl ?_
      refine z_icmp_ge (pc := 32) (tgt := 39) C dX5_isHigher_32 (by decide) hM (fun hc8 hM => ?_) (fun hc8 hM => ?_)
      · exact z_sub [] rfl (iJ7 hM)
      · exact z_sub [] rfl (iJ4 hM)
    · exact z_sub [] rfl (iJ7 hM)
set_option maxHeartbeats 4000000 in
set_option maxRecDepth 100000 in
theorem c_X5_below (l : Launch) (hl : l.stackTraces = false) (G : zG) (lo t0 : Nat) (h : zH) (nx : Nat) (a0 : Nat) (x1 : Int32) (o : Int32) (hM : M_X5_below h a0 x1 = some o) : z_Met l yX5_below cX5_below 4 (some .int) 2 44 G lo t0 [.ref a0, .int x1] h nx (.inr (some (.int o), h, nx)) 0 0 := by
  refine z_of [(0, .ref a0), (1, .int x1)] (by decide) (Nat.le_of_ble_eq_true rfl) rfl (fun p e s m below meth c C hin => ?_)
  unfold M_X5_below at hM
  refine z_iconst (v := (-1 : Int32)) (pc := 0) C dX5_below_0 (by decide) ?_
  refine z_istore_n (lv' := [(2, .int (-1 : Int32)), (0, .ref a0), (1, .int x1)]) (pc := 1) C dX5_below_1 (by decide) rfl ?_
  refine z_iconst (v := (0 : Int32)) (pc := 2) C dX5_below_2 (by decide) ?_
  refine z_istore_n (lv' := [(3, .int (0 : Int32)), (2, .int (-1 : Int32)), (0, .ref a0), (1, .int x1)]) (pc := 3) C dX5_below_3 (by decide) rfl ?_
  refine z_sub [2, 3, 1, 0] rfl (zl2 (fun (x2_1 : Int32) (x3_1 : Int32) => [(0, .ref a0), (1, .int x1), (2, .int x2_1), (3, .int x3_1)]) (fun (x2_1 : Int32) (x3_1 : Int32) => h) (fun (x2_1 : Int32) (x3_1 : Int32) => nx) hM (fun rec1 irec1 x2_1 x3_1 hM => ?_))
  refine z_iload_n (k := 3) (pc := 4) C dX5_below_4 rfl ?_
  refine z_aload_n (k := 0) (pc := 5) C dX5_below_5 rfl ?_
  obtain ⟨r2, g2, hM⟩ := Option.bind_eq_some_iff.mp hM
  refine z_getI (pc := 6) (k := 1) C g2 rfl inlX5 (by decide) q_218 (fun _ h9 => h9) dX5_below_6 ?_
  refine z_icmp_ge (pc := 9) (tgt := 56) C dX5_below_9 (by decide) hM (fun hc15 hM => ?_) (fun hc15 hM => ?_)
  · refine z_iload_n (k := 2) (pc := 56) C dX5_below_56 rfl ?_
    cases hM
    exact z_iret (pc := 57) C rfl (Nat.zero_le _) (Nat.zero_le _) dX5_below_57
  · refine z_aload_n (k := 0) (pc := 12) C dX5_below_12 rfl ?_
    refine z_iload_n (k := 3) (pc := 13) C dX5_below_13 rfl ?_
    obtain ⟨_, g3, hM⟩ := Option.bind_eq_some_iff.mp hM
    obtain ⟨r4, g4, hM⟩ := Option.bind_eq_some_iff.mp hM
    refine z_goN (kc := 0) (ks := 0) ([.int r4]) (z_callV (pc := 14) (As := [.int x3_1]) (rest := []) (n := 1) (ci := 6) C (c_X5_isOut l hl G lo t0 h nx a0 x3_1 r4 g4) g3 rfl q_260 q_261 q_262 q_5 q_263 ⟨rfl, by decide +kernel, by decide +kernel, by decide +kernel⟩ ⟨Nat.le_of_ble_eq_true rfl, Nat.le_of_ble_eq_true rfl⟩ rfl (Nat.le_of_ble_eq_true rfl) dX5_below_14 ⟨(Nat.zero_le _), (Nat.zero_le _)⟩) rfl (Nat.le_of_ble_eq_true rfl) (Nat.le_of_ble_eq_true rfl) ?_
    refine zj1 0 0 50 (fun (x2_5 : Int32) => [(0, .ref a0), (1, .int x1), (2, .int x2_5), (3, .int x3_1)]) (fun (x2_5 : Int32) => []) (fun (x2_5 : Int32) => h) (fun (x2_5 : Int32) => nx) hM (fun x2_5 hM => ?_) (fun J5 iJ5 hM => ?_)
    · refine z_iinc (k := 3) (v := (x3_1 + (1 : Int32))) (lv' := [(3, .int (x3_1 + (1 : Int32))), (0, .ref a0), (1, .int x1), (2, .int x2_5)]) (pc := 50) C dX5_below_50 rfl (by first | rfl | decide) (by decide) rfl ?_
      refine z_goto (pc := 53) (tgt := 4) C dX5_below_53 (by decide) ?_
      exact z_sub [1, 2, 3, 0] rfl (irec1 x2_5 (x3_1 + (1 : Int32)) hM)
    refine z_if_eq (pc := 17) (tgt := 50) C dX5_below_17 (by decide) hM (fun hc14 hM => ?_) (fun hc14 hM => ?_)
    · exact z_sub [0, 1, 2, 3] rfl (iJ5 x2_1 hM)
    · refine z_iload_n (k := 1) (pc := 20) C dX5_below_20 rfl ?_
      refine z_iconst (v := (-1 : Int32)) (pc := 21) C dX5_below_21 (by decide) ?_
      refine zj0 0 0 34 ([(0, .ref a0), (1, .int x1), (2, .int x2_1), (3, .int x3_1)]) ([]) (h) (nx) hM (fun  hM => ?_) (fun J6 iJ6 hM => ?_)
      · refine z_iload_n (k := 2) (pc := 34) C dX5_below_34 rfl ?_
        refine z_iconst (v := (-1 : Int32)) (pc := 35) C dX5_below_35 (by decide) ?_
        refine zj0 0 0 48 ([(0, .ref a0), (1, .int x1), (3, .int x3_1)]) ([]) (h) (nx) hM (fun  hM => ?_) (fun J7 iJ7 hM => ?_)
        · refine z_iload_n (k := 2) (pc := 48) C dX5_below_48 rfl ?_
          refine z_istore_n (lv' := [(2, .int x3_1), (0, .ref a0), (1, .int x1), (3, .int x3_1)]) (pc := 49) C dX5_below_49 (by decide) rfl ?_
          exact z_sub [1, 2, 0, 3] rfl (iJ5 x3_1 hM)
        refine z_icmp_eq (pc := 36) (tgt := 48) C dX5_below_36 (by decide) hM (fun hc10 hM => ?_) (fun hc10 hM => ?_)
        · exact z_sub [0, 1, 3] rfl (iJ7 hM)
        · refine z_aload_n (k := 0) (pc := 39) C dX5_below_39 rfl ?_
          refine z_iload_n (k := 3) (pc := 40) C dX5_below_40 rfl ?_
          refine z_iload_n (k := 2) (pc := 41) C dX5_below_41 rfl ?_
          obtain ⟨r8, g8, hM⟩ := Option.bind_eq_some_iff.mp hM
          refine z_goN (kc := 0) (ks := 0) ([.int r8]) (z_callV (pc := 42) (As := [.int x3_1, .int x2_1]) (rest := []) (n := 2) (ci := 6) C (c_X5_isHigher l hl G lo t0 h nx a0 x3_1 x2_1 r8 g8) g3 rfl q_505 q_506 q_507 q_5 q_508 ⟨rfl, by decide +kernel, by decide +kernel, by decide +kernel⟩ ⟨Nat.le_of_ble_eq_true rfl, Nat.le_of_ble_eq_true rfl⟩ rfl (Nat.le_of_ble_eq_true rfl) dX5_below_42 ⟨(Nat.zero_le _), (Nat.zero_le _)⟩) rfl (Nat.le_of_ble_eq_true rfl) (Nat.le_of_ble_eq_true rfl) ?_
          refine z_if_eq (pc := 45) (tgt := 50) C dX5_below_45 (by decide) hM (fun hc9 hM => ?_) (fun hc9 hM => ?_)
          · exact z_sub [0, 1, 2, 3] rfl (iJ5 x2_1 hM)
          · exact z_sub [0, 1, 3] rfl (iJ7 hM)
      refine z_icmp_eq (pc := 22) (tgt := 34) C dX5_below_22 (by decide) hM (fun hc13 hM => ?_) (fun hc13 hM => ?_)
      · exact z_sub [0, 1, 2, 3] rfl (iJ6 hM)
      · refine z_aload_n (k := 0) (pc := 25) C dX5_below_25 rfl ?_
        refine z_iload_n (k := 1) (pc := 26) C dX5_below_26 rfl ?_
        refine z_iload_n (k := 3) (pc := 27) C dX5_below_27 rfl ?_
        obtain ⟨r11, g11, hM⟩ := Option.bind_eq_some_iff.mp hM
        refine z_goN (kc := 0) (ks := 0) ([.int r11]) (z_callV (pc := 28) (As := [.int x1, .int x3_1]) (rest := []) (n := 2) (ci := 6) C (c_X5_isHigher l hl G lo t0 h nx a0 x1 x3_1 r11 g11) g3 rfl q_505 q_506 q_507 q_5 q_508 ⟨rfl, by decide +kernel, by decide +kernel, by decide +kernel⟩ ⟨Nat.le_of_ble_eq_true rfl, Nat.le_of_ble_eq_true rfl⟩ rfl (Nat.le_of_ble_eq_true rfl) dX5_below_28 ⟨(Nat.zero_le _), (Nat.zero_le _)⟩) rfl (Nat.le_of_ble_eq_true rfl) (Nat.le_of_ble_eq_true rfl) ?_
        refine z_if_eq (pc := 31) (tgt := 50) C dX5_below_31 (by decide) hM (fun hc12 hM => ?_) (fun hc12 hM => ?_)
        · exact z_sub [0, 1, 2, 3] rfl (iJ5 x2_1 hM)
        · exact z_sub [0, 1, 2, 3] rfl (iJ6 hM)
set_option maxHeartbeats 4000000 in
set_option maxRecDepth 100000 in
theorem c_X5_highest (l : Launch) (hl : l.stackTraces = false) (G : zG) (lo t0 : Nat) (h : zH) (nx : Nat) (a0 : Nat) (x1 : Int32) (x2 : Int32) (x3 : Int32) (o : Int32) (hM : M_X5_highest h a0 x1 x2 x3 = some o) : z_Met l yX5_highest cX5_highest 5 (some .int) 3 67 G lo t0 [.ref a0, .int x1, .int x2, .int x3] h nx (.inr (some (.int o), h, nx)) 0 0 := by
  refine z_of [(0, .ref a0), (1, .int x1), (2, .int x2), (3, .int x3)] (by decide) (Nat.le_of_ble_eq_true rfl) rfl (fun p e s m below meth c C hin => ?_)
  unfold M_X5_highest at hM
  refine z_aload_n (k := 0) (pc := 0) C dX5_highest_0 rfl ?_
  refine z_iconst (v := (-1 : Int32)) (pc := 1) C dX5_highest_1 (by decide) ?_
  obtain ⟨_, g1, hM⟩ := Option.bind_eq_some_iff.mp hM
  obtain ⟨r2, g2, hM⟩ := Option.bind_eq_some_iff.mp hM
  refine z_goN (kc := 0) (ks := 0) ([.int r2]) (z_callV (pc := 2) (As := [.int (-1 : Int32)]) (rest := []) (n := 1) (ci := 6) C (c_X5_below l hl G lo t0 h nx a0 (-1 : Int32) r2 g2) g1 rfl q_501 q_502 q_503 q_5 q_504 ⟨rfl, by decide +kernel, by decide +kernel, by decide +kernel⟩ ⟨Nat.le_of_ble_eq_true rfl, Nat.le_of_ble_eq_true rfl⟩ rfl (Nat.le_of_ble_eq_true rfl) dX5_highest_2 ⟨(Nat.zero_le _), (Nat.zero_le _)⟩) rfl (Nat.le_of_ble_eq_true rfl) (Nat.le_of_ble_eq_true rfl) ?_
  refine z_istore (lv' := [(4, .int r2), (0, .ref a0), (1, .int x1), (2, .int x2), (3, .int x3)]) (pc := 5) C dX5_highest_5 (by decide) rfl ?_
  refine z_sub [1, 2, 3, 4, 0] rfl (zl1 (fun (x4_3 : Int32) => [(0, .ref a0), (1, .int x1), (2, .int x2), (3, .int x3), (4, .int x4_3)]) (fun (x4_3 : Int32) => h) (fun (x4_3 : Int32) => nx) hM (fun rec3 irec3 x4_3 hM => ?_))
  refine z_iload (k := 4) (pc := 7) C dX5_highest_7 rfl ?_
  refine z_iconst (v := (-1 : Int32)) (pc := 9) C dX5_highest_9 (by decide) ?_
  refine z_icmp_eq (pc := 10) (tgt := 53) C dX5_highest_10 (by decide) hM (fun hc10 hM => ?_) (fun hc10 hM => ?_)
  · refine z_iconst (v := (-1 : Int32)) (pc := 53) C dX5_highest_53 (by decide) ?_
    cases hM
    exact z_iret (pc := 54) C rfl (Nat.zero_le _) (Nat.zero_le _) dX5_highest_54
  · refine z_aload_n (k := 0) (pc := 13) C dX5_highest_13 rfl ?_
    refine z_iload (k := 4) (pc := 14) C dX5_highest_14 rfl ?_
    refine z_iconst (v := (4 : Int32)) (pc := 16) C dX5_highest_16 (by decide) ?_
    obtain ⟨r4, g4, hM⟩ := Option.bind_eq_some_iff.mp hM
    refine z_goN (kc := 0) (ks := 0) ([.int r4]) (z_callV (pc := 17) (As := [.int x4_3, .int (4 : Int32)]) (rest := []) (n := 2) (ci := 6) C (c_X5_of l hl G lo t0 h nx a0 x4_3 (4 : Int32) r4 g4) g1 rfl q_256 q_257 q_258 q_5 q_259 ⟨rfl, by decide +kernel, by decide +kernel, by decide +kernel⟩ ⟨Nat.le_of_ble_eq_true rfl, Nat.le_of_ble_eq_true rfl⟩ rfl (Nat.le_of_ble_eq_true rfl) dX5_highest_17 ⟨(Nat.zero_le _), (Nat.zero_le _)⟩) rfl (Nat.le_of_ble_eq_true rfl) (Nat.le_of_ble_eq_true rfl) ?_
    refine z_iload_n (k := 3) (pc := 20) C dX5_highest_20 rfl ?_
    refine zj0 0 0 42 ([(0, .ref a0), (1, .int x1), (2, .int x2), (3, .int x3), (4, .int x4_3)]) ([]) (h) (nx) hM (fun  hM => ?_) (fun J5 iJ5 hM => ?_)
    · refine z_aload_n (k := 0) (pc := 42) C dX5_highest_42 rfl ?_
      refine z_iload (k := 4) (pc := 43) C dX5_highest_43 rfl ?_
      obtain ⟨r6, g6, hM⟩ := Option.bind_eq_some_iff.mp hM
      refine z_goN (kc := 0) (ks := 0) ([.int r6]) (z_callV (pc := 45) (As := [.int x4_3]) (rest := []) (n := 1) (ci := 6) C (c_X5_below l hl G lo t0 h nx a0 x4_3 r6 g6) g1 rfl q_501 q_502 q_503 q_5 q_504 ⟨rfl, by decide +kernel, by decide +kernel, by decide +kernel⟩ ⟨Nat.le_of_ble_eq_true rfl, Nat.le_of_ble_eq_true rfl⟩ rfl (Nat.le_of_ble_eq_true rfl) dX5_highest_45 ⟨(Nat.zero_le _), (Nat.zero_le _)⟩) rfl (Nat.le_of_ble_eq_true rfl) (Nat.le_of_ble_eq_true rfl) ?_
      refine z_istore (lv' := [(4, .int r6), (0, .ref a0), (1, .int x1), (2, .int x2), (3, .int x3)]) (pc := 48) C dX5_highest_48 (by decide) rfl ?_
      refine z_goto (pc := 50) (tgt := 7) C dX5_highest_50 (by decide) ?_
      exact z_sub [1, 2, 3, 4, 0] rfl (irec3 r6 hM)
    refine z_icmp_ge (pc := 21) (tgt := 42) C dX5_highest_21 (by decide) hM (fun hc9 hM => ?_) (fun hc9 hM => ?_)
    · exact z_sub [0, 1, 2, 3, 4] rfl (iJ5 hM)
    · refine z_aload_n (k := 0) (pc := 24) C dX5_highest_24 rfl ?_
      refine z_iload (k := 4) (pc := 25) C dX5_highest_25 rfl ?_
      refine z_iload_n (k := 1) (pc := 27) C dX5_highest_27 rfl ?_
      obtain ⟨r7, g7, hM⟩ := Option.bind_eq_some_iff.mp hM
      refine z_goN (kc := 0) (ks := 0) ([.int r7]) (z_callV (pc := 28) (As := [.int x4_3, .int x1]) (rest := []) (n := 2) (ci := 6) C (c_X5_bits l hl G lo t0 h nx a0 x4_3 x1 r7 g7) g1 rfl q_310 q_311 q_312 q_5 q_313 ⟨rfl, by decide +kernel, by decide +kernel, by decide +kernel⟩ ⟨Nat.le_of_ble_eq_true rfl, Nat.le_of_ble_eq_true rfl⟩ rfl (Nat.le_of_ble_eq_true rfl) dX5_highest_28 ⟨(Nat.zero_le _), (Nat.zero_le _)⟩) rfl (Nat.le_of_ble_eq_true rfl) (Nat.le_of_ble_eq_true rfl) ?_
      refine z_iload_n (k := 2) (pc := 31) C dX5_highest_31 rfl ?_
      refine z_ishr (pc := 32) C dX5_highest_32 ?_
      refine z_iconst (v := (1 : Int32)) (pc := 33) C dX5_highest_33 (by decide) ?_
      refine z_iand (pc := 34) C dX5_highest_34 ?_
      refine z_iconst (v := (1 : Int32)) (pc := 35) C dX5_highest_35 (by decide) ?_
      refine z_icmp_ne (pc := 36) (tgt := 42) C dX5_highest_36 (by decide) hM (fun hc8 hM => ?_) (fun hc8 hM => ?_)
      · refine z_iload (k := 4) (pc := 39) C dX5_highest_39 rfl ?_
        cases hM
        exact z_iret (pc := 41) C rfl (Nat.zero_le _) (Nat.zero_le _) dX5_highest_41
      · exact z_sub [0, 1, 2, 3, 4] rfl (iJ5 hM)
set_option maxHeartbeats 4000000 in
set_option maxRecDepth 100000 in
theorem c_X5_fall (l : Launch) (hl : l.stackTraces = false) (G : zG) (lo t0 : Nat) (h : zH) (nx : Nat) (a0 : Nat) (x1 : Int32) (x2 : Int32) (x3 : Int32) (x4 : Int32) (o : zH) (hM : M_X5_fall h a0 x1 x2 x3 x4 = some o) : z_Met l yX5_fall cX5_fall 6 none 4 91 G lo t0 [.ref a0, .int x1, .int x2, .int x3, .int x4] h nx (.inr (none, o, nx)) 0 0 := by
  refine z_of [(0, .ref a0), (1, .int x1), (2, .int x2), (3, .int x3), (4, .int x4)] (by decide) (Nat.le_of_ble_eq_true rfl) rfl (fun p e s m below meth c C hin => ?_)
  unfold M_X5_fall at hM
  refine z_aload_n (k := 0) (pc := 0) C dX5_fall_0 rfl ?_
  refine z_iload_n (k := 1) (pc := 1) C dX5_fall_1 rfl ?_
  refine z_iload_n (k := 2) (pc := 2) C dX5_fall_2 rfl ?_
  refine z_iload_n (k := 3) (pc := 3) C dX5_fall_3 rfl ?_
  obtain ⟨_, g1, hM⟩ := Option.bind_eq_some_iff.mp hM
  obtain ⟨r2, g2, hM⟩ := Option.bind_eq_some_iff.mp hM
  refine z_goN (kc := 0) (ks := 0) ([.int r2]) (z_callV (pc := 4) (As := [.int x1, .int x2, .int x3]) (rest := []) (n := 3) (ci := 6) C (c_X5_highest l hl G lo t0 h nx a0 x1 x2 x3 r2 g2) g1 rfl q_497 q_498 q_499 q_5 q_500 ⟨rfl, by decide +kernel, by decide +kernel, by decide +kernel⟩ ⟨Nat.le_of_ble_eq_true rfl, Nat.le_of_ble_eq_true rfl⟩ rfl (Nat.le_of_ble_eq_true rfl) dX5_fall_4 ⟨(Nat.zero_le _), (Nat.zero_le _)⟩) rfl (Nat.le_of_ble_eq_true rfl) (Nat.le_of_ble_eq_true rfl) ?_
  refine z_istore (lv' := [(5, .int r2), (0, .ref a0), (1, .int x1), (2, .int x2), (3, .int x3), (4, .int x4)]) (pc := 7) C dX5_fall_7 (by decide) rfl ?_
  refine z_iload (k := 0) (pc := 9) C dX5_fall_9 rfl ?_
  refine z_iconst (v := (-1 : Int32)) (pc := 11) C dX5_fall_11 (by decide) ?_
  refine z_icmp_ne (pc := 12) (tgt := 34) C dX5_fall_12 (by decide) hM (fun hc9 hM => ?_) (fun hc9 hM => ?_)
  · refine z_aload_n (k := 1) (pc := 15) C dX5_fall_15 rfl ?_
    obtain ⟨r6, g6, hM⟩ := Option.bind_eq_some_iff.mp hM
    refine z_getR (pc := 16) (k := 9) C g6 rfl inlX5 (by decide) q_73 (fun _ h9 => h9) dX5_fall_16 ?_
    refine z_bipush (v := (24 : Int32)) (pc := 19) C dX5_fall_19 (by decide) ?_
    refine z_iload_n (k := 2) (pc := 21) C dX5_fall_21 rfl ?_
    refine z_imul (pc := 22) C dX5_fall_22 ?_
    refine z_iload_n (k := 3) (pc := 23) C dX5_fall_23 rfl ?_
    refine z_iadd (pc := 24) C dX5_fall_24 ?_
    refine z_dup2 (pc := 25) C dX5_fall_25 rfl rfl ?_
    obtain ⟨r7, g7, hM⟩ := Option.bind_eq_some_iff.mp hM
    refine z_iald (pc := 26) C g7 dX5_fall_26 ?_
    refine z_iload (k := 5) (pc := 27) C dX5_fall_27 rfl ?_
    refine z_iadd (pc := 29) C dX5_fall_29 ?_
    obtain ⟨h_8, g8, hM⟩ := Option.bind_eq_some_iff.mp hM
    refine z_iast (pc := 30) C g8 dX5_fall_30 ?_
    refine z_goto (pc := 31) (tgt := 46) C dX5_fall_31 (by decide) ?_
    cases hM
    exact z_vret (pc := 46) C rfl (Nat.zero_le _) (Nat.zero_le _) dX5_fall_46
  · refine z_aload_n (k := 1) (pc := 34) C dX5_fall_34 rfl ?_
    obtain ⟨r3, g3, hM⟩ := Option.bind_eq_some_iff.mp hM
    refine z_getR (pc := 35) (k := 10) C g3 rfl inlX5 (by decide) q_74 (fun _ h9 => h9) dX5_fall_35 ?_
    refine z_iload (k := 0) (pc := 38) C dX5_fall_38 rfl ?_
    refine z_dup2 (pc := 40) C dX5_fall_40 rfl rfl ?_
    obtain ⟨r4, g4, hM⟩ := Option.bind_eq_some_iff.mp hM
    refine z_iald (pc := 41) C g4 dX5_fall_41 ?_
    refine z_iload (k := 5) (pc := 42) C dX5_fall_42 rfl ?_
    refine z_iadd (pc := 44) C dX5_fall_44 ?_
    obtain ⟨h_5, g5, hM⟩ := Option.bind_eq_some_iff.mp hM
    refine z_iast (pc := 45) C g5 dX5_fall_45 ?_
    cases hM
    exact z_vret (pc := 46) C rfl (Nat.zero_le _) (Nat.zero_le _) dX5_fall_46
set_option maxHeartbeats 4000000 in
set_option maxRecDepth 100000 in
theorem c_X5_drip (l : Launch) (hl : l.stackTraces = false) (G : zG) (lo t0 : Nat) (h : zH) (nx : Nat) (a0 : Nat) (x1 : Int32) (o : Int32 × zH) (hM : M_X5_drip h a0 x1 = some o) : z_Met l yX5_drip cX5_drip 8 (some .int) 5 116 G lo t0 [.ref a0, .int x1] h nx (.inr (some (.int o.1), o.2, nx)) 0 0 := by
  refine z_of [(0, .ref a0), (1, .int x1)] (by decide) (Nat.le_of_ble_eq_true rfl) rfl (fun p e s m below meth c C hin => ?_)
  unfold M_X5_drip at hM
  refine z_aload_n (k := 0) (pc := 0) C dX5_drip_0 rfl ?_
  refine z_iload_n (k := 1) (pc := 1) C dX5_drip_1 rfl ?_
  refine z_iconst (v := (5 : Int32)) (pc := 2) C dX5_drip_2 (by decide) ?_
  obtain ⟨_, g1, hM⟩ := Option.bind_eq_some_iff.mp hM
  obtain ⟨r2, g2, hM⟩ := Option.bind_eq_some_iff.mp hM
  refine z_goN (kc := 0) (ks := 0) ([.int r2]) (z_callV (pc := 3) (As := [.int x1, .int (5 : Int32)]) (rest := []) (n := 2) (ci := 6) C (c_X5_of l hl G lo t0 h nx a0 x1 (5 : Int32) r2 g2) g1 rfl q_256 q_257 q_258 q_5 q_259 ⟨rfl, by decide +kernel, by decide +kernel, by decide +kernel⟩ ⟨Nat.le_of_ble_eq_true rfl, Nat.le_of_ble_eq_true rfl⟩ rfl (Nat.le_of_ble_eq_true rfl) dX5_drip_3 ⟨(Nat.zero_le _), (Nat.zero_le _)⟩) rfl (Nat.le_of_ble_eq_true rfl) (Nat.le_of_ble_eq_true rfl) ?_
  refine z_iconst (v := (2 : Int32)) (pc := 6) C dX5_drip_6 (by decide) ?_
  refine z_irem (pc := 7) C dX5_drip_7 (by decide) ?_
  refine zj1 0 0 16 (fun (s0_3 : Int32) => [(0, .ref a0), (1, .int x1)]) (fun (s0_3 : Int32) => [.int s0_3]) (fun (s0_3 : Int32) => h) (fun (s0_3 : Int32) => nx) hM (fun s0_3 hM => ?_) (fun J3 iJ3 hM => ?_)
  · refine z_istore_n (lv' := [(2, .int s0_3), (0, .ref a0), (1, .int x1)]) (pc := 16) C dX5_drip_16 (by decide) rfl ?_
    refine z_aload_n (k := 1) (pc := 17) C dX5_drip_17 rfl ?_
    refine z_iload_n (k := 2) (pc := 18) C dX5_drip_18 rfl ?_
    refine z_iload_n (k := 0) (pc := 19) C dX5_drip_19 rfl ?_
    refine zj3 0 0 28 (fun (b0_4 : Nat) (s1_4 : Int32) (s2_4 : Int32) => [(0, .ref a0), (1, .int x1), (2, .int s0_3)]) (fun (b0_4 : Nat) (s1_4 : Int32) (s2_4 : Int32) => [.int s2_4, .int s1_4, .ref b0_4]) (fun (b0_4 : Nat) (s1_4 : Int32) (s2_4 : Int32) => h) (fun (b0_4 : Nat) (s1_4 : Int32) (s2_4 : Int32) => nx) hM (fun b0_4 s1_4 s2_4 hM => ?_) (fun J4 iJ4 hM => ?_)
    · obtain ⟨_, g5, hM⟩ := Option.bind_eq_some_iff.mp hM
      obtain ⟨r6, g6, hM⟩ := Option.bind_eq_some_iff.mp hM
      refine z_goN (kc := 0) (ks := 0) ([.int r6]) (z_callV (pc := 28) (As := [.int s1_4, .int s2_4]) (rest := []) (n := 2) (ci := 6) C (c_X5_of l hl G lo t0 h nx b0_4 s1_4 s2_4 r6 g6) g5 rfl q_256 q_257 q_258 q_5 q_259 ⟨rfl, by decide +kernel, by decide +kernel, by decide +kernel⟩ ⟨Nat.le_of_ble_eq_true rfl, Nat.le_of_ble_eq_true rfl⟩ rfl (Nat.le_of_ble_eq_true rfl) dX5_drip_28 ⟨(Nat.zero_le _), (Nat.zero_le _)⟩) rfl (Nat.le_of_ble_eq_true rfl) (Nat.le_of_ble_eq_true rfl) ?_
      refine z_istore_n (lv' := [(3, .int r6), (0, .ref a0), (1, .int x1), (2, .int s0_3)]) (pc := 31) C dX5_drip_31 (by decide) rfl ?_
      refine z_aload_n (k := 1) (pc := 32) C dX5_drip_32 rfl ?_
      refine z_iload_n (k := 2) (pc := 33) C dX5_drip_33 rfl ?_
      refine z_iconst (v := (5 : Int32)) (pc := 34) C dX5_drip_34 (by decide) ?_
      obtain ⟨r7, g7, hM⟩ := Option.bind_eq_some_iff.mp hM
      refine z_goN (kc := 0) (ks := 0) ([.int r7]) (z_callV (pc := 35) (As := [.int x1, .int (5 : Int32)]) (rest := []) (n := 2) (ci := 6) C (c_X5_of l hl G lo t0 h nx a0 x1 (5 : Int32) r7 g7) g1 rfl q_256 q_257 q_258 q_5 q_259 ⟨rfl, by decide +kernel, by decide +kernel, by decide +kernel⟩ ⟨Nat.le_of_ble_eq_true rfl, Nat.le_of_ble_eq_true rfl⟩ rfl (Nat.le_of_ble_eq_true rfl) dX5_drip_35 ⟨(Nat.zero_le _), (Nat.zero_le _)⟩) rfl (Nat.le_of_ble_eq_true rfl) (Nat.le_of_ble_eq_true rfl) ?_
      refine z_iconst (v := (2 : Int32)) (pc := 38) C dX5_drip_38 (by decide) ?_
      refine zj1 0 0 90 (fun (s0_8 : Int32) => [(0, .ref a0), (1, .int x1), (2, .int s0_3), (3, .int r6)]) (fun (s0_8 : Int32) => [.int s0_8]) (fun (s0_8 : Int32) => h) (fun (s0_8 : Int32) => nx) hM (fun s0_8 hM => ?_) (fun J8 iJ8 hM => ?_)
      · refine z_istore (lv' := [(4, .int s0_8), (0, .ref a0), (1, .int x1), (2, .int s0_3), (3, .int r6)]) (pc := 90) C dX5_drip_90 (by decide) rfl ?_
        refine z_iload (k := 0) (pc := 92) C dX5_drip_92 rfl ?_
        refine z_iconst (v := (0 : Int32)) (pc := 94) C dX5_drip_94 (by decide) ?_
        refine z_bipush (v := (23 : Int32)) (pc := 95) C dX5_drip_95 (by decide) ?_
        obtain ⟨r9, g9, hM⟩ := Option.bind_eq_some_iff.mp hM
        refine z_goN (kc := 0) (ks := 0) ([.int r9]) (z_callS (pc := 97) (As := [.int s0_8, .int (0 : Int32), .int (23 : Int32)]) (rest := []) (n := 3) C (c_X5_isIn l hl G lo t0 h nx s0_8 (0 : Int32) (23 : Int32) r9 g9) q_220 q_221 q_5 q_222 ⟨by decide +kernel, by decide +kernel, by decide +kernel⟩ ⟨Nat.le_of_ble_eq_true rfl, Nat.le_of_ble_eq_true rfl⟩ rfl (Nat.le_of_ble_eq_true rfl) dX5_drip_97 ⟨(Nat.zero_le _), (Nat.zero_le _)⟩) rfl (Nat.le_of_ble_eq_true rfl) (Nat.le_of_ble_eq_true rfl) ?_
        refine z_if_ne (pc := 100) (tgt := 110) C dX5_drip_100 (by decide) hM (fun hc34 hM => ?_) (fun hc34 hM => ?_)
        · refine z_aload_n (k := 1) (pc := 103) C dX5_drip_103 rfl ?_
          obtain ⟨r32, g32, hM⟩ := Option.bind_eq_some_iff.mp hM
          refine z_getR (pc := 104) (k := 10) C g32 rfl inlX5 (by decide) q_74 (fun _ h9 => h9) dX5_drip_104 ?_
          refine z_iload_n (k := 2) (pc := 107) C dX5_drip_107 rfl ?_
          obtain ⟨r33, g33, hM⟩ := Option.bind_eq_some_iff.mp hM
          refine z_iald (pc := 108) C g33 dX5_drip_108 ?_
          cases hM
          exact z_iret (pc := 109) C rfl (Nat.zero_le _) (Nat.zero_le _) dX5_drip_109
        · refine z_aload_n (k := 1) (pc := 110) C dX5_drip_110 rfl ?_
          refine z_iload_n (k := 2) (pc := 111) C dX5_drip_111 rfl ?_
          refine z_iload_n (k := 3) (pc := 112) C dX5_drip_112 rfl ?_
          refine zj3 0 0 121 (fun (b0_10 : Nat) (s1_10 : Int32) (s2_10 : Int32) => [(0, .ref a0), (1, .int x1), (2, .int s0_3), (3, .int r6), (4, .int s0_8)]) (fun (b0_10 : Nat) (s1_10 : Int32) (s2_10 : Int32) => [.int s2_10, .int s1_10, .ref b0_10]) (fun (b0_10 : Nat) (s1_10 : Int32) (s2_10 : Int32) => h) (fun (b0_10 : Nat) (s1_10 : Int32) (s2_10 : Int32) => nx) hM (fun b0_10 s1_10 s2_10 hM => ?_) (fun J10 iJ10 hM => ?_)
          · obtain ⟨_, g11, hM⟩ := Option.bind_eq_some_iff.mp hM
            obtain ⟨r12, g12, hM⟩ := Option.bind_eq_some_iff.mp hM
            refine z_goN (kc := 0) (ks := 0) ([.int r12]) (z_callV (pc := 121) (As := [.int s1_10, .int s2_10]) (rest := []) (n := 2) (ci := 6) C (c_X5_of l hl G lo t0 h nx b0_10 s1_10 s2_10 r12 g12) g11 rfl q_256 q_257 q_258 q_5 q_259 ⟨rfl, by decide +kernel, by decide +kernel, by decide +kernel⟩ ⟨Nat.le_of_ble_eq_true rfl, Nat.le_of_ble_eq_true rfl⟩ rfl (Nat.le_of_ble_eq_true rfl) dX5_drip_121 ⟨(Nat.zero_le _), (Nat.zero_le _)⟩) rfl (Nat.le_of_ble_eq_true rfl) (Nat.le_of_ble_eq_true rfl) ?_
            refine z_istore (lv' := [(5, .int r12), (0, .ref a0), (1, .int x1), (2, .int s0_3), (3, .int r6), (4, .int s0_8)]) (pc := 124) C dX5_drip_124 (by decide) rfl ?_
            refine z_iconst (v := (0 : Int32)) (pc := 126) C dX5_drip_126 (by decide) ?_
            refine z_istore (lv' := [(6, .int (0 : Int32)), (5, .int r12), (0, .ref a0), (1, .int x1), (2, .int s0_3), (3, .int r6), (4, .int s0_8)]) (pc := 127) C dX5_drip_127 (by decide) rfl ?_
            refine z_sub [2, 3, 4, 5, 6, 1, 0] rfl (zl2 (fun (x6_13 : Int32) (h_13 : zH) => [(0, .ref a0), (1, .int x1), (2, .int s0_3), (3, .int r6), (4, .int s0_8), (5, .int r12), (6, .int x6_13)]) (fun (x6_13 : Int32) (h_13 : zH) => h_13) (fun (x6_13 : Int32) (h_13 : zH) => nx) hM (fun rec13 irec13 x6_13 h_13 hM => ?_))
            refine z_iload (k := 6) (pc := 129) C dX5_drip_129 rfl ?_
            refine z_iload_n (k := 3) (pc := 131) C dX5_drip_131 rfl ?_
            refine z_icmp_ge (pc := 132) (tgt := 210) C dX5_drip_132 (by decide) hM (fun hc30 hM => ?_) (fun hc30 hM => ?_)
            · refine z_iconst (v := (0 : Int32)) (pc := 210) C dX5_drip_210 (by decide) ?_
              cases hM
              exact z_iret (pc := 211) C rfl (Nat.zero_le _) (Nat.zero_le _) dX5_drip_211
            · refine z_aload_n (k := 0) (pc := 135) C dX5_drip_135 rfl ?_
              obtain ⟨r14, g14, hM⟩ := Option.bind_eq_some_iff.mp hM
              refine z_getR (pc := 136) (k := 10) C g14 rfl inlX5 (by decide) q_74 (fun _ h9 => h9) dX5_drip_136 ?_
              refine z_iload_n (k := 1) (pc := 139) C dX5_drip_139 rfl ?_
              obtain ⟨r15, g15, hM⟩ := Option.bind_eq_some_iff.mp hM
              refine z_iald (pc := 140) C g15 dX5_drip_140 ?_
              refine z_iload_n (k := 3) (pc := 141) C dX5_drip_141 rfl ?_
              obtain ⟨hc16, hM⟩ := z_gn hM
              refine z_idiv (pc := 142) C dX5_drip_142 hc16 ?_
              refine z_iload (k := 6) (pc := 143) C dX5_drip_143 rfl ?_
              refine z_aload_n (k := 0) (pc := 145) C dX5_drip_145 rfl ?_
              obtain ⟨r17, g17, hM⟩ := Option.bind_eq_some_iff.mp hM
              refine z_getR (pc := 146) (k := 10) C g17 rfl inlX5 (by decide) q_74 (fun _ h9 => h9) dX5_drip_146 ?_
              refine z_iload_n (k := 1) (pc := 149) C dX5_drip_149 rfl ?_
              obtain ⟨r18, g18, hM⟩ := Option.bind_eq_some_iff.mp hM
              refine z_iald (pc := 150) C g18 dX5_drip_150 ?_
              refine z_iload_n (k := 3) (pc := 151) C dX5_drip_151 rfl ?_
              obtain ⟨hc19, hM⟩ := z_gn hM
              refine z_irem (pc := 152) C dX5_drip_152 hc19 ?_
              refine zj2 0 0 161 (fun (s0_20 : Int32) (s1_20 : Int32) => [(0, .ref a0), (1, .int x1), (2, .int s0_3), (3, .int r6), (4, .int s0_8), (5, .int r12), (6, .int x6_13)]) (fun (s0_20 : Int32) (s1_20 : Int32) => [.int s1_20, .int s0_20]) (fun (s0_20 : Int32) (s1_20 : Int32) => h_13) (fun (s0_20 : Int32) (s1_20 : Int32) => nx) hM (fun s0_20 s1_20 hM => ?_) (fun J20 iJ20 hM => ?_)
              · refine z_iadd (pc := 161) C dX5_drip_161 ?_
                refine z_istore (lv' := [(7, .int (s0_20 + s1_20)), (0, .ref a0), (1, .int x1), (2, .int s0_3), (3, .int r6), (4, .int s0_8), (5, .int r12), (6, .int x6_13)]) (pc := 162) C dX5_drip_162 (by decide) rfl ?_
                refine z_aload_n (k := 1) (pc := 164) C dX5_drip_164 rfl ?_
                refine z_iload_n (k := 3) (pc := 165) C dX5_drip_165 rfl ?_
                refine zj2 0 0 179 (fun (b0_21 : Nat) (s1_21 : Int32) => [(0, .ref a0), (1, .int x1), (2, .int s0_3), (3, .int r6), (4, .int s0_8), (5, .int r12), (6, .int x6_13), (7, .int (s0_20 + s1_20))]) (fun (b0_21 : Nat) (s1_21 : Int32) => [.int s1_21, .ref b0_21]) (fun (b0_21 : Nat) (s1_21 : Int32) => h_13) (fun (b0_21 : Nat) (s1_21 : Int32) => nx) hM (fun b0_21 s1_21 hM => ?_) (fun J21 iJ21 hM => ?_)
                · refine z_iload_n (k := 2) (pc := 179) C dX5_drip_179 rfl ?_
                  refine zj3 0 0 193 (fun (b0_22 : Nat) (s1_22 : Int32) (s2_22 : Int32) => [(0, .ref a0), (1, .int x1), (2, .int s0_3), (3, .int r6), (4, .int s0_8), (5, .int r12), (6, .int x6_13), (7, .int (s0_20 + s1_20))]) (fun (b0_22 : Nat) (s1_22 : Int32) (s2_22 : Int32) => [.int s2_22, .int s1_22, .ref b0_22]) (fun (b0_22 : Nat) (s1_22 : Int32) (s2_22 : Int32) => h_13) (fun (b0_22 : Nat) (s1_22 : Int32) (s2_22 : Int32) => nx) hM (fun b0_22 s1_22 s2_22 hM => ?_) (fun J22 iJ22 hM => ?_)
                  · refine z_aload_n (k := 0) (pc := 193) C dX5_drip_193 rfl ?_
                    refine z_iload_n (k := 1) (pc := 194) C dX5_drip_194 rfl ?_
                    refine z_iconst (v := (4 : Int32)) (pc := 195) C dX5_drip_195 (by decide) ?_
                    obtain ⟨_, g23, hM⟩ := Option.bind_eq_some_iff.mp hM
                    obtain ⟨r24, g24, hM⟩ := Option.bind_eq_some_iff.mp hM
                    refine z_goN (kc := 0) (ks := 0) ([.int r24, .int s2_22, .int s1_22, .ref b0_22]) (z_callV (pc := 196) (As := [.int x1, .int (4 : Int32)]) (rest := [.int s2_22, .int s1_22, .ref b0_22]) (n := 2) (ci := 6) C (c_X5_of l hl G lo t0 h_13 nx a0 x1 (4 : Int32) r24 g24) g23 rfl q_256 q_257 q_258 q_5 q_259 ⟨rfl, by decide +kernel, by decide +kernel, by decide +kernel⟩ ⟨Nat.le_of_ble_eq_true rfl, Nat.le_of_ble_eq_true rfl⟩ rfl (Nat.le_of_ble_eq_true rfl) dX5_drip_196 ⟨(Nat.zero_le _), (Nat.zero_le _)⟩) rfl (Nat.le_of_ble_eq_true rfl) (Nat.le_of_ble_eq_true rfl) ?_
                    refine z_iload (k := 7) (pc := 199) C dX5_drip_199 rfl ?_
                    obtain ⟨_, g25, hM⟩ := Option.bind_eq_some_iff.mp hM
                    obtain ⟨r26, g26, hM⟩ := Option.bind_eq_some_iff.mp hM
                    refine z_goN (kc := 0) (ks := 0) ([]) (z_callV (pc := 201) (As := [.int s1_22, .int s2_22, .int r24, .int (s0_20 + s1_20)]) (rest := []) (n := 4) (ci := 6) C (c_X5_fall l hl G lo t0 h_13 nx b0_22 s1_22 s2_22 r24 (s0_20 + s1_20) r26 g26) g25 rfl q_493 q_494 q_495 q_5 q_496 ⟨rfl, by decide +kernel, by decide +kernel, by decide +kernel⟩ ⟨Nat.le_of_ble_eq_true rfl, Nat.le_of_ble_eq_true rfl⟩ rfl (Nat.le_of_ble_eq_true rfl) dX5_drip_201 ⟨(Nat.zero_le _), (Nat.zero_le _)⟩) rfl (Nat.le_of_ble_eq_true rfl) (Nat.le_of_ble_eq_true rfl) ?_
                    refine z_iinc (k := 6) (v := (x6_13 + (1 : Int32))) (lv' := [(6, .int (x6_13 + (1 : Int32))), (0, .ref a0), (1, .int x1), (2, .int s0_3), (3, .int r6), (4, .int s0_8), (5, .int r12), (7, .int (s0_20 + s1_20))]) (pc := 204) C dX5_drip_204 rfl (by first | rfl | decide) (by decide) rfl ?_
                    refine z_goto (pc := 207) (tgt := 129) C dX5_drip_207 (by decide) ?_
                    exact z_sub [1, 2, 3, 4, 5, 6, 0] rfl (irec13 (x6_13 + (1 : Int32)) r26 hM)
                  refine z_if_eq (pc := 180) (tgt := 191) C dX5_drip_180 (by decide) hM (fun hc27 hM => ?_) (fun hc27 hM => ?_)
                  · refine z_iload (k := 4) (pc := 191) C dX5_drip_191 rfl ?_
                    exact z_sub [0, 1, 2, 3, 4, 5, 6, 7] rfl (iJ22 b0_21 s1_21 s0_8 hM)
                  · refine z_iload (k := 5) (pc := 183) C dX5_drip_183 rfl ?_
                    refine z_iload (k := 6) (pc := 185) C dX5_drip_185 rfl ?_
                    refine z_iadd (pc := 187) C dX5_drip_187 ?_
                    refine z_goto (pc := 188) (tgt := 193) C dX5_drip_188 (by decide) ?_
                    exact z_sub [0, 1, 2, 3, 4, 5, 6, 7] rfl (iJ22 b0_21 s1_21 (r12 + x6_13) hM)
                refine z_if_eq (pc := 166) (tgt := 174) C dX5_drip_166 (by decide) hM (fun hc28 hM => ?_) (fun hc28 hM => ?_)
                · refine z_iload (k := 6) (pc := 174) C dX5_drip_174 rfl ?_
                  refine z_iload (k := 7) (pc := 176) C dX5_drip_176 rfl ?_
                  refine z_iadd (pc := 178) C dX5_drip_178 ?_
                  exact z_sub [1, 2, 3, 4, 5, 6, 7, 0] rfl (iJ21 a0 (r12 + x6_13) hM)
                · refine z_iload (k := 5) (pc := 169) C dX5_drip_169 rfl ?_
                  refine z_goto (pc := 171) (tgt := 179) C dX5_drip_171 (by decide) ?_
                  exact z_sub [1, 2, 3, 4, 5, 6, 7, 0] rfl (iJ21 a0 s0_8 hM)
              refine z_icmp_ge (pc := 153) (tgt := 160) C dX5_drip_153 (by decide) hM (fun hc29 hM => ?_) (fun hc29 hM => ?_)
              · refine z_iconst (v := (0 : Int32)) (pc := 160) C dX5_drip_160 (by decide) ?_
                exact z_sub [0, 1, 2, 3, 4, 5, 6] rfl (iJ20 (r15 / r6) (0 : Int32) hM)
              · refine z_iconst (v := (1 : Int32)) (pc := 156) C dX5_drip_156 (by decide) ?_
                refine z_goto (pc := 157) (tgt := 161) C dX5_drip_157 (by decide) ?_
                exact z_sub [0, 1, 2, 3, 4, 5, 6] rfl (iJ20 (r15 / r6) (1 : Int32) hM)
          refine z_if_eq (pc := 113) (tgt := 120) C dX5_drip_113 (by decide) hM (fun hc31 hM => ?_) (fun hc31 hM => ?_)
          · refine z_iconst (v := (0 : Int32)) (pc := 120) C dX5_drip_120 (by decide) ?_
            exact z_sub [1, 2, 3, 4, 0] rfl (iJ10 a0 x1 (0 : Int32) hM)
          · refine z_iconst (v := (1 : Int32)) (pc := 116) C dX5_drip_116 (by decide) ?_
            refine z_goto (pc := 117) (tgt := 121) C dX5_drip_117 (by decide) ?_
            exact z_sub [1, 2, 3, 4, 0] rfl (iJ10 a0 x1 (1 : Int32) hM)
      refine z_icmp_ge (pc := 39) (tgt := 61) C dX5_drip_39 (by decide) hM (fun hc47 hM => ?_) (fun hc47 hM => ?_)
      · refine z_aload_n (k := 1) (pc := 61) C dX5_drip_61 rfl ?_
        refine z_iload_n (k := 2) (pc := 62) C dX5_drip_62 rfl ?_
        refine z_iload_n (k := 3) (pc := 63) C dX5_drip_63 rfl ?_
        refine zj3 0 0 72 (fun (b0_35 : Nat) (s1_35 : Int32) (s2_35 : Int32) => [(0, .ref a0), (1, .int x1), (2, .int s0_3), (3, .int r6)]) (fun (b0_35 : Nat) (s1_35 : Int32) (s2_35 : Int32) => [.int s2_35, .int s1_35, .ref b0_35]) (fun (b0_35 : Nat) (s1_35 : Int32) (s2_35 : Int32) => h) (fun (b0_35 : Nat) (s1_35 : Int32) (s2_35 : Int32) => nx) hM (fun b0_35 s1_35 s2_35 hM => ?_) (fun J35 iJ35 hM => ?_)
        · obtain ⟨_, g36, hM⟩ := Option.bind_eq_some_iff.mp hM
          obtain ⟨r37, g37, hM⟩ := Option.bind_eq_some_iff.mp hM
          refine z_goN (kc := 0) (ks := 0) ([.int r37]) (z_callV (pc := 72) (As := [.int s1_35, .int s2_35]) (rest := []) (n := 2) (ci := 6) C (c_X5_of l hl G lo t0 h nx b0_35 s1_35 s2_35 r37 g37) g36 rfl q_256 q_257 q_258 q_5 q_259 ⟨rfl, by decide +kernel, by decide +kernel, by decide +kernel⟩ ⟨Nat.le_of_ble_eq_true rfl, Nat.le_of_ble_eq_true rfl⟩ rfl (Nat.le_of_ble_eq_true rfl) dX5_drip_72 ⟨(Nat.zero_le _), (Nat.zero_le _)⟩) rfl (Nat.le_of_ble_eq_true rfl) (Nat.le_of_ble_eq_true rfl) ?_
          refine z_aload_n (k := 0) (pc := 75) C dX5_drip_75 rfl ?_
          refine z_iload_n (k := 1) (pc := 76) C dX5_drip_76 rfl ?_
          refine z_iload_n (k := 2) (pc := 77) C dX5_drip_77 rfl ?_
          refine zj4 0 0 86 (fun (s0_38 : Int32) (b1_38 : Nat) (s2_38 : Int32) (s3_38 : Int32) => [(0, .ref a0), (1, .int x1), (2, .int s0_3), (3, .int r6)]) (fun (s0_38 : Int32) (b1_38 : Nat) (s2_38 : Int32) (s3_38 : Int32) => [.int s3_38, .int s2_38, .ref b1_38, .int s0_38]) (fun (s0_38 : Int32) (b1_38 : Nat) (s2_38 : Int32) (s3_38 : Int32) => h) (fun (s0_38 : Int32) (b1_38 : Nat) (s2_38 : Int32) (s3_38 : Int32) => nx) hM (fun s0_38 b1_38 s2_38 s3_38 hM => ?_) (fun J38 iJ38 hM => ?_)
          · obtain ⟨_, g39, hM⟩ := Option.bind_eq_some_iff.mp hM
            obtain ⟨r40, g40, hM⟩ := Option.bind_eq_some_iff.mp hM
            refine z_goN (kc := 0) (ks := 0) ([.int r40, .int s0_38]) (z_callV (pc := 86) (As := [.int s2_38, .int s3_38]) (rest := [.int s0_38]) (n := 2) (ci := 6) C (c_X5_of l hl G lo t0 h nx b1_38 s2_38 s3_38 r40 g40) g39 rfl q_256 q_257 q_258 q_5 q_259 ⟨rfl, by decide +kernel, by decide +kernel, by decide +kernel⟩ ⟨Nat.le_of_ble_eq_true rfl, Nat.le_of_ble_eq_true rfl⟩ rfl (Nat.le_of_ble_eq_true rfl) dX5_drip_86 ⟨(Nat.zero_le _), (Nat.zero_le _)⟩) rfl (Nat.le_of_ble_eq_true rfl) (Nat.le_of_ble_eq_true rfl) ?_
            refine z_iadd (pc := 89) C dX5_drip_89 ?_
            exact z_sub [0, 1, 2, 3] rfl (iJ8 (s0_38 + r40) hM)
          refine z_if_eq (pc := 78) (tgt := 85) C dX5_drip_78 (by decide) hM (fun hc41 hM => ?_) (fun hc41 hM => ?_)
          · refine z_iconst (v := (3 : Int32)) (pc := 85) C dX5_drip_85 (by decide) ?_
            exact z_sub [0, 1, 2, 3] rfl (iJ38 r37 a0 x1 (3 : Int32) hM)
          · refine z_iconst (v := (2 : Int32)) (pc := 81) C dX5_drip_81 (by decide) ?_
            refine z_goto (pc := 82) (tgt := 86) C dX5_drip_82 (by decide) ?_
            exact z_sub [0, 1, 2, 3] rfl (iJ38 r37 a0 x1 (2 : Int32) hM)
        refine z_if_eq (pc := 64) (tgt := 71) C dX5_drip_64 (by decide) hM (fun hc42 hM => ?_) (fun hc42 hM => ?_)
        · refine z_iconst (v := (1 : Int32)) (pc := 71) C dX5_drip_71 (by decide) ?_
          exact z_sub [1, 2, 3, 0] rfl (iJ35 a0 x1 (1 : Int32) hM)
        · refine z_iconst (v := (0 : Int32)) (pc := 67) C dX5_drip_67 (by decide) ?_
          refine z_goto (pc := 68) (tgt := 72) C dX5_drip_68 (by decide) ?_
          exact z_sub [1, 2, 3, 0] rfl (iJ35 a0 x1 (0 : Int32) hM)
      · refine z_aload_n (k := 1) (pc := 42) C dX5_drip_42 rfl ?_
        refine z_iload_n (k := 2) (pc := 43) C dX5_drip_43 rfl ?_
        refine z_iload_n (k := 3) (pc := 44) C dX5_drip_44 rfl ?_
        refine zj3 0 0 53 (fun (b0_43 : Nat) (s1_43 : Int32) (s2_43 : Int32) => [(0, .ref a0), (1, .int x1), (2, .int s0_3), (3, .int r6)]) (fun (b0_43 : Nat) (s1_43 : Int32) (s2_43 : Int32) => [.int s2_43, .int s1_43, .ref b0_43]) (fun (b0_43 : Nat) (s1_43 : Int32) (s2_43 : Int32) => h) (fun (b0_43 : Nat) (s1_43 : Int32) (s2_43 : Int32) => nx) hM (fun b0_43 s1_43 s2_43 hM => ?_) (fun J43 iJ43 hM => ?_)
        · obtain ⟨_, g44, hM⟩ := Option.bind_eq_some_iff.mp hM
          obtain ⟨r45, g45, hM⟩ := Option.bind_eq_some_iff.mp hM
          refine z_goN (kc := 0) (ks := 0) ([.int r45]) (z_callV (pc := 53) (As := [.int s1_43, .int s2_43]) (rest := []) (n := 2) (ci := 6) C (c_X5_of l hl G lo t0 h nx b0_43 s1_43 s2_43 r45 g45) g44 rfl q_256 q_257 q_258 q_5 q_259 ⟨rfl, by decide +kernel, by decide +kernel, by decide +kernel⟩ ⟨Nat.le_of_ble_eq_true rfl, Nat.le_of_ble_eq_true rfl⟩ rfl (Nat.le_of_ble_eq_true rfl) dX5_drip_53 ⟨(Nat.zero_le _), (Nat.zero_le _)⟩) rfl (Nat.le_of_ble_eq_true rfl) (Nat.le_of_ble_eq_true rfl) ?_
          refine z_iconst (v := (1 : Int32)) (pc := 56) C dX5_drip_56 (by decide) ?_
          refine z_isub (pc := 57) C dX5_drip_57 ?_
          refine z_goto (pc := 58) (tgt := 90) C dX5_drip_58 (by decide) ?_
          exact z_sub [0, 1, 2, 3] rfl (iJ8 (r45 - (1 : Int32)) hM)
        refine z_if_eq (pc := 45) (tgt := 52) C dX5_drip_45 (by decide) hM (fun hc46 hM => ?_) (fun hc46 hM => ?_)
        · refine z_iconst (v := (1 : Int32)) (pc := 52) C dX5_drip_52 (by decide) ?_
          exact z_sub [1, 2, 3, 0] rfl (iJ43 a0 x1 (1 : Int32) hM)
        · refine z_iconst (v := (0 : Int32)) (pc := 48) C dX5_drip_48 (by decide) ?_
          refine z_goto (pc := 49) (tgt := 53) C dX5_drip_49 (by decide) ?_
          exact z_sub [1, 2, 3, 0] rfl (iJ43 a0 x1 (0 : Int32) hM)
    refine z_if_eq (pc := 20) (tgt := 27) C dX5_drip_20 (by decide) hM (fun hc48 hM => ?_) (fun hc48 hM => ?_)
    · refine z_iconst (v := (2 : Int32)) (pc := 27) C dX5_drip_27 (by decide) ?_
      exact z_sub [1, 2, 0] rfl (iJ4 a0 x1 (2 : Int32) hM)
    · refine z_iconst (v := (3 : Int32)) (pc := 23) C dX5_drip_23 (by decide) ?_
      refine z_goto (pc := 24) (tgt := 28) C dX5_drip_24 (by decide) ?_
      exact z_sub [1, 2, 0] rfl (iJ4 a0 x1 (3 : Int32) hM)
  refine z_if_ne (pc := 8) (tgt := 15) C dX5_drip_8 (by decide) hM (fun hc49 hM => ?_) (fun hc49 hM => ?_)
  · refine z_iconst (v := (1 : Int32)) (pc := 11) C dX5_drip_11 (by decide) ?_
    refine z_goto (pc := 12) (tgt := 16) C dX5_drip_12 (by decide) ?_
    exact z_sub [0, 1] rfl (iJ3 (1 : Int32) hM)
  · refine z_iconst (v := (0 : Int32)) (pc := 15) C dX5_drip_15 (by decide) ?_
    exact z_sub [0, 1] rfl (iJ3 (0 : Int32) hM)
set_option maxHeartbeats 4000000 in
set_option maxRecDepth 100000 in
theorem c_X5_pour (l : Launch) (hl : l.stackTraces = false) (G : zG) (lo t0 : Nat) (h : zH) (nx : Nat) (a0 : Nat) (x1 : Int32) (o : Int32 × zH) (hM : M_X5_pour h a0 x1 = some o) : z_Met l yX5_pour cX5_pour 4 (some .int) 6 143 G lo t0 [.ref a0, .int x1] h nx (.inr (some (.int o.1), o.2, nx)) 0 0 := by
  refine z_of [(0, .ref a0), (1, .int x1)] (by decide) (Nat.le_of_ble_eq_true rfl) rfl (fun p e s m below meth c C hin => ?_)
  unfold M_X5_pour at hM
  refine z_iconst (v := (0 : Int32)) (pc := 0) C dX5_pour_0 (by decide) ?_
  refine z_istore_n (lv' := [(2, .int (0 : Int32)), (0, .ref a0), (1, .int x1)]) (pc := 1) C dX5_pour_1 (by decide) rfl ?_
  refine z_sub [1, 2, 0] rfl (zl2 (fun (x2_1 : Int32) (h_1 : zH) => [(0, .ref a0), (1, .int x1), (2, .int x2_1)]) (fun (x2_1 : Int32) (h_1 : zH) => h_1) (fun (x2_1 : Int32) (h_1 : zH) => nx) hM (fun rec1 irec1 x2_1 h_1 hM => ?_))
  refine z_iload_n (k := 2) (pc := 2) C dX5_pour_2 rfl ?_
  refine z_sipush (v := (576 : Int32)) (pc := 3) C dX5_pour_3 (by decide) ?_
  refine z_icmp_ge (pc := 6) (tgt := 22) C dX5_pour_6 (by decide) hM (fun hc20 hM => ?_) (fun hc20 hM => ?_)
  · refine z_iconst (v := (0 : Int32)) (pc := 22) C dX5_pour_22 (by decide) ?_
    refine z_istore_n (lv' := [(2, .int (0 : Int32)), (0, .ref a0), (1, .int x1)]) (pc := 23) C dX5_pour_23 (by decide) rfl ?_
    refine z_sub [1, 2, 0] rfl (zl2 (fun (x2_2 : Int32) (h_2 : zH) => [(0, .ref a0), (1, .int x1), (2, .int x2_2)]) (fun (x2_2 : Int32) (h_2 : zH) => h_2) (fun (x2_2 : Int32) (h_2 : zH) => nx) hM (fun rec2 irec2 x2_2 h_2 hM => ?_))
    refine z_iload_n (k := 2) (pc := 24) C dX5_pour_24 rfl ?_
    refine z_bipush (v := (10 : Int32)) (pc := 25) C dX5_pour_25 (by decide) ?_
    refine z_icmp_ge (pc := 27) (tgt := 43) C dX5_pour_27 (by decide) hM (fun hc17 hM => ?_) (fun hc17 hM => ?_)
    · refine z_iconst (v := (0 : Int32)) (pc := 43) C dX5_pour_43 (by decide) ?_
      refine z_istore_n (lv' := [(2, .int (0 : Int32)), (0, .ref a0), (1, .int x1)]) (pc := 44) C dX5_pour_44 (by decide) rfl ?_
      refine z_sub [1, 2, 0] rfl (zl2 (fun (x2_3 : Int32) (h_3 : zH) => [(0, .ref a0), (1, .int x1), (2, .int x2_3)]) (fun (x2_3 : Int32) (h_3 : zH) => h_3) (fun (x2_3 : Int32) (h_3 : zH) => nx) hM (fun rec3 irec3 x2_3 h_3 hM => ?_))
      refine z_iload_n (k := 2) (pc := 45) C dX5_pour_45 rfl ?_
      refine z_sipush (v := (576 : Int32)) (pc := 46) C dX5_pour_46 (by decide) ?_
      refine z_icmp_ge (pc := 49) (tgt := 73) C dX5_pour_49 (by decide) hM (fun hc14 hM => ?_) (fun hc14 hM => ?_)
      · refine z_iconst (v := (0 : Int32)) (pc := 73) C dX5_pour_73 (by decide) ?_
        refine z_istore_n (lv' := [(2, .int (0 : Int32)), (0, .ref a0), (1, .int x1)]) (pc := 74) C dX5_pour_74 (by decide) rfl ?_
        refine z_aload_n (k := 1) (pc := 75) C dX5_pour_75 rfl ?_
        refine z_iconst (v := (-1 : Int32)) (pc := 76) C dX5_pour_76 (by decide) ?_
        obtain ⟨_, g4, hM⟩ := Option.bind_eq_some_iff.mp hM
        obtain ⟨r5, g5, hM⟩ := Option.bind_eq_some_iff.mp hM
        refine z_goN (kc := 0) (ks := 0) ([.int r5]) (z_callV (pc := 77) (As := [.int (-1 : Int32)]) (rest := []) (n := 1) (ci := 6) C (c_X5_below l hl G lo t0 h_3 nx a0 (-1 : Int32) r5 g5) g4 rfl q_501 q_502 q_503 q_5 q_504 ⟨rfl, by decide +kernel, by decide +kernel, by decide +kernel⟩ ⟨Nat.le_of_ble_eq_true rfl, Nat.le_of_ble_eq_true rfl⟩ rfl (Nat.le_of_ble_eq_true rfl) dX5_pour_77 ⟨(Nat.zero_le _), (Nat.zero_le _)⟩) rfl (Nat.le_of_ble_eq_true rfl) (Nat.le_of_ble_eq_true rfl) ?_
        refine z_istore_n (lv' := [(3, .int r5), (2, .int (0 : Int32)), (0, .ref a0), (1, .int x1)]) (pc := 80) C dX5_pour_80 (by decide) rfl ?_
        refine z_sub [2, 1, 0] rfl (zl3 (fun (x2_6 : Int32) (x3_6 : Int32) (h_6 : zH) => [(0, .ref a0), (2, .int x2_6), (3, .int x3_6)]) (fun (x2_6 : Int32) (x3_6 : Int32) (h_6 : zH) => h_6) (fun (x2_6 : Int32) (x3_6 : Int32) (h_6 : zH) => nx) hM (fun rec6 irec6 x2_6 x3_6 h_6 hM => ?_))
        refine z_iload_n (k := 2) (pc := 81) C dX5_pour_81 rfl ?_
        refine z_iconst (v := (-1 : Int32)) (pc := 82) C dX5_pour_82 (by decide) ?_
        refine z_icmp_eq (pc := 83) (tgt := 103) C dX5_pour_83 (by decide) hM (fun hc11 hM => ?_) (fun hc11 hM => ?_)
        · refine z_iload_n (k := 1) (pc := 103) C dX5_pour_103 rfl ?_
          cases hM
          exact z_iret (pc := 104) C rfl (Nat.zero_le _) (Nat.zero_le _) dX5_pour_104
        · refine z_iload_n (k := 1) (pc := 86) C dX5_pour_86 rfl ?_
          refine z_aload_n (k := 0) (pc := 87) C dX5_pour_87 rfl ?_
          refine z_iload_n (k := 2) (pc := 88) C dX5_pour_88 rfl ?_
          obtain ⟨_, g7, hM⟩ := Option.bind_eq_some_iff.mp hM
          obtain ⟨r8, g8, hM⟩ := Option.bind_eq_some_iff.mp hM
          refine z_goN (kc := 0) (ks := 0) ([.int r8.1, .int x2_6]) (z_callV (pc := 89) (As := [.int x3_6]) (rest := [.int x2_6]) (n := 1) (ci := 6) C (c_X5_drip l hl G lo t0 h_6 nx a0 x3_6 r8 g8) g7 rfl q_509 q_510 q_511 q_5 q_512 ⟨rfl, by decide +kernel, by decide +kernel, by decide +kernel⟩ ⟨Nat.le_of_ble_eq_true rfl, Nat.le_of_ble_eq_true rfl⟩ rfl (Nat.le_of_ble_eq_true rfl) dX5_pour_89 ⟨(Nat.zero_le _), (Nat.zero_le _)⟩) rfl (Nat.le_of_ble_eq_true rfl) (Nat.le_of_ble_eq_true rfl) ?_
          refine z_iadd (pc := 92) C dX5_pour_92 ?_
          refine z_istore_n (lv' := [(2, .int (x2_6 + r8.1)), (0, .ref a0), (3, .int x3_6)]) (pc := 93) C dX5_pour_93 (by decide) rfl ?_
          refine z_aload_n (k := 1) (pc := 94) C dX5_pour_94 rfl ?_
          refine z_iload_n (k := 2) (pc := 95) C dX5_pour_95 rfl ?_
          obtain ⟨_, g9, hM⟩ := Option.bind_eq_some_iff.mp hM
          obtain ⟨r10, g10, hM⟩ := Option.bind_eq_some_iff.mp hM
          refine z_goN (kc := 0) (ks := 0) ([.int r10]) (z_callV (pc := 96) (As := [.int x3_6]) (rest := []) (n := 1) (ci := 6) C (c_X5_below l hl G lo t0 r8.2 nx a0 x3_6 r10 g10) g9 rfl q_501 q_502 q_503 q_5 q_504 ⟨rfl, by decide +kernel, by decide +kernel, by decide +kernel⟩ ⟨Nat.le_of_ble_eq_true rfl, Nat.le_of_ble_eq_true rfl⟩ rfl (Nat.le_of_ble_eq_true rfl) dX5_pour_96 ⟨(Nat.zero_le _), (Nat.zero_le _)⟩) rfl (Nat.le_of_ble_eq_true rfl) (Nat.le_of_ble_eq_true rfl) ?_
          refine z_istore_n (lv' := [(3, .int r10), (2, .int (x2_6 + r8.1)), (0, .ref a0)]) (pc := 99) C dX5_pour_99 (by decide) rfl ?_
          refine z_goto (pc := 100) (tgt := 81) C dX5_pour_100 (by decide) ?_
          exact z_sub [2, 1, 0] rfl (irec6 (x2_6 + r8.1) r10 r8.2 hM)
      · refine z_aload_n (k := 0) (pc := 52) C dX5_pour_52 rfl ?_
        refine z_iload_n (k := 2) (pc := 53) C dX5_pour_53 rfl ?_
        refine z_bipush (v := (24 : Int32)) (pc := 54) C dX5_pour_54 (by decide) ?_
        refine z_idiv (pc := 56) C dX5_pour_56 (by decide) ?_
        refine z_iload_n (k := 2) (pc := 57) C dX5_pour_57 rfl ?_
        refine z_bipush (v := (24 : Int32)) (pc := 58) C dX5_pour_58 (by decide) ?_
        refine z_irem (pc := 60) C dX5_pour_60 (by decide) ?_
        refine z_bipush (v := (10 : Int32)) (pc := 61) C dX5_pour_61 (by decide) ?_
        refine z_iload_n (k := 1) (pc := 63) C dX5_pour_63 rfl ?_
        obtain ⟨_, g12, hM⟩ := Option.bind_eq_some_iff.mp hM
        obtain ⟨r13, g13, hM⟩ := Option.bind_eq_some_iff.mp hM
        refine z_goN (kc := 0) (ks := 0) ([]) (z_callV (pc := 64) (As := [.int (x2_3 / (24 : Int32)), .int (x2_3 - x2_3 / (24 : Int32) * (24 : Int32)), .int (10 : Int32), .int x1]) (rest := []) (n := 4) (ci := 6) C (c_X5_fall l hl G lo t0 h_3 nx a0 (x2_3 / (24 : Int32)) (x2_3 - x2_3 / (24 : Int32) * (24 : Int32)) (10 : Int32) x1 r13 g13) g12 rfl q_493 q_494 q_495 q_5 q_496 ⟨rfl, by decide +kernel, by decide +kernel, by decide +kernel⟩ ⟨Nat.le_of_ble_eq_true rfl, Nat.le_of_ble_eq_true rfl⟩ rfl (Nat.le_of_ble_eq_true rfl) dX5_pour_64 ⟨(Nat.zero_le _), (Nat.zero_le _)⟩) rfl (Nat.le_of_ble_eq_true rfl) (Nat.le_of_ble_eq_true rfl) ?_
        refine z_iinc (k := 2) (v := (x2_3 + (1 : Int32))) (lv' := [(2, .int (x2_3 + (1 : Int32))), (0, .ref a0), (1, .int x1)]) (pc := 67) C dX5_pour_67 rfl (by first | rfl | decide) (by decide) rfl ?_
        refine z_goto (pc := 70) (tgt := 45) C dX5_pour_70 (by decide) ?_
        exact z_sub [1, 2, 0] rfl (irec3 (x2_3 + (1 : Int32)) r13 hM)
    · refine z_aload_n (k := 0) (pc := 30) C dX5_pour_30 rfl ?_
      obtain ⟨r15, g15, hM⟩ := Option.bind_eq_some_iff.mp hM
      refine z_getR (pc := 31) (k := 10) C g15 rfl inlX5 (by decide) q_74 (fun _ h9 => h9) dX5_pour_31 ?_
      refine z_iload_n (k := 2) (pc := 34) C dX5_pour_34 rfl ?_
      refine z_iconst (v := (0 : Int32)) (pc := 35) C dX5_pour_35 (by decide) ?_
      obtain ⟨h_16, g16, hM⟩ := Option.bind_eq_some_iff.mp hM
      refine z_iast (pc := 36) C g16 dX5_pour_36 ?_
      refine z_iinc (k := 2) (v := (x2_2 + (1 : Int32))) (lv' := [(2, .int (x2_2 + (1 : Int32))), (0, .ref a0), (1, .int x1)]) (pc := 37) C dX5_pour_37 rfl (by first | rfl | decide) (by decide) rfl ?_
      refine z_goto (pc := 40) (tgt := 24) C dX5_pour_40 (by decide) ?_
      exact z_sub [1, 2, 0] rfl (irec2 (x2_2 + (1 : Int32)) h_16 hM)
  · refine z_aload_n (k := 0) (pc := 9) C dX5_pour_9 rfl ?_
    obtain ⟨r18, g18, hM⟩ := Option.bind_eq_some_iff.mp hM
    refine z_getR (pc := 10) (k := 9) C g18 rfl inlX5 (by decide) q_73 (fun _ h9 => h9) dX5_pour_10 ?_
    refine z_iload_n (k := 2) (pc := 13) C dX5_pour_13 rfl ?_
    refine z_iconst (v := (0 : Int32)) (pc := 14) C dX5_pour_14 (by decide) ?_
    obtain ⟨h_19, g19, hM⟩ := Option.bind_eq_some_iff.mp hM
    refine z_iast (pc := 15) C g19 dX5_pour_15 ?_
    refine z_iinc (k := 2) (v := (x2_1 + (1 : Int32))) (lv' := [(2, .int (x2_1 + (1 : Int32))), (0, .ref a0), (1, .int x1)]) (pc := 16) C dX5_pour_16 rfl (by first | rfl | decide) (by decide) rfl ?_
    refine z_goto (pc := 19) (tgt := 2) C dX5_pour_19 (by decide) ?_
    exact z_sub [1, 2, 0] rfl (irec1 (x2_1 + (1 : Int32)) h_19 hM)
set_option maxHeartbeats 4000000 in
set_option maxRecDepth 100000 in
theorem c_X5_hang (l : Launch) (hl : l.stackTraces = false) (G : zG) (lo t0 : Nat) (h : zH) (nx : Nat) (a0 : Nat) (x1 : Int32) (x2 : Int32) (x3 : Int32) (x4 : Int32) (x5 : Int32) (x6 : Int32) (o : Int32 × zH × Nat) (hM : M_X5_hang h nx a0 x1 x2 x3 x4 x5 x6 = some o) : z_Met l yX5_hang cX5_hang 8 (some .int) 2 60 G lo t0 [.ref a0, .int x1, .int x2, .int x3, .int x4, .int x5, .int x6] h nx (.inr (some (.int o.1), o.2.1, o.2.2)) 1 8 := by
  refine z_of [(0, .ref a0), (1, .int x1), (2, .int x2), (3, .int x3), (4, .int x4), (5, .int x5), (6, .int x6)] (by decide) (Nat.le_of_ble_eq_true rfl) rfl (fun p e s m below meth c C hin => ?_)
  unfold M_X5_hang at hM
  refine z_aload_n (k := 0) (pc := 0) C dX5_hang_0 rfl ?_
  refine z_iconst (v := (0 : Int32)) (pc := 1) C dX5_hang_1 (by decide) ?_
  obtain ⟨h_1, g1, hM⟩ := Option.bind_eq_some_iff.mp hM
  refine z_put (pc := 2) (k := 0) C g1 rfl inlX5 tyX5 tyX5_ok nmX5 (by decide) q_217 (fun _ h9 => h9) rfl (tyX5_ok 0 (by decide)) rfl rfl dX5_hang_2 ?_
  refine z_iload_n (k := 3) (pc := 5) C dX5_hang_5 rfl ?_
  refine z_iconst (v := (1 : Int32)) (pc := 6) C dX5_hang_6 (by decide) ?_
  refine z_bipush (v := (24 : Int32)) (pc := 7) C dX5_hang_7 (by decide) ?_
  obtain ⟨r2, g2, hM⟩ := Option.bind_eq_some_iff.mp hM
  refine z_goN (kc := 0) (ks := 0) ([.int r2]) (z_callS (pc := 9) (As := [.int x3, .int (1 : Int32), .int (24 : Int32)]) (rest := []) (n := 3) C (c_X5_isIn l hl G lo t0 h_1 nx x3 (1 : Int32) (24 : Int32) r2 g2) q_220 q_221 q_5 q_222 ⟨by decide +kernel, by decide +kernel, by decide +kernel⟩ ⟨Nat.le_of_ble_eq_true rfl, Nat.le_of_ble_eq_true rfl⟩ rfl (Nat.le_of_ble_eq_true rfl) dX5_hang_9 ⟨(Nat.zero_le _), (Nat.zero_le _)⟩) rfl (Nat.le_of_ble_eq_true rfl) (Nat.le_of_ble_eq_true rfl) ?_
  refine zj0 0 0 47 ([(0, .ref a0)]) ([]) (h_1) (nx) hM (fun  hM => ?_) (fun J3 iJ3 hM => ?_)
  · refine z_aload_n (k := 0) (pc := 47) C dX5_hang_47 rfl ?_
    refine z_iconst (v := (1 : Int32)) (pc := 48) C dX5_hang_48 (by decide) ?_
    obtain ⟨_, g4, hM⟩ := Option.bind_eq_some_iff.mp hM
    obtain ⟨r5, g5, hM⟩ := Option.bind_eq_some_iff.mp hM
    refine z_goN (kc := 0) (ks := 0) ([.int r5.1]) (z_callV (pc := 49) (As := [.int (1 : Int32)]) (rest := []) (n := 1) (ci := 6) C (c_X5_no l hl G lo t0 h_1 nx a0 (1 : Int32) r5 g5) g4 rfl q_223 q_224 q_225 q_5 q_226 ⟨rfl, by decide +kernel, by decide +kernel, by decide +kernel⟩ ⟨Nat.le_of_ble_eq_true rfl, Nat.le_of_ble_eq_true rfl⟩ rfl (Nat.le_of_ble_eq_true rfl) dX5_hang_49 ⟨(Nat.zero_le _), (Nat.zero_le _)⟩) rfl (Nat.le_of_ble_eq_true rfl) (Nat.le_of_ble_eq_true rfl) ?_
    cases hM
    exact z_iret (pc := 52) C rfl (Nat.zero_le _) (Nat.zero_le _) dX5_hang_52
  refine z_if_eq (pc := 12) (tgt := 47) C dX5_hang_12 (by decide) hM (fun hc34 hM => ?_) (fun hc34 hM => ?_)
  · exact z_sub [0] rfl (iJ3 hM)
  · refine z_iload (k := 4) (pc := 15) C dX5_hang_15 rfl ?_
    refine z_iconst (v := (1 : Int32)) (pc := 17) C dX5_hang_17 (by decide) ?_
    refine z_bipush (v := (24 : Int32)) (pc := 18) C dX5_hang_18 (by decide) ?_
    obtain ⟨r6, g6, hM⟩ := Option.bind_eq_some_iff.mp hM
    refine z_goN (kc := 0) (ks := 0) ([.int r6]) (z_callS (pc := 20) (As := [.int x4, .int (1 : Int32), .int (24 : Int32)]) (rest := []) (n := 3) C (c_X5_isIn l hl G lo t0 h_1 nx x4 (1 : Int32) (24 : Int32) r6 g6) q_220 q_221 q_5 q_222 ⟨by decide +kernel, by decide +kernel, by decide +kernel⟩ ⟨Nat.le_of_ble_eq_true rfl, Nat.le_of_ble_eq_true rfl⟩ rfl (Nat.le_of_ble_eq_true rfl) dX5_hang_20 ⟨(Nat.zero_le _), (Nat.zero_le _)⟩) rfl (Nat.le_of_ble_eq_true rfl) (Nat.le_of_ble_eq_true rfl) ?_
    refine z_if_eq (pc := 23) (tgt := 47) C dX5_hang_23 (by decide) hM (fun hc33 hM => ?_) (fun hc33 hM => ?_)
    · exact z_sub [0] rfl (iJ3 hM)
    · refine z_iload (k := 5) (pc := 26) C dX5_hang_26 rfl ?_
      refine z_iconst (v := (1 : Int32)) (pc := 28) C dX5_hang_28 (by decide) ?_
      refine z_bipush (v := (9 : Int32)) (pc := 29) C dX5_hang_29 (by decide) ?_
      obtain ⟨r7, g7, hM⟩ := Option.bind_eq_some_iff.mp hM
      refine z_goN (kc := 0) (ks := 0) ([.int r7]) (z_callS (pc := 31) (As := [.int x5, .int (1 : Int32), .int (9 : Int32)]) (rest := []) (n := 3) C (c_X5_isIn l hl G lo t0 h_1 nx x5 (1 : Int32) (9 : Int32) r7 g7) q_220 q_221 q_5 q_222 ⟨by decide +kernel, by decide +kernel, by decide +kernel⟩ ⟨Nat.le_of_ble_eq_true rfl, Nat.le_of_ble_eq_true rfl⟩ rfl (Nat.le_of_ble_eq_true rfl) dX5_hang_31 ⟨(Nat.zero_le _), (Nat.zero_le _)⟩) rfl (Nat.le_of_ble_eq_true rfl) (Nat.le_of_ble_eq_true rfl) ?_
      refine z_if_eq (pc := 34) (tgt := 47) C dX5_hang_34 (by decide) hM (fun hc32 hM => ?_) (fun hc32 hM => ?_)
      · exact z_sub [0] rfl (iJ3 hM)
      · refine z_iload (k := 6) (pc := 37) C dX5_hang_37 rfl ?_
        refine z_iconst (v := (0 : Int32)) (pc := 39) C dX5_hang_39 (by decide) ?_
        refine z_iconst (v := (3 : Int32)) (pc := 40) C dX5_hang_40 (by decide) ?_
        obtain ⟨r8, g8, hM⟩ := Option.bind_eq_some_iff.mp hM
        refine z_goN (kc := 0) (ks := 0) ([.int r8]) (z_callS (pc := 41) (As := [.int x6, .int (0 : Int32), .int (3 : Int32)]) (rest := []) (n := 3) C (c_X5_isIn l hl G lo t0 h_1 nx x6 (0 : Int32) (3 : Int32) r8 g8) q_220 q_221 q_5 q_222 ⟨by decide +kernel, by decide +kernel, by decide +kernel⟩ ⟨Nat.le_of_ble_eq_true rfl, Nat.le_of_ble_eq_true rfl⟩ rfl (Nat.le_of_ble_eq_true rfl) dX5_hang_41 ⟨(Nat.zero_le _), (Nat.zero_le _)⟩) rfl (Nat.le_of_ble_eq_true rfl) (Nat.le_of_ble_eq_true rfl) ?_
        refine z_if_ne (pc := 44) (tgt := 53) C dX5_hang_44 (by decide) hM (fun hc31 hM => ?_) (fun hc31 hM => ?_)
        · exact z_sub [0] rfl (iJ3 hM)
        · refine z_iload_n (k := 1) (pc := 53) C dX5_hang_53 rfl ?_
          refine z_iload_n (k := 2) (pc := 54) C dX5_hang_54 rfl ?_
          refine z_iload_n (k := 3) (pc := 55) C dX5_hang_55 rfl ?_
          refine z_iload (k := 4) (pc := 56) C dX5_hang_56 rfl ?_
          obtain ⟨r9, g9, hM⟩ := Option.bind_eq_some_iff.mp hM
          refine z_goN (kc := 0) (ks := 0) ([.int r9]) (z_callS (pc := 58) (As := [.int x1, .int x2, .int x3, .int x4]) (rest := []) (n := 4) C (c_X5_fits l hl G lo t0 h_1 nx x1 x2 x3 x4 r9 g9) q_227 q_228 q_5 q_229 ⟨by decide +kernel, by decide +kernel, by decide +kernel⟩ ⟨Nat.le_of_ble_eq_true rfl, Nat.le_of_ble_eq_true rfl⟩ rfl (Nat.le_of_ble_eq_true rfl) dX5_hang_58 ⟨(Nat.zero_le _), (Nat.zero_le _)⟩) rfl (Nat.le_of_ble_eq_true rfl) (Nat.le_of_ble_eq_true rfl) ?_
          refine z_if_ne (pc := 61) (tgt := 70) C dX5_hang_61 (by decide) hM (fun hc30 hM => ?_) (fun hc30 hM => ?_)
          · refine z_aload_n (k := 0) (pc := 64) C dX5_hang_64 rfl ?_
            refine z_iconst (v := (2 : Int32)) (pc := 65) C dX5_hang_65 (by decide) ?_
            obtain ⟨_, g28, hM⟩ := Option.bind_eq_some_iff.mp hM
            obtain ⟨r29, g29, hM⟩ := Option.bind_eq_some_iff.mp hM
            refine z_goN (kc := 0) (ks := 0) ([.int r29.1]) (z_callV (pc := 66) (As := [.int (2 : Int32)]) (rest := []) (n := 1) (ci := 6) C (c_X5_no l hl G lo t0 h_1 nx a0 (2 : Int32) r29 g29) g28 rfl q_223 q_224 q_225 q_5 q_226 ⟨rfl, by decide +kernel, by decide +kernel, by decide +kernel⟩ ⟨Nat.le_of_ble_eq_true rfl, Nat.le_of_ble_eq_true rfl⟩ rfl (Nat.le_of_ble_eq_true rfl) dX5_hang_66 ⟨(Nat.zero_le _), (Nat.zero_le _)⟩) rfl (Nat.le_of_ble_eq_true rfl) (Nat.le_of_ble_eq_true rfl) ?_
            cases hM
            exact z_iret (pc := 69) C rfl (Nat.zero_le _) (Nat.zero_le _) dX5_hang_69
          · refine z_aload_n (k := 0) (pc := 70) C dX5_hang_70 rfl ?_
            obtain ⟨r10, g10, hM⟩ := Option.bind_eq_some_iff.mp hM
            refine z_getI (pc := 71) (k := 1) C g10 rfl inlX5 (by decide) q_218 (fun _ h9 => h9) dX5_hang_71 ?_
            refine z_bipush (v := (10 : Int32)) (pc := 74) C dX5_hang_74 (by decide) ?_
            refine z_icmp_ne (pc := 76) (tgt := 85) C dX5_hang_76 (by decide) hM (fun hc27 hM => ?_) (fun hc27 hM => ?_)
            · refine z_aload_n (k := 0) (pc := 79) C dX5_hang_79 rfl ?_
              refine z_iconst (v := (3 : Int32)) (pc := 80) C dX5_hang_80 (by decide) ?_
              obtain ⟨_, g25, hM⟩ := Option.bind_eq_some_iff.mp hM
              obtain ⟨r26, g26, hM⟩ := Option.bind_eq_some_iff.mp hM
              refine z_goN (kc := 0) (ks := 0) ([.int r26.1]) (z_callV (pc := 81) (As := [.int (3 : Int32)]) (rest := []) (n := 1) (ci := 6) C (c_X5_no l hl G lo t0 h_1 nx a0 (3 : Int32) r26 g26) g25 rfl q_223 q_224 q_225 q_5 q_226 ⟨rfl, by decide +kernel, by decide +kernel, by decide +kernel⟩ ⟨Nat.le_of_ble_eq_true rfl, Nat.le_of_ble_eq_true rfl⟩ rfl (Nat.le_of_ble_eq_true rfl) dX5_hang_81 ⟨(Nat.zero_le _), (Nat.zero_le _)⟩) rfl (Nat.le_of_ble_eq_true rfl) (Nat.le_of_ble_eq_true rfl) ?_
              cases hM
              exact z_iret (pc := 84) C rfl (Nat.zero_le _) (Nat.zero_le _) dX5_hang_84
            · refine z_bipush (v := (8 : Int32)) (pc := 85) C dX5_hang_85 (by decide) ?_
              refine z_newI (pc := 87) (n' := 8) C q_25 (by decide) (by decide) (by decide) (Nat.le_of_ble_eq_true rfl) (Nat.le_of_ble_eq_true rfl) dX5_hang_87 ?_
              refine z_dup (pc := 89) C dX5_hang_89 rfl ?_
              refine z_iconst (v := (0 : Int32)) (pc := 90) C dX5_hang_90 (by decide) ?_
              refine z_iload_n (k := 1) (pc := 91) C dX5_hang_91 rfl ?_
              obtain ⟨h_11, g11, hM⟩ := Option.bind_eq_some_iff.mp hM
              refine z_iast (pc := 92) C g11 dX5_hang_92 ?_
              refine z_dup (pc := 93) C dX5_hang_93 rfl ?_
              refine z_iconst (v := (1 : Int32)) (pc := 94) C dX5_hang_94 (by decide) ?_
              refine z_iload_n (k := 2) (pc := 95) C dX5_hang_95 rfl ?_
              obtain ⟨h_12, g12, hM⟩ := Option.bind_eq_some_iff.mp hM
              refine z_iast (pc := 96) C g12 dX5_hang_96 ?_
              refine z_dup (pc := 97) C dX5_hang_97 rfl ?_
              refine z_iconst (v := (2 : Int32)) (pc := 98) C dX5_hang_98 (by decide) ?_
              refine z_iload_n (k := 3) (pc := 99) C dX5_hang_99 rfl ?_
              obtain ⟨h_13, g13, hM⟩ := Option.bind_eq_some_iff.mp hM
              refine z_iast (pc := 100) C g13 dX5_hang_100 ?_
              refine z_dup (pc := 101) C dX5_hang_101 rfl ?_
              refine z_iconst (v := (3 : Int32)) (pc := 102) C dX5_hang_102 (by decide) ?_
              refine z_iload (k := 4) (pc := 103) C dX5_hang_103 rfl ?_
              obtain ⟨h_14, g14, hM⟩ := Option.bind_eq_some_iff.mp hM
              refine z_iast (pc := 105) C g14 dX5_hang_105 ?_
              refine z_dup (pc := 106) C dX5_hang_106 rfl ?_
              refine z_iconst (v := (4 : Int32)) (pc := 107) C dX5_hang_107 (by decide) ?_
              refine z_iload (k := 5) (pc := 108) C dX5_hang_108 rfl ?_
              obtain ⟨h_15, g15, hM⟩ := Option.bind_eq_some_iff.mp hM
              refine z_iast (pc := 110) C g15 dX5_hang_110 ?_
              refine z_dup (pc := 111) C dX5_hang_111 rfl ?_
              refine z_iconst (v := (5 : Int32)) (pc := 112) C dX5_hang_112 (by decide) ?_
              refine z_iload (k := 6) (pc := 113) C dX5_hang_113 rfl ?_
              obtain ⟨h_16, g16, hM⟩ := Option.bind_eq_some_iff.mp hM
              refine z_iast (pc := 115) C g16 dX5_hang_115 ?_
              refine z_dup (pc := 116) C dX5_hang_116 rfl ?_
              refine z_bipush (v := (6 : Int32)) (pc := 117) C dX5_hang_117 (by decide) ?_
              refine z_iconst (v := (1 : Int32)) (pc := 119) C dX5_hang_119 (by decide) ?_
              obtain ⟨h_17, g17, hM⟩ := Option.bind_eq_some_iff.mp hM
              refine z_iast (pc := 120) C g17 dX5_hang_120 ?_
              refine z_dup (pc := 121) C dX5_hang_121 rfl ?_
              refine z_bipush (v := (7 : Int32)) (pc := 122) C dX5_hang_122 (by decide) ?_
              refine z_iconst (v := (0 : Int32)) (pc := 124) C dX5_hang_124 (by decide) ?_
              obtain ⟨h_18, g18, hM⟩ := Option.bind_eq_some_iff.mp hM
              refine z_iast (pc := 125) C g18 dX5_hang_125 ?_
              refine z_astore (lv' := [(7, .ref nx), (0, .ref a0), (1, .int x1), (2, .int x2), (3, .int x3), (4, .int x4), (5, .int x5), (6, .int x6)]) (pc := 126) C dX5_hang_126 (by decide) rfl ?_
              refine z_aload (k := 0) (pc := 128) C dX5_hang_128 rfl ?_
              refine z_iconst (v := (0 : Int32)) (pc := 130) C dX5_hang_130 (by decide) ?_
              refine z_aload_n (k := 1) (pc := 131) C dX5_hang_131 rfl ?_
              obtain ⟨r19, g19, hM⟩ := Option.bind_eq_some_iff.mp hM
              refine z_getR (pc := 132) (k := 2) C g19 rfl inlX5 (by decide) q_69 (fun _ h9 => h9) dX5_hang_132 ?_
              refine z_bipush (v := (8 : Int32)) (pc := 135) C dX5_hang_135 (by decide) ?_
              refine z_aload_n (k := 1) (pc := 137) C dX5_hang_137 rfl ?_
              obtain ⟨r20, g20, hM⟩ := Option.bind_eq_some_iff.mp hM
              refine z_getI (pc := 138) (k := 1) C g20 rfl inlX5 (by decide) q_218 (fun _ h9 => h9) dX5_hang_138 ?_
              refine z_imul (pc := 141) C dX5_hang_141 ?_
              refine z_bipush (v := (8 : Int32)) (pc := 142) C dX5_hang_142 (by decide) ?_
              obtain ⟨h_21, g21, hM⟩ := Option.bind_eq_some_iff.mp hM
              refine z_copyI (pc := 144) C g21 q_219 q_175 q_176 q_177 (Nat.le_of_ble_eq_true rfl) (Nat.le_of_ble_eq_true rfl) dX5_hang_144 ?_
              refine z_aload_n (k := 1) (pc := 147) C dX5_hang_147 rfl ?_
              refine z_dup (pc := 148) C dX5_hang_148 rfl ?_
              obtain ⟨r22, g22, hM⟩ := Option.bind_eq_some_iff.mp hM
              refine z_getI (pc := 149) (k := 1) C g22 rfl inlX5 (by decide) q_218 (fun _ h9 => h9) dX5_hang_149 ?_
              refine z_iconst (v := (1 : Int32)) (pc := 152) C dX5_hang_152 (by decide) ?_
              refine z_iadd (pc := 153) C dX5_hang_153 ?_
              obtain ⟨h_23, g23, hM⟩ := Option.bind_eq_some_iff.mp hM
              refine z_put (pc := 154) (k := 1) C g23 rfl inlX5 tyX5 tyX5_ok nmX5 (by decide) q_218 (fun _ h9 => h9) rfl (tyX5_ok 1 (by decide)) rfl rfl dX5_hang_154 ?_
              refine z_aload_n (k := 1) (pc := 157) C dX5_hang_157 rfl ?_
              obtain ⟨r24, g24, hM⟩ := Option.bind_eq_some_iff.mp hM
              refine z_getI (pc := 158) (k := 1) C g24 rfl inlX5 (by decide) q_218 (fun _ h9 => h9) dX5_hang_158 ?_
              refine z_iconst (v := (1 : Int32)) (pc := 161) C dX5_hang_161 (by decide) ?_
              refine z_isub (pc := 162) C dX5_hang_162 ?_
              cases hM
              exact z_iret (pc := 163) C rfl (Nat.le_of_ble_eq_true rfl) (Nat.le_of_ble_eq_true rfl) dX5_hang_163
set_option maxHeartbeats 4000000 in
set_option maxRecDepth 100000 in
theorem c_X5_roll (l : Launch) (hl : l.stackTraces = false) (G : zG) (lo t0 : Nat) (h : zH) (nx : Nat) (a0 : Nat) (x1 : Int32) (o : Int32 × zH) (hM : M_X5_roll h a0 x1 = some o) : z_Met l yX5_roll cX5_roll 2 (some .boolean) 2 43 G lo t0 [.ref a0, .int x1] h nx (.inr (some (.int o.1), o.2, nx)) 0 0 := by
  refine z_of [(0, .ref a0), (1, .int x1)] (by decide) (Nat.le_of_ble_eq_true rfl) rfl (fun p e s m below meth c C hin => ?_)
  unfold M_X5_roll at hM
  refine z_aload_n (k := 0) (pc := 0) C dX5_roll_0 rfl ?_
  refine z_aload_n (k := 0) (pc := 1) C dX5_roll_1 rfl ?_
  refine z_iload_n (k := 1) (pc := 2) C dX5_roll_2 rfl ?_
  obtain ⟨_, g1, hM⟩ := Option.bind_eq_some_iff.mp hM
  obtain ⟨r2, g2, hM⟩ := Option.bind_eq_some_iff.mp hM
  refine z_goN (kc := 0) (ks := 0) ([.int r2, .ref a0]) (z_callV (pc := 3) (As := [.int x1]) (rest := [.ref a0]) (n := 1) (ci := 6) C (c_X5_isAwning l hl G lo t0 h nx a0 x1 r2 g2) g1 rfl q_252 q_253 q_254 q_5 q_255 ⟨rfl, by decide +kernel, by decide +kernel, by decide +kernel⟩ ⟨Nat.le_of_ble_eq_true rfl, Nat.le_of_ble_eq_true rfl⟩ rfl (Nat.le_of_ble_eq_true rfl) dX5_roll_3 ⟨(Nat.zero_le _), (Nat.zero_le _)⟩) rfl (Nat.le_of_ble_eq_true rfl) (Nat.le_of_ble_eq_true rfl) ?_
  refine zj2 0 0 14 (fun (b0_3 : Nat) (s1_3 : Int32) => [(0, .ref a0), (1, .int x1)]) (fun (b0_3 : Nat) (s1_3 : Int32) => [.int s1_3, .ref b0_3]) (fun (b0_3 : Nat) (s1_3 : Int32) => h) (fun (b0_3 : Nat) (s1_3 : Int32) => nx) hM (fun b0_3 s1_3 hM => ?_) (fun J3 iJ3 hM => ?_)
  · obtain ⟨h_4, g4, hM⟩ := Option.bind_eq_some_iff.mp hM
    refine z_put (pc := 14) (k := 0) C g4 rfl inlX5 tyX5 tyX5_ok nmX5 (by decide) q_217 (fun _ h9 => h9) rfl (tyX5_ok 0 (by decide)) rfl rfl dX5_roll_14 ?_
    refine z_aload_n (k := 0) (pc := 17) C dX5_roll_17 rfl ?_
    obtain ⟨r5, g5, hM⟩ := Option.bind_eq_some_iff.mp hM
    refine z_getI (pc := 18) (k := 0) C g5 rfl inlX5 (by decide) q_217 (fun _ h9 => h9) dX5_roll_18 ?_
    refine z_if_eq (pc := 21) (tgt := 26) C dX5_roll_21 (by decide) hM (fun hc13 hM => ?_) (fun hc13 hM => ?_)
    · refine z_aload_n (k := 0) (pc := 26) C dX5_roll_26 rfl ?_
      obtain ⟨r6, g6, hM⟩ := Option.bind_eq_some_iff.mp hM
      refine z_getR (pc := 27) (k := 2) C g6 rfl inlX5 (by decide) q_69 (fun _ h9 => h9) dX5_roll_27 ?_
      refine z_bipush (v := (8 : Int32)) (pc := 30) C dX5_roll_30 (by decide) ?_
      refine z_iload_n (k := 1) (pc := 32) C dX5_roll_32 rfl ?_
      refine z_imul (pc := 33) C dX5_roll_33 ?_
      refine z_bipush (v := (6 : Int32)) (pc := 34) C dX5_roll_34 (by decide) ?_
      refine z_iadd (pc := 36) C dX5_roll_36 ?_
      refine z_iconst (v := (1 : Int32)) (pc := 37) C dX5_roll_37 (by decide) ?_
      refine z_aload_n (k := 0) (pc := 38) C dX5_roll_38 rfl ?_
      refine z_iload_n (k := 1) (pc := 39) C dX5_roll_39 rfl ?_
      refine z_bipush (v := (6 : Int32)) (pc := 40) C dX5_roll_40 (by decide) ?_
      obtain ⟨_, g7, hM⟩ := Option.bind_eq_some_iff.mp hM
      obtain ⟨r8, g8, hM⟩ := Option.bind_eq_some_iff.mp hM
      refine z_goN (kc := 0) (ks := 0) ([.int r8, .int (1 : Int32), .int (((8 : Int32) * x1) + (6 : Int32)), .ref r6]) (z_callV (pc := 42) (As := [.int x1, .int (6 : Int32)]) (rest := [.int (1 : Int32), .int (((8 : Int32) * x1) + (6 : Int32)), .ref r6]) (n := 2) (ci := 6) C (c_X5_of l hl G lo t0 h_4 nx a0 x1 (6 : Int32) r8 g8) g7 rfl q_256 q_257 q_258 q_5 q_259 ⟨rfl, by decide +kernel, by decide +kernel, by decide +kernel⟩ ⟨Nat.le_of_ble_eq_true rfl, Nat.le_of_ble_eq_true rfl⟩ rfl (Nat.le_of_ble_eq_true rfl) dX5_roll_42 ⟨(Nat.zero_le _), (Nat.zero_le _)⟩) rfl (Nat.le_of_ble_eq_true rfl) (Nat.le_of_ble_eq_true rfl) ?_
      refine z_isub (pc := 45) C dX5_roll_45 ?_
      obtain ⟨h_9, g9, hM⟩ := Option.bind_eq_some_iff.mp hM
      refine z_iast (pc := 46) C g9 dX5_roll_46 ?_
      refine z_aload_n (k := 0) (pc := 47) C dX5_roll_47 rfl ?_
      refine z_iload_n (k := 1) (pc := 48) C dX5_roll_48 rfl ?_
      obtain ⟨_, g10, hM⟩ := Option.bind_eq_some_iff.mp hM
      obtain ⟨r11, g11, hM⟩ := Option.bind_eq_some_iff.mp hM
      refine z_goN (kc := 0) (ks := 0) ([.int r11]) (z_callV (pc := 49) (As := [.int x1]) (rest := []) (n := 1) (ci := 6) C (c_X5_isOut l hl G lo t0 h_9 nx a0 x1 r11 g11) g10 rfl q_260 q_261 q_262 q_5 q_263 ⟨rfl, by decide +kernel, by decide +kernel, by decide +kernel⟩ ⟨Nat.le_of_ble_eq_true rfl, Nat.le_of_ble_eq_true rfl⟩ rfl (Nat.le_of_ble_eq_true rfl) dX5_roll_49 ⟨(Nat.zero_le _), (Nat.zero_le _)⟩) rfl (Nat.le_of_ble_eq_true rfl) (Nat.le_of_ble_eq_true rfl) ?_
      obtain ⟨hc12, hM⟩ := z_gy hM
      cases hM
      exact z_zret (pc := 52) C hc12 rfl (Nat.zero_le _) (Nat.zero_le _) dX5_roll_52
    · refine z_iconst (v := (0 : Int32)) (pc := 24) C dX5_roll_24 (by decide) ?_
      cases hM
      exact z_zret (pc := 25) C (Or.inl rfl) rfl (Nat.zero_le _) (Nat.zero_le _) dX5_roll_25
  refine z_if_eq (pc := 6) (tgt := 13) C dX5_roll_6 (by decide) hM (fun hc14 hM => ?_) (fun hc14 hM => ?_)
  · refine z_iconst (v := (1 : Int32)) (pc := 13) C dX5_roll_13 (by decide) ?_
    exact z_sub [0, 1] rfl (iJ3 a0 (1 : Int32) hM)
  · refine z_iconst (v := (0 : Int32)) (pc := 9) C dX5_roll_9 (by decide) ?_
    refine z_goto (pc := 10) (tgt := 14) C dX5_roll_10 (by decide) ?_
    exact z_sub [0, 1] rfl (iJ3 a0 (0 : Int32) hM)
set_option maxHeartbeats 4000000 in
set_option maxRecDepth 100000 in
theorem c_X5_out (l : Launch) (hl : l.stackTraces = false) (G : zG) (lo t0 : Nat) (h : zH) (nx : Nat) (a0 : Nat) (o : Int32) (hM : M_X5_out h a0 = some o) : z_Met l yX5_out cX5_out 3 (some .int) 1 22 G lo t0 [.ref a0] h nx (.inr (some (.int o), h, nx)) 0 0 := by
  refine z_of [(0, .ref a0)] (by decide) (Nat.le_of_ble_eq_true rfl) rfl (fun p e s m below meth c C hin => ?_)
  unfold M_X5_out at hM
  refine z_iconst (v := (0 : Int32)) (pc := 0) C dX5_out_0 (by decide) ?_
  refine z_istore_n (lv' := [(1, .int (0 : Int32)), (0, .ref a0)]) (pc := 1) C dX5_out_1 (by decide) rfl ?_
  refine z_iconst (v := (0 : Int32)) (pc := 2) C dX5_out_2 (by decide) ?_
  refine z_istore_n (lv' := [(2, .int (0 : Int32)), (1, .int (0 : Int32)), (0, .ref a0)]) (pc := 3) C dX5_out_3 (by decide) rfl ?_
  refine z_sub [2, 1, 0] rfl (zl2 (fun (x1_1 : Int32) (x2_1 : Int32) => [(0, .ref a0), (1, .int x1_1), (2, .int x2_1)]) (fun (x1_1 : Int32) (x2_1 : Int32) => h) (fun (x1_1 : Int32) (x2_1 : Int32) => nx) hM (fun rec1 irec1 x1_1 x2_1 hM => ?_))
  refine z_iload_n (k := 2) (pc := 4) C dX5_out_4 rfl ?_
  refine z_aload_n (k := 0) (pc := 5) C dX5_out_5 rfl ?_
  obtain ⟨r2, g2, hM⟩ := Option.bind_eq_some_iff.mp hM
  refine z_getI (pc := 6) (k := 1) C g2 rfl inlX5 (by decide) q_218 (fun _ h9 => h9) dX5_out_6 ?_
  refine z_icmp_ge (pc := 9) (tgt := 28) C dX5_out_9 (by decide) hM (fun hc5 hM => ?_) (fun hc5 hM => ?_)
  · refine z_iload_n (k := 1) (pc := 28) C dX5_out_28 rfl ?_
    cases hM
    exact z_iret (pc := 29) C rfl (Nat.zero_le _) (Nat.zero_le _) dX5_out_29
  · refine z_iload_n (k := 1) (pc := 12) C dX5_out_12 rfl ?_
    refine z_aload_n (k := 0) (pc := 13) C dX5_out_13 rfl ?_
    refine z_iload_n (k := 2) (pc := 14) C dX5_out_14 rfl ?_
    refine z_bipush (v := (6 : Int32)) (pc := 15) C dX5_out_15 (by decide) ?_
    obtain ⟨_, g3, hM⟩ := Option.bind_eq_some_iff.mp hM
    obtain ⟨r4, g4, hM⟩ := Option.bind_eq_some_iff.mp hM
    refine z_goN (kc := 0) (ks := 0) ([.int r4, .int x1_1]) (z_callV (pc := 17) (As := [.int x2_1, .int (6 : Int32)]) (rest := [.int x1_1]) (n := 2) (ci := 6) C (c_X5_of l hl G lo t0 h nx a0 x2_1 (6 : Int32) r4 g4) g3 rfl q_256 q_257 q_258 q_5 q_259 ⟨rfl, by decide +kernel, by decide +kernel, by decide +kernel⟩ ⟨Nat.le_of_ble_eq_true rfl, Nat.le_of_ble_eq_true rfl⟩ rfl (Nat.le_of_ble_eq_true rfl) dX5_out_17 ⟨(Nat.zero_le _), (Nat.zero_le _)⟩) rfl (Nat.le_of_ble_eq_true rfl) (Nat.le_of_ble_eq_true rfl) ?_
    refine z_iadd (pc := 20) C dX5_out_20 ?_
    refine z_istore_n (lv' := [(1, .int (x1_1 + r4)), (0, .ref a0), (2, .int x2_1)]) (pc := 21) C dX5_out_21 (by decide) rfl ?_
    refine z_iinc (k := 2) (v := (x2_1 + (1 : Int32))) (lv' := [(2, .int (x2_1 + (1 : Int32))), (1, .int (x1_1 + r4)), (0, .ref a0)]) (pc := 22) C dX5_out_22 rfl (by first | rfl | decide) (by decide) rfl ?_
    refine z_goto (pc := 25) (tgt := 4) C dX5_out_25 (by decide) ?_
    exact z_sub [2, 1, 0] rfl (irec1 (x1_1 + r4) (x2_1 + (1 : Int32)) hM)
set_option maxHeartbeats 4000000 in
set_option maxRecDepth 100000 in
theorem c_X5_outline (l : Launch) (hl : l.stackTraces = false) (G : zG) (lo t0 : Nat) (h : zH) (nx : Nat) (a0 : Nat) (o : Int32) (hM : M_X5_outline h a0 = some o) : z_Met l yX5_outline cX5_outline 4 (some .int) 5 110 G lo t0 [.ref a0] h nx (.inr (some (.int o), h, nx)) 0 0 := by
  refine z_of [(0, .ref a0)] (by decide) (Nat.le_of_ble_eq_true rfl) rfl (fun p e s m below meth c C hin => ?_)
  unfold M_X5_outline at hM
  refine z_iconst (v := (0 : Int32)) (pc := 0) C dX5_outline_0 (by decide) ?_
  refine z_istore_n (lv' := [(1, .int (0 : Int32)), (0, .ref a0)]) (pc := 1) C dX5_outline_1 (by decide) rfl ?_
  refine z_iconst (v := (0 : Int32)) (pc := 2) C dX5_outline_2 (by decide) ?_
  refine z_istore_n (lv' := [(2, .int (0 : Int32)), (1, .int (0 : Int32)), (0, .ref a0)]) (pc := 3) C dX5_outline_3 (by decide) rfl ?_
  refine z_sub [2, 1, 0] rfl (zl2 (fun (x1_1 : Int32) (x2_1 : Int32) => [(0, .ref a0), (1, .int x1_1), (2, .int x2_1)]) (fun (x1_1 : Int32) (x2_1 : Int32) => h) (fun (x1_1 : Int32) (x2_1 : Int32) => nx) hM (fun rec1 irec1 x1_1 x2_1 hM => ?_))
  refine z_iload_n (k := 2) (pc := 4) C dX5_outline_4 rfl ?_
  refine z_bipush (v := (24 : Int32)) (pc := 5) C dX5_outline_5 (by decide) ?_
  refine z_icmp_gt (pc := 7) (tgt := 46) C dX5_outline_7 (by decide) hM (fun hc7 hM => ?_) (fun hc7 hM => ?_)
  · refine z_iload_n (k := 1) (pc := 46) C dX5_outline_46 rfl ?_
    cases hM
    exact z_iret (pc := 47) C rfl (Nat.zero_le _) (Nat.zero_le _) dX5_outline_47
  · refine z_aload_n (k := 0) (pc := 10) C dX5_outline_10 rfl ?_
    refine z_iload_n (k := 2) (pc := 11) C dX5_outline_11 rfl ?_
    obtain ⟨_, g2, hM⟩ := Option.bind_eq_some_iff.mp hM
    obtain ⟨r3, g3, hM⟩ := Option.bind_eq_some_iff.mp hM
    refine z_goN (kc := 0) (ks := 0) ([.int r3]) (z_callV (pc := 12) (As := [.int x2_1]) (rest := []) (n := 1) (ci := 6) C (c_X5_covered_ l hl G lo t0 h nx a0 x2_1 r3 g3) g2 rfl q_302 q_303 q_304 q_5 q_305 ⟨rfl, by decide +kernel, by decide +kernel, by decide +kernel⟩ ⟨Nat.le_of_ble_eq_true rfl, Nat.le_of_ble_eq_true rfl⟩ rfl (Nat.le_of_ble_eq_true rfl) dX5_outline_12 ⟨(Nat.zero_le _), (Nat.zero_le _)⟩) rfl (Nat.le_of_ble_eq_true rfl) (Nat.le_of_ble_eq_true rfl) ?_
    refine z_istore_n (lv' := [(3, .int r3), (0, .ref a0), (1, .int x1_1), (2, .int x2_1)]) (pc := 15) C dX5_outline_15 (by decide) rfl ?_
    refine z_iload_n (k := 2) (pc := 16) C dX5_outline_16 rfl ?_
    refine z_iload_n (k := 0) (pc := 17) C dX5_outline_17 rfl ?_
    refine z_iload_n (k := 0) (pc := 18) C dX5_outline_18 rfl ?_
    refine z_iconst (v := (1 : Int32)) (pc := 19) C dX5_outline_19 (by decide) ?_
    refine z_ishl (pc := 20) C dX5_outline_20 ?_
    refine z_ixor (pc := 21) C dX5_outline_21 ?_
    obtain ⟨r4, g4, hM⟩ := Option.bind_eq_some_iff.mp hM
    refine z_goN (kc := 0) (ks := 0) ([.int r4, .int x1_1]) (z_callS (pc := 22) (As := [.int (r3 ^^^ (r3 <<< ((1 : Int32) &&& 31)))]) (rest := [.int x1_1]) (n := 1) C (c_X5_many l hl G lo t0 h nx (r3 ^^^ (r3 <<< ((1 : Int32) &&& 31))) r4 g4) q_317 q_318 q_5 q_319 ⟨by decide +kernel, by decide +kernel, by decide +kernel⟩ ⟨Nat.le_of_ble_eq_true rfl, Nat.le_of_ble_eq_true rfl⟩ rfl (Nat.le_of_ble_eq_true rfl) dX5_outline_22 ⟨(Nat.zero_le _), (Nat.zero_le _)⟩) rfl (Nat.le_of_ble_eq_true rfl) (Nat.le_of_ble_eq_true rfl) ?_
    refine z_iload_n (k := 0) (pc := 25) C dX5_outline_25 rfl ?_
    refine z_aload_n (k := 1) (pc := 26) C dX5_outline_26 rfl ?_
    refine z_iload_n (k := 3) (pc := 27) C dX5_outline_27 rfl ?_
    refine z_iconst (v := (1 : Int32)) (pc := 28) C dX5_outline_28 (by decide) ?_
    refine z_isub (pc := 29) C dX5_outline_29 ?_
    obtain ⟨r5, g5, hM⟩ := Option.bind_eq_some_iff.mp hM
    refine z_goN (kc := 0) (ks := 0) ([.int r5, .int r3, .int r4, .int x1_1]) (z_callV (pc := 30) (As := [.int (x2_1 - (1 : Int32))]) (rest := [.int r3, .int r4, .int x1_1]) (n := 1) (ci := 6) C (c_X5_covered_ l hl G lo t0 h nx a0 (x2_1 - (1 : Int32)) r5 g5) g2 rfl q_302 q_303 q_304 q_5 q_305 ⟨rfl, by decide +kernel, by decide +kernel, by decide +kernel⟩ ⟨Nat.le_of_ble_eq_true rfl, Nat.le_of_ble_eq_true rfl⟩ rfl (Nat.le_of_ble_eq_true rfl) dX5_outline_30 ⟨(Nat.zero_le _), (Nat.zero_le _)⟩) rfl (Nat.le_of_ble_eq_true rfl) (Nat.le_of_ble_eq_true rfl) ?_
    refine z_ixor (pc := 33) C dX5_outline_33 ?_
    obtain ⟨r6, g6, hM⟩ := Option.bind_eq_some_iff.mp hM
    refine z_goN (kc := 0) (ks := 0) ([.int r6, .int r4, .int x1_1]) (z_callS (pc := 34) (As := [.int (r3 ^^^ r5)]) (rest := [.int r4, .int x1_1]) (n := 1) C (c_X5_many l hl G lo t0 h nx (r3 ^^^ r5) r6 g6) q_317 q_318 q_5 q_319 ⟨by decide +kernel, by decide +kernel, by decide +kernel⟩ ⟨Nat.le_of_ble_eq_true rfl, Nat.le_of_ble_eq_true rfl⟩ rfl (Nat.le_of_ble_eq_true rfl) dX5_outline_34 ⟨(Nat.zero_le _), (Nat.zero_le _)⟩) rfl (Nat.le_of_ble_eq_true rfl) (Nat.le_of_ble_eq_true rfl) ?_
    refine z_iadd (pc := 37) C dX5_outline_37 ?_
    refine z_iadd (pc := 38) C dX5_outline_38 ?_
    refine z_istore_n (lv' := [(1, .int (x1_1 + (r4 + r6))), (3, .int r3), (0, .ref a0), (2, .int x2_1)]) (pc := 39) C dX5_outline_39 (by decide) rfl ?_
    refine z_iinc (k := 3) (v := (x2_1 + (1 : Int32))) (lv' := [(2, .int (x2_1 + (1 : Int32))), (1, .int (x1_1 + (r4 + r6))), (3, .int r3), (0, .ref a0)]) (pc := 40) C dX5_outline_40 rfl (by first | rfl | decide) (by decide) rfl ?_
    refine z_goto (pc := 43) (tgt := 4) C dX5_outline_43 (by decide) ?_
    exact z_sub [3, 1, 0] rfl (irec1 (x1_1 + (r4 + r6)) (x2_1 + (1 : Int32)) hM)
set_option maxHeartbeats 4000000 in
set_option maxRecDepth 100000 in
theorem c_X5_spreads (l : Launch) (hl : l.stackTraces = false) (G : zG) (lo t0 : Nat) (h : zH) (nx : Nat) (a0 : Nat) (a1 : Nat) (o : Int32 × zH) (hM : M_X5_spreads h a0 a1 = some o) : z_Met l yX5_spreads cX5_spreads 5 (some .boolean) 0 0 G lo t0 [.ref a0, .ref a1] h nx (.inr (some (.int o.1), o.2, nx)) 0 0 := by
  refine z_of [(0, .ref a0), (1, .ref a1)] (by decide) (Nat.le_of_ble_eq_true rfl) rfl (fun p e s m below meth c C hin => ?_)
  unfold M_X5_spreads at hM
  refine z_iconst (v := (0 : Int32)) (pc := 0) C dX5_spreads_0 (by decide) ?_
  refine z_istore_n (lv' := [(2, .int (0 : Int32)), (0, .ref a0), (1, .ref a1)]) (pc := 1) C dX5_spreads_1 (by decide) rfl ?_
  refine z_iconst (v := (1 : Int32)) (pc := 2) C dX5_spreads_2 (by decide) ?_
  refine z_istore_n (lv' := [(3, .int (1 : Int32)), (2, .int (0 : Int32)), (0, .ref a0), (1, .ref a1)]) (pc := 3) C dX5_spreads_3 (by decide) rfl ?_
  refine z_sub [2, 3, 1, 0] rfl (zl3 (fun (x2_1 : Int32) (x3_1 : Int32) (h_1 : zH) => [(0, .ref a0), (1, .ref a1), (2, .int x2_1), (3, .int x3_1)]) (fun (x2_1 : Int32) (x3_1 : Int32) (h_1 : zH) => h_1) (fun (x2_1 : Int32) (x3_1 : Int32) (h_1 : zH) => nx) hM (fun rec1 irec1 x2_1 x3_1 h_1 hM => ?_))
  refine z_iload_n (k := 3) (pc := 4) C dX5_spreads_4 rfl ?_
  refine z_bipush (v := (24 : Int32)) (pc := 5) C dX5_spreads_5 (by decide) ?_
  refine z_icmp_gt (pc := 7) (tgt := 70) C dX5_spreads_7 (by decide) hM (fun hc13 hM => ?_) (fun hc13 hM => ?_)
  · refine z_iload_n (k := 2) (pc := 70) C dX5_spreads_70 rfl ?_
    obtain ⟨hc2, hM⟩ := z_gy hM
    cases hM
    exact z_zret (pc := 71) C hc2 rfl (Nat.zero_le _) (Nat.zero_le _) dX5_spreads_71
  · refine z_aload_n (k := 0) (pc := 10) C dX5_spreads_10 rfl ?_
    refine z_iload_n (k := 3) (pc := 11) C dX5_spreads_11 rfl ?_
    obtain ⟨r3, g3, hM⟩ := Option.bind_eq_some_iff.mp hM
    refine z_iald (pc := 12) C g3 dX5_spreads_12 ?_
    refine z_aload_n (k := 0) (pc := 13) C dX5_spreads_13 rfl ?_
    refine z_iload_n (k := 3) (pc := 14) C dX5_spreads_14 rfl ?_
    obtain ⟨r4, g4, hM⟩ := Option.bind_eq_some_iff.mp hM
    refine z_iald (pc := 15) C g4 dX5_spreads_15 ?_
    refine z_iconst (v := (1 : Int32)) (pc := 16) C dX5_spreads_16 (by decide) ?_
    refine z_ishl (pc := 17) C dX5_spreads_17 ?_
    refine z_ior (pc := 18) C dX5_spreads_18 ?_
    refine z_aload_n (k := 0) (pc := 19) C dX5_spreads_19 rfl ?_
    refine z_iload_n (k := 3) (pc := 20) C dX5_spreads_20 rfl ?_
    obtain ⟨r5, g5, hM⟩ := Option.bind_eq_some_iff.mp hM
    refine z_iald (pc := 21) C g5 dX5_spreads_21 ?_
    refine z_iconst (v := (1 : Int32)) (pc := 22) C dX5_spreads_22 (by decide) ?_
    refine z_ishr (pc := 23) C dX5_spreads_23 ?_
    refine z_ior (pc := 24) C dX5_spreads_24 ?_
    refine z_aload_n (k := 0) (pc := 25) C dX5_spreads_25 rfl ?_
    refine z_iload_n (k := 3) (pc := 26) C dX5_spreads_26 rfl ?_
    refine z_iconst (v := (1 : Int32)) (pc := 27) C dX5_spreads_27 (by decide) ?_
    refine z_isub (pc := 28) C dX5_spreads_28 ?_
    obtain ⟨r6, g6, hM⟩ := Option.bind_eq_some_iff.mp hM
    refine z_iald (pc := 29) C g6 dX5_spreads_29 ?_
    refine z_ior (pc := 30) C dX5_spreads_30 ?_
    refine z_aload_n (k := 0) (pc := 31) C dX5_spreads_31 rfl ?_
    refine z_iload_n (k := 3) (pc := 32) C dX5_spreads_32 rfl ?_
    refine z_iconst (v := (1 : Int32)) (pc := 33) C dX5_spreads_33 (by decide) ?_
    refine z_iadd (pc := 34) C dX5_spreads_34 ?_
    obtain ⟨r7, g7, hM⟩ := Option.bind_eq_some_iff.mp hM
    refine z_iald (pc := 35) C g7 dX5_spreads_35 ?_
    refine z_ior (pc := 36) C dX5_spreads_36 ?_
    refine z_aload_n (k := 1) (pc := 37) C dX5_spreads_37 rfl ?_
    refine z_iload_n (k := 3) (pc := 38) C dX5_spreads_38 rfl ?_
    obtain ⟨r8, g8, hM⟩ := Option.bind_eq_some_iff.mp hM
    refine z_iald (pc := 39) C g8 dX5_spreads_39 ?_
    refine z_iand (pc := 40) C dX5_spreads_40 ?_
    refine z_istore (lv' := [(4, .int (((((r3 ||| (r4 <<< ((1 : Int32) &&& 31))) ||| (r5 >>> ((1 : Int32) &&& 31))) ||| r6) ||| r7) &&& r8)), (0, .ref a0), (1, .ref a1), (2, .int x2_1), (3, .int x3_1)]) (pc := 41) C dX5_spreads_41 (by decide) rfl ?_
    refine z_iload_n (k := 3) (pc := 43) C dX5_spreads_43 rfl ?_
    refine z_iload (k := 0) (pc := 44) C dX5_spreads_44 rfl ?_
    refine z_aload_n (k := 1) (pc := 46) C dX5_spreads_46 rfl ?_
    refine z_iload_n (k := 4) (pc := 47) C dX5_spreads_47 rfl ?_
    obtain ⟨r9, g9, hM⟩ := Option.bind_eq_some_iff.mp hM
    refine z_iald (pc := 48) C g9 dX5_spreads_48 ?_
    refine zj2 0 0 57 (fun (s0_10 : Int32) (s1_10 : Int32) => [(0, .ref a0), (1, .ref a1), (3, .int x3_1), (4, .int (((((r3 ||| (r4 <<< ((1 : Int32) &&& 31))) ||| (r5 >>> ((1 : Int32) &&& 31))) ||| r6) ||| r7) &&& r8))]) (fun (s0_10 : Int32) (s1_10 : Int32) => [.int s1_10, .int s0_10]) (fun (s0_10 : Int32) (s1_10 : Int32) => h_1) (fun (s0_10 : Int32) (s1_10 : Int32) => nx) hM (fun s0_10 s1_10 hM => ?_) (fun J10 iJ10 hM => ?_)
    · refine z_ior (pc := 57) C dX5_spreads_57 ?_
      refine z_istore_n (lv' := [(2, .int (s0_10 ||| s1_10)), (0, .ref a0), (1, .ref a1), (3, .int x3_1), (4, .int (((((r3 ||| (r4 <<< ((1 : Int32) &&& 31))) ||| (r5 >>> ((1 : Int32) &&& 31))) ||| r6) ||| r7) &&& r8))]) (pc := 58) C dX5_spreads_58 (by decide) rfl ?_
      refine z_aload_n (k := 1) (pc := 59) C dX5_spreads_59 rfl ?_
      refine z_iload_n (k := 3) (pc := 60) C dX5_spreads_60 rfl ?_
      refine z_iload (k := 4) (pc := 61) C dX5_spreads_61 rfl ?_
      obtain ⟨h_11, g11, hM⟩ := Option.bind_eq_some_iff.mp hM
      refine z_iast (pc := 63) C g11 dX5_spreads_63 ?_
      refine z_iinc (k := 3) (v := (x3_1 + (1 : Int32))) (lv' := [(3, .int (x3_1 + (1 : Int32))), (2, .int (s0_10 ||| s1_10)), (0, .ref a0), (1, .ref a1), (4, .int (((((r3 ||| (r4 <<< ((1 : Int32) &&& 31))) ||| (r5 >>> ((1 : Int32) &&& 31))) ||| r6) ||| r7) &&& r8))]) (pc := 64) C dX5_spreads_64 rfl (by first | rfl | decide) (by decide) rfl ?_
      refine z_goto (pc := 67) (tgt := 4) C dX5_spreads_67 (by decide) ?_
      exact z_sub [2, 3, 1, 0] rfl (irec1 (s0_10 ||| s1_10) (x3_1 + (1 : Int32)) h_11 hM)
    refine z_icmp_eq (pc := 49) (tgt := 56) C dX5_spreads_49 (by decide) hM (fun hc12 hM => ?_) (fun hc12 hM => ?_)
    · refine z_iconst (v := (0 : Int32)) (pc := 56) C dX5_spreads_56 (by decide) ?_
      exact z_sub [1, 2, 4, 0] rfl (iJ10 x2_1 (0 : Int32) hM)
    · refine z_iconst (v := (1 : Int32)) (pc := 52) C dX5_spreads_52 (by decide) ?_
      refine z_goto (pc := 53) (tgt := 57) C dX5_spreads_53 (by decide) ?_
      exact z_sub [1, 2, 4, 0] rfl (iJ10 x2_1 (1 : Int32) hM)
set_option maxHeartbeats 4000000 in
set_option maxRecDepth 100000 in
theorem c_X5_parts (l : Launch) (hl : l.stackTraces = false) (G : zG) (lo t0 : Nat) (h : zH) (nx : Nat) (a0 : Nat) (o : Int32 × zH × Nat) (hM : M_X5_parts h nx a0 = some o) : z_Met l yX5_parts cX5_parts 7 (some .int) 5 110 G lo t0 [.ref a0] h nx (.inr (some (.int o.1), o.2.1, o.2.2)) 2 52 := by
  refine z_of [(0, .ref a0)] (by decide) (Nat.le_of_ble_eq_true rfl) rfl (fun p e s m below meth c C hin => ?_)
  unfold M_X5_parts at hM
  refine z_bipush (v := (26 : Int32)) (pc := 0) C dX5_parts_0 (by decide) ?_
  refine z_newI (pc := 2) (n' := 26) C q_25 (by decide) (by decide) (by decide) (Nat.le_of_ble_eq_true rfl) (Nat.le_of_ble_eq_true rfl) dX5_parts_2 ?_
  refine z_astore_n (lv' := [(1, .ref nx), (0, .ref a0)]) (pc := 4) C dX5_parts_4 (by decide) rfl ?_
  refine z_bipush (v := (26 : Int32)) (pc := 5) C dX5_parts_5 (by decide) ?_
  refine z_newI (pc := 7) (n' := 26) C q_25 (by decide) (by decide) (by decide) (Nat.le_of_ble_eq_true rfl) (Nat.le_of_ble_eq_true rfl) dX5_parts_7 ?_
  refine z_astore_n (lv' := [(2, .ref (nx + 1)), (1, .ref nx), (0, .ref a0)]) (pc := 9) C dX5_parts_9 (by decide) rfl ?_
  refine z_iconst (v := (0 : Int32)) (pc := 10) C dX5_parts_10 (by decide) ?_
  refine z_istore_n (lv' := [(3, .int (0 : Int32)), (2, .ref (nx + 1)), (1, .ref nx), (0, .ref a0)]) (pc := 11) C dX5_parts_11 (by decide) rfl ?_
  refine z_sub [3, 2, 1, 0] rfl (zl2 (fun (x3_1 : Int32) (h_1 : zH) => [(0, .ref a0), (1, .ref nx), (2, .ref (nx + 1)), (3, .int x3_1)]) (fun (x3_1 : Int32) (h_1 : zH) => h_1) (fun (x3_1 : Int32) (h_1 : zH) => ((nx + 1) + 1)) hM (fun rec1 irec1 x3_1 h_1 hM => ?_))
  refine z_iload_n (k := 3) (pc := 12) C dX5_parts_12 rfl ?_
  refine z_bipush (v := (24 : Int32)) (pc := 13) C dX5_parts_13 (by decide) ?_
  refine z_icmp_ge (pc := 15) (tgt := 34) C dX5_parts_15 (by decide) hM (fun hc26 hM => ?_) (fun hc26 hM => ?_)
  · refine z_iconst (v := (0 : Int32)) (pc := 34) C dX5_parts_34 (by decide) ?_
    refine z_istore_n (lv' := [(3, .int (0 : Int32)), (0, .ref a0), (1, .ref nx), (2, .ref (nx + 1))]) (pc := 35) C dX5_parts_35 (by decide) rfl ?_
    refine z_iconst (v := (1 : Int32)) (pc := 36) C dX5_parts_36 (by decide) ?_
    refine z_istore (lv' := [(4, .int (1 : Int32)), (3, .int (0 : Int32)), (0, .ref a0), (1, .ref nx), (2, .ref (nx + 1))]) (pc := 37) C dX5_parts_37 (by decide) rfl ?_
    refine z_sub [3, 4, 1, 0] rfl (zl3 (fun (x3_2 : Int32) (x4_2 : Int32) (h_2 : zH) => [(1, .ref nx), (2, .ref (nx + 1)), (3, .int x3_2), (4, .int x4_2)]) (fun (x3_2 : Int32) (x4_2 : Int32) (h_2 : zH) => h_2) (fun (x3_2 : Int32) (x4_2 : Int32) (h_2 : zH) => ((nx + 1) + 1)) hM (fun rec2 irec2 x3_2 x4_2 h_2 hM => ?_))
    refine z_iload (k := 3) (pc := 39) C dX5_parts_39 rfl ?_
    refine z_bipush (v := (24 : Int32)) (pc := 41) C dX5_parts_41 (by decide) ?_
    refine z_icmp_gt (pc := 43) (tgt := 147) C dX5_parts_43 (by decide) hM (fun hc22 hM => ?_) (fun hc22 hM => ?_)
    · refine z_iload_n (k := 2) (pc := 147) C dX5_parts_147 rfl ?_
      cases hM
      exact z_iret (pc := 148) C rfl (Nat.le_of_ble_eq_true rfl) (Nat.le_of_ble_eq_true rfl) dX5_parts_148
    · refine z_sub [0, 1, 2, 3] rfl (zl2 (fun (x3_3 : Int32) (h_3 : zH) => [(1, .ref nx), (2, .ref (nx + 1)), (3, .int x3_3), (4, .int x4_2)]) (fun (x3_3 : Int32) (h_3 : zH) => h_3) (fun (x3_3 : Int32) (h_3 : zH) => ((nx + 1) + 1)) hM (fun rec3 irec3 x3_3 h_3 hM => ?_))
      refine z_aload_n (k := 0) (pc := 46) C dX5_parts_46 rfl ?_
      refine z_iload (k := 3) (pc := 47) C dX5_parts_47 rfl ?_
      obtain ⟨r4, g4, hM⟩ := Option.bind_eq_some_iff.mp hM
      refine z_iald (pc := 49) C g4 dX5_parts_49 ?_
      refine z_if_eq (pc := 50) (tgt := 141) C dX5_parts_50 (by decide) hM (fun hc21 hM => ?_) (fun hc21 hM => ?_)
      · refine z_iinc (k := 3) (v := (x4_2 + (1 : Int32))) (lv' := [(4, .int (x4_2 + (1 : Int32))), (1, .ref nx), (2, .ref (nx + 1)), (3, .int x3_3)]) (pc := 141) C dX5_parts_141 rfl (by first | rfl | decide) (by decide) rfl ?_
        refine z_goto (pc := 144) (tgt := 39) C dX5_parts_144 (by decide) ?_
        exact z_sub [1, 2, 3, 0] rfl (irec2 x3_3 (x4_2 + (1 : Int32)) h_3 hM)
      · refine z_iconst (v := (0 : Int32)) (pc := 53) C dX5_parts_53 (by decide) ?_
        refine z_istore (lv' := [(5, .int (0 : Int32)), (1, .ref nx), (2, .ref (nx + 1)), (3, .int x3_3), (4, .int x4_2)]) (pc := 54) C dX5_parts_54 (by decide) rfl ?_
        refine z_sub [1, 2, 3, 4, 0] rfl (zl2 (fun (x5_5 : Int32) (h_5 : zH) => [(1, .ref nx), (2, .ref (nx + 1)), (3, .int x3_3), (4, .int x4_2), (5, .int x5_5)]) (fun (x5_5 : Int32) (h_5 : zH) => h_5) (fun (x5_5 : Int32) (h_5 : zH) => ((nx + 1) + 1)) hM (fun rec5 irec5 x5_5 h_5 hM => ?_))
        refine z_iload (k := 4) (pc := 56) C dX5_parts_56 rfl ?_
        refine z_aload_n (k := 1) (pc := 58) C dX5_parts_58 rfl ?_
        obtain ⟨r6, g6, hM⟩ := Option.bind_eq_some_iff.mp hM
        refine z_alen (pc := 59) C g6 dX5_parts_59 ?_
        refine z_icmp_ge (pc := 60) (tgt := 74) C dX5_parts_60 (by decide) hM (fun hc20 hM => ?_) (fun hc20 hM => ?_)
        · refine z_aload_n (k := 1) (pc := 74) C dX5_parts_74 rfl ?_
          refine z_iload (k := 3) (pc := 75) C dX5_parts_75 rfl ?_
          refine z_aload_n (k := 0) (pc := 77) C dX5_parts_77 rfl ?_
          refine z_iload (k := 3) (pc := 78) C dX5_parts_78 rfl ?_
          obtain ⟨r7, g7, hM⟩ := Option.bind_eq_some_iff.mp hM
          refine z_iald (pc := 80) C g7 dX5_parts_80 ?_
          refine z_aload_n (k := 0) (pc := 81) C dX5_parts_81 rfl ?_
          refine z_iload (k := 3) (pc := 82) C dX5_parts_82 rfl ?_
          obtain ⟨r8, g8, hM⟩ := Option.bind_eq_some_iff.mp hM
          refine z_iald (pc := 84) C g8 dX5_parts_84 ?_
          refine z_ineg (pc := 85) C dX5_parts_85 ?_
          refine z_iand (pc := 86) C dX5_parts_86 ?_
          obtain ⟨h_9, g9, hM⟩ := Option.bind_eq_some_iff.mp hM
          refine z_iast (pc := 87) C g9 dX5_parts_87 ?_
          refine z_iconst (v := (1 : Int32)) (pc := 88) C dX5_parts_88 (by decide) ?_
          refine z_istore (lv' := [(5, .int (1 : Int32)), (1, .ref nx), (2, .ref (nx + 1)), (3, .int x3_3), (4, .int x4_2)]) (pc := 89) C dX5_parts_89 (by decide) rfl ?_
          refine z_sub [1, 2, 3, 4, 0] rfl (zl2 (fun (x5_10 : Int32) (h_10 : zH) => [(1, .ref nx), (2, .ref (nx + 1)), (3, .int x3_3), (4, .int x4_2), (5, .int x5_10)]) (fun (x5_10 : Int32) (h_10 : zH) => h_10) (fun (x5_10 : Int32) (h_10 : zH) => ((nx + 1) + 1)) hM (fun rec10 irec10 x5_10 h_10 hM => ?_))
          refine z_iload (k := 4) (pc := 91) C dX5_parts_91 rfl ?_
          refine z_if_eq (pc := 93) (tgt := 106) C dX5_parts_93 (by decide) hM (fun hc18 hM => ?_) (fun hc18 hM => ?_)
          · refine z_iconst (v := (0 : Int32)) (pc := 106) C dX5_parts_106 (by decide) ?_
            refine z_istore (lv' := [(6, .int (0 : Int32)), (1, .ref nx), (2, .ref (nx + 1)), (3, .int x3_3), (4, .int x4_2), (5, .int x5_10)]) (pc := 107) C dX5_parts_107 (by decide) rfl ?_
            refine z_sub [1, 2, 3, 4, 0] rfl (zl2 (fun (x6_11 : Int32) (h_11 : zH) => [(1, .ref nx), (2, .ref (nx + 1)), (3, .int x3_3), (4, .int x4_2), (6, .int x6_11)]) (fun (x6_11 : Int32) (h_11 : zH) => h_11) (fun (x6_11 : Int32) (h_11 : zH) => ((nx + 1) + 1)) hM (fun rec11 irec11 x6_11 h_11 hM => ?_))
            refine z_iload (k := 4) (pc := 109) C dX5_parts_109 rfl ?_
            refine z_aload_n (k := 1) (pc := 111) C dX5_parts_111 rfl ?_
            obtain ⟨r12, g12, hM⟩ := Option.bind_eq_some_iff.mp hM
            refine z_alen (pc := 112) C g12 dX5_parts_112 ?_
            refine z_icmp_ge (pc := 113) (tgt := 135) C dX5_parts_113 (by decide) hM (fun hc16 hM => ?_) (fun hc16 hM => ?_)
            · refine z_iinc (k := 2) (v := (x3_3 + (1 : Int32))) (lv' := [(3, .int (x3_3 + (1 : Int32))), (1, .ref nx), (2, .ref (nx + 1)), (4, .int x4_2), (6, .int x6_11)]) (pc := 135) C dX5_parts_135 rfl (by first | rfl | decide) (by decide) rfl ?_
              refine z_goto (pc := 138) (tgt := 46) C dX5_parts_138 (by decide) ?_
              exact z_sub [1, 2, 0, 3] rfl (irec3 (x3_3 + (1 : Int32)) h_11 hM)
            · refine z_aload_n (k := 0) (pc := 116) C dX5_parts_116 rfl ?_
              refine z_iload (k := 4) (pc := 117) C dX5_parts_117 rfl ?_
              refine z_dup2 (pc := 119) C dX5_parts_119 rfl rfl ?_
              obtain ⟨r13, g13, hM⟩ := Option.bind_eq_some_iff.mp hM
              refine z_iald (pc := 120) C g13 dX5_parts_120 ?_
              refine z_aload_n (k := 1) (pc := 121) C dX5_parts_121 rfl ?_
              refine z_iload (k := 4) (pc := 122) C dX5_parts_122 rfl ?_
              obtain ⟨r14, g14, hM⟩ := Option.bind_eq_some_iff.mp hM
              refine z_iald (pc := 124) C g14 dX5_parts_124 ?_
              refine z_iconst (v := (-1 : Int32)) (pc := 125) C dX5_parts_125 (by decide) ?_
              refine z_ixor (pc := 126) C dX5_parts_126 ?_
              refine z_iand (pc := 127) C dX5_parts_127 ?_
              obtain ⟨h_15, g15, hM⟩ := Option.bind_eq_some_iff.mp hM
              refine z_iast (pc := 128) C g15 dX5_parts_128 ?_
              refine z_iinc (k := 4) (v := (x6_11 + (1 : Int32))) (lv' := [(6, .int (x6_11 + (1 : Int32))), (1, .ref nx), (2, .ref (nx + 1)), (3, .int x3_3), (4, .int x4_2)]) (pc := 129) C dX5_parts_129 rfl (by first | rfl | decide) (by decide) rfl ?_
              refine z_goto (pc := 132) (tgt := 109) C dX5_parts_132 (by decide) ?_
              exact z_sub [1, 2, 3, 4, 0] rfl (irec11 (x6_11 + (1 : Int32)) h_15 hM)
          · refine z_aload_n (k := 1) (pc := 96) C dX5_parts_96 rfl ?_
            refine z_aload_n (k := 0) (pc := 97) C dX5_parts_97 rfl ?_
            obtain ⟨r17, g17, hM⟩ := Option.bind_eq_some_iff.mp hM
            refine z_goN (kc := 2) (ks := 52) ([.int r17.1]) (z_callS (pc := 98) (As := [.ref (nx + 1), .ref nx]) (rest := []) (n := 2) C (c_X5_spreads l hl G lo t0 h_10 ((nx + 1) + 1) (nx + 1) nx r17 g17) q_324 q_325 q_5 q_326 ⟨by decide +kernel, by decide +kernel, by decide +kernel⟩ ⟨Nat.le_of_ble_eq_true rfl, Nat.le_of_ble_eq_true rfl⟩ rfl (Nat.le_of_ble_eq_true rfl) dX5_parts_98 ⟨(Nat.le_of_ble_eq_true rfl), (Nat.le_of_ble_eq_true rfl)⟩) rfl (Nat.le_of_ble_eq_true rfl) (Nat.le_of_ble_eq_true rfl) ?_
            refine z_istore (lv' := [(5, .int r17.1), (1, .ref nx), (2, .ref (nx + 1)), (3, .int x3_3), (4, .int x4_2)]) (pc := 101) C dX5_parts_101 (by decide) rfl ?_
            refine z_goto (pc := 103) (tgt := 91) C dX5_parts_103 (by decide) ?_
            exact z_sub [1, 2, 3, 4, 0] rfl (irec10 r17.1 r17.2 hM)
        · refine z_aload_n (k := 1) (pc := 63) C dX5_parts_63 rfl ?_
          refine z_iload (k := 4) (pc := 64) C dX5_parts_64 rfl ?_
          refine z_iconst (v := (0 : Int32)) (pc := 66) C dX5_parts_66 (by decide) ?_
          obtain ⟨h_19, g19, hM⟩ := Option.bind_eq_some_iff.mp hM
          refine z_iast (pc := 67) C g19 dX5_parts_67 ?_
          refine z_iinc (k := 4) (v := (x5_5 + (1 : Int32))) (lv' := [(5, .int (x5_5 + (1 : Int32))), (1, .ref nx), (2, .ref (nx + 1)), (3, .int x3_3), (4, .int x4_2)]) (pc := 68) C dX5_parts_68 rfl (by first | rfl | decide) (by decide) rfl ?_
          refine z_goto (pc := 71) (tgt := 56) C dX5_parts_71 (by decide) ?_
          exact z_sub [1, 2, 3, 4, 0] rfl (irec5 (x5_5 + (1 : Int32)) h_19 hM)
  · refine z_aload_n (k := 1) (pc := 18) C dX5_parts_18 rfl ?_
    refine z_iload_n (k := 3) (pc := 19) C dX5_parts_19 rfl ?_
    refine z_iconst (v := (1 : Int32)) (pc := 20) C dX5_parts_20 (by decide) ?_
    refine z_iadd (pc := 21) C dX5_parts_21 ?_
    refine z_aload_n (k := 0) (pc := 22) C dX5_parts_22 rfl ?_
    refine z_iload_n (k := 3) (pc := 23) C dX5_parts_23 rfl ?_
    obtain ⟨_, g23, hM⟩ := Option.bind_eq_some_iff.mp hM
    obtain ⟨r24, g24, hM⟩ := Option.bind_eq_some_iff.mp hM
    refine z_goN (kc := 2) (ks := 52) ([.int r24, .int (x3_1 + (1 : Int32)), .ref nx]) (z_callV (pc := 24) (As := [.int x3_1]) (rest := [.int (x3_1 + (1 : Int32)), .ref nx]) (n := 1) (ci := 6) C (c_X5_covered_ l hl G lo t0 h_1 ((nx + 1) + 1) a0 x3_1 r24 g24) g23 rfl q_302 q_303 q_304 q_5 q_305 ⟨rfl, by decide +kernel, by decide +kernel, by decide +kernel⟩ ⟨Nat.le_of_ble_eq_true rfl, Nat.le_of_ble_eq_true rfl⟩ rfl (Nat.le_of_ble_eq_true rfl) dX5_parts_24 ⟨(Nat.le_of_ble_eq_true rfl), (Nat.le_of_ble_eq_true rfl)⟩) rfl (Nat.le_of_ble_eq_true rfl) (Nat.le_of_ble_eq_true rfl) ?_
    obtain ⟨h_25, g25, hM⟩ := Option.bind_eq_some_iff.mp hM
    refine z_iast (pc := 27) C g25 dX5_parts_27 ?_
    refine z_iinc (k := 3) (v := (x3_1 + (1 : Int32))) (lv' := [(3, .int (x3_1 + (1 : Int32))), (0, .ref a0), (1, .ref nx), (2, .ref (nx + 1))]) (pc := 28) C dX5_parts_28 rfl (by first | rfl | decide) (by decide) rfl ?_
    refine z_goto (pc := 31) (tgt := 12) C dX5_parts_31 (by decide) ?_
    exact z_sub [1, 2, 3, 0] rfl (irec1 (x3_1 + (1 : Int32)) h_25 hM)
set_option maxHeartbeats 4000000 in
set_option maxRecDepth 100000 in
theorem c_X5_got (l : Launch) (hl : l.stackTraces = false) (G : zG) (lo t0 : Nat) (h : zH) (nx : Nat) (a0 : Nat) (x1 : Int32) (o : Int32) (hM : M_X5_got h a0 x1 = some o) : z_Met l yX5_got cX5_got 2 (some .int) 0 0 G lo t0 [.ref a0, .int x1] h nx (.inr (some (.int o), h, nx)) 0 0 := by
  refine z_of [(0, .ref a0), (1, .int x1)] (by decide) (Nat.le_of_ble_eq_true rfl) rfl (fun p e s m below meth c C hin => ?_)
  unfold M_X5_got at hM
  refine z_aload_n (k := 0) (pc := 0) C dX5_got_0 rfl ?_
  obtain ⟨r1, g1, hM⟩ := Option.bind_eq_some_iff.mp hM
  refine z_getR (pc := 1) (k := 6) C g1 rfl inlX5 (by decide) q_72 (fun _ h9 => h9) dX5_got_1 ?_
  refine z_aload_n (k := 0) (pc := 4) C dX5_got_4 rfl ?_
  obtain ⟨r2, g2, hM⟩ := Option.bind_eq_some_iff.mp hM
  refine z_getR (pc := 5) (k := 4) C g2 rfl inlX5 (by decide) q_70 (fun _ h9 => h9) dX5_got_5 ?_
  refine z_iload_n (k := 1) (pc := 8) C dX5_got_8 rfl ?_
  obtain ⟨r3, g3, hM⟩ := Option.bind_eq_some_iff.mp hM
  refine z_iald (pc := 9) C g3 dX5_got_9 ?_
  obtain ⟨r4, g4, hM⟩ := Option.bind_eq_some_iff.mp hM
  refine z_iald (pc := 10) C g4 dX5_got_10 ?_
  refine z_aload_n (k := 0) (pc := 11) C dX5_got_11 rfl ?_
  obtain ⟨r5, g5, hM⟩ := Option.bind_eq_some_iff.mp hM
  refine z_getR (pc := 12) (k := 5) C g5 rfl inlX5 (by decide) q_71 (fun _ h9 => h9) dX5_got_12 ?_
  refine z_iload_n (k := 1) (pc := 15) C dX5_got_15 rfl ?_
  obtain ⟨r6, g6, hM⟩ := Option.bind_eq_some_iff.mp hM
  refine z_iald (pc := 16) C g6 dX5_got_16 ?_
  refine z_isub (pc := 17) C dX5_got_17 ?_
  cases hM
  exact z_iret (pc := 18) C rfl (Nat.zero_le _) (Nat.zero_le _) dX5_got_18
set_option maxHeartbeats 4000000 in
set_option maxRecDepth 100000 in
theorem c_X5_stallTold (l : Launch) (hl : l.stackTraces = false) (G : zG) (lo t0 : Nat) (h : zH) (nx : Nat) (a0 : Nat) (x1 : Int32) (x2 : Int32) (o : Int32) (hM : M_X5_stallTold h a0 x1 x2 = some o) : z_Met l yX5_stallTold cX5_stallTold 3 (some .int) 4 89 G lo t0 [.ref a0, .int x1, .int x2] h nx (.inr (some (.int o), h, nx)) 0 0 := by
  refine z_of [(0, .ref a0), (1, .int x1), (2, .int x2)] (by decide) (Nat.le_of_ble_eq_true rfl) rfl (fun p e s m below meth c C hin => ?_)
  unfold M_X5_stallTold at hM
  refine z_iload_n (k := 2) (pc := 0) C dX5_stallTold_0 rfl ?_
  refine z_sw hM (fun hc1 hM => ?_) (fun hc1 hM => ?_)
  · refine z_tableIn (pc := 1) (tgt := 28) C dX5_stallTold_1 (by rw [hc1]; decide) (by rw [hc1]; decide) (by rw [hc1]; rfl) (by decide) ?_
    refine z_aload_n (k := 0) (pc := 28) C dX5_stallTold_28 rfl ?_
    obtain ⟨r2, g2, hM⟩ := Option.bind_eq_some_iff.mp hM
    refine z_getR (pc := 29) (k := 4) C g2 rfl inlX5 (by decide) q_70 (fun _ h9 => h9) dX5_stallTold_29 ?_
    refine z_iload_n (k := 1) (pc := 32) C dX5_stallTold_32 rfl ?_
    obtain ⟨r3, g3, hM⟩ := Option.bind_eq_some_iff.mp hM
    refine z_iald (pc := 33) C g3 dX5_stallTold_33 ?_
    refine z_bipush (v := (24 : Int32)) (pc := 34) C dX5_stallTold_34 (by decide) ?_
    refine z_idiv (pc := 36) C dX5_stallTold_36 (by decide) ?_
    cases hM
    exact z_iret (pc := 37) C rfl (Nat.zero_le _) (Nat.zero_le _) dX5_stallTold_37
  refine z_sw hM (fun hc4 hM => ?_) (fun hc4 hM => ?_)
  · refine z_tableIn (pc := 1) (tgt := 38) C dX5_stallTold_1 (by rw [hc4]; decide) (by rw [hc4]; decide) (by rw [hc4]; rfl) (by decide) ?_
    refine z_aload_n (k := 0) (pc := 38) C dX5_stallTold_38 rfl ?_
    obtain ⟨r5, g5, hM⟩ := Option.bind_eq_some_iff.mp hM
    refine z_getR (pc := 39) (k := 4) C g5 rfl inlX5 (by decide) q_70 (fun _ h9 => h9) dX5_stallTold_39 ?_
    refine z_iload_n (k := 1) (pc := 42) C dX5_stallTold_42 rfl ?_
    obtain ⟨r6, g6, hM⟩ := Option.bind_eq_some_iff.mp hM
    refine z_iald (pc := 43) C g6 dX5_stallTold_43 ?_
    refine z_bipush (v := (24 : Int32)) (pc := 44) C dX5_stallTold_44 (by decide) ?_
    refine z_irem (pc := 46) C dX5_stallTold_46 (by decide) ?_
    cases hM
    exact z_iret (pc := 47) C rfl (Nat.zero_le _) (Nat.zero_le _) dX5_stallTold_47
  refine z_sw hM (fun hc7 hM => ?_) (fun hc7 hM => ?_)
  · refine z_tableIn (pc := 1) (tgt := 48) C dX5_stallTold_1 (by rw [hc7]; decide) (by rw [hc7]; decide) (by rw [hc7]; rfl) (by decide) ?_
    refine z_aload_n (k := 0) (pc := 48) C dX5_stallTold_48 rfl ?_
    refine z_iload_n (k := 1) (pc := 49) C dX5_stallTold_49 rfl ?_
    obtain ⟨_, g8, hM⟩ := Option.bind_eq_some_iff.mp hM
    obtain ⟨r9, g9, hM⟩ := Option.bind_eq_some_iff.mp hM
    refine z_goN (kc := 0) (ks := 0) ([.int r9]) (z_callV (pc := 50) (As := [.int x1]) (rest := []) (n := 1) (ci := 6) C (c_X5_got l hl G lo t0 h nx a0 x1 r9 g9) g8 rfl q_335 q_336 q_337 q_5 q_338 ⟨rfl, by decide +kernel, by decide +kernel, by decide +kernel⟩ ⟨Nat.le_of_ble_eq_true rfl, Nat.le_of_ble_eq_true rfl⟩ rfl (Nat.le_of_ble_eq_true rfl) dX5_stallTold_50 ⟨(Nat.zero_le _), (Nat.zero_le _)⟩) rfl (Nat.le_of_ble_eq_true rfl) (Nat.le_of_ble_eq_true rfl) ?_
    cases hM
    exact z_iret (pc := 53) C rfl (Nat.zero_le _) (Nat.zero_le _) dX5_stallTold_53
  refine z_tableD (pc := 1) (tgt := 54) C dX5_stallTold_1 (fun k h1 h2 hk => ?_) (by decide) ?_
  · rcases (show k = 0 ∨ k = 1 ∨ k = 2 by omega) with rfl | rfl | rfl
    · exact absurd (Int32.toInt_inj.mp (hk.trans (by decide))) hc1
    · exact absurd (Int32.toInt_inj.mp (hk.trans (by decide))) hc4
    · exact absurd (Int32.toInt_inj.mp (hk.trans (by decide))) hc7
  refine z_aload_n (k := 0) (pc := 54) C dX5_stallTold_54 rfl ?_
  refine z_aload_n (k := 0) (pc := 55) C dX5_stallTold_55 rfl ?_
  obtain ⟨r10, g10, hM⟩ := Option.bind_eq_some_iff.mp hM
  refine z_getR (pc := 56) (k := 4) C g10 rfl inlX5 (by decide) q_70 (fun _ h9 => h9) dX5_stallTold_56 ?_
  refine z_iload_n (k := 1) (pc := 59) C dX5_stallTold_59 rfl ?_
  obtain ⟨r11, g11, hM⟩ := Option.bind_eq_some_iff.mp hM
  refine z_iald (pc := 60) C g11 dX5_stallTold_60 ?_
  refine z_bipush (v := (24 : Int32)) (pc := 61) C dX5_stallTold_61 (by decide) ?_
  refine z_idiv (pc := 63) C dX5_stallTold_63 (by decide) ?_
  refine z_aload_n (k := 0) (pc := 64) C dX5_stallTold_64 rfl ?_
  obtain ⟨r12, g12, hM⟩ := Option.bind_eq_some_iff.mp hM
  refine z_getR (pc := 65) (k := 4) C g12 rfl inlX5 (by decide) q_70 (fun _ h9 => h9) dX5_stallTold_65 ?_
  refine z_iload_n (k := 1) (pc := 68) C dX5_stallTold_68 rfl ?_
  obtain ⟨r13, g13, hM⟩ := Option.bind_eq_some_iff.mp hM
  refine z_iald (pc := 69) C g13 dX5_stallTold_69 ?_
  refine z_bipush (v := (24 : Int32)) (pc := 70) C dX5_stallTold_70 (by decide) ?_
  refine z_irem (pc := 72) C dX5_stallTold_72 (by decide) ?_
  obtain ⟨_, g14, hM⟩ := Option.bind_eq_some_iff.mp hM
  obtain ⟨r15, g15, hM⟩ := Option.bind_eq_some_iff.mp hM
  refine z_goN (kc := 0) (ks := 0) ([.int r15]) (z_callV (pc := 73) (As := [.int (r11 / (24 : Int32)), .int (r13 - r13 / (24 : Int32) * (24 : Int32))]) (rest := []) (n := 2) (ci := 6) C (c_X5_lying l hl G lo t0 h nx a0 (r11 / (24 : Int32)) (r13 - r13 / (24 : Int32) * (24 : Int32)) r15 g15) g14 rfl q_339 q_340 q_341 q_5 q_342 ⟨rfl, by decide +kernel, by decide +kernel, by decide +kernel⟩ ⟨Nat.le_of_ble_eq_true rfl, Nat.le_of_ble_eq_true rfl⟩ rfl (Nat.le_of_ble_eq_true rfl) dX5_stallTold_73 ⟨(Nat.zero_le _), (Nat.zero_le _)⟩) rfl (Nat.le_of_ble_eq_true rfl) (Nat.le_of_ble_eq_true rfl) ?_
  cases hM
  exact z_iret (pc := 76) C rfl (Nat.zero_le _) (Nat.zero_le _) dX5_stallTold_76
set_option maxHeartbeats 4000000 in
set_option maxRecDepth 100000 in
theorem c_X5_open (l : Launch) (hl : l.stackTraces = false) (G : zG) (lo t0 : Nat) (h : zH) (nx : Nat) (a0 : Nat) (o : Int32) (hM : M_X5_open h a0 = some o) : z_Met l yX5_open cX5_open 3 (some .int) 5 111 G lo t0 [.ref a0] h nx (.inr (some (.int o), h, nx)) 0 0 := by
  refine z_of [(0, .ref a0)] (by decide) (Nat.le_of_ble_eq_true rfl) rfl (fun p e s m below meth c C hin => ?_)
  unfold M_X5_open at hM
  refine z_iconst (v := (0 : Int32)) (pc := 0) C dX5_open_0 (by decide) ?_
  refine z_istore_n (lv' := [(1, .int (0 : Int32)), (0, .ref a0)]) (pc := 1) C dX5_open_1 (by decide) rfl ?_
  refine z_iconst (v := (0 : Int32)) (pc := 2) C dX5_open_2 (by decide) ?_
  refine z_istore_n (lv' := [(2, .int (0 : Int32)), (1, .int (0 : Int32)), (0, .ref a0)]) (pc := 3) C dX5_open_3 (by decide) rfl ?_
  refine z_sub [2, 1, 0] rfl (zl2 (fun (x1_1 : Int32) (x2_1 : Int32) => [(0, .ref a0), (1, .int x1_1), (2, .int x2_1)]) (fun (x1_1 : Int32) (x2_1 : Int32) => h) (fun (x1_1 : Int32) (x2_1 : Int32) => nx) hM (fun rec1 irec1 x1_1 x2_1 hM => ?_))
  refine z_iload_n (k := 2) (pc := 4) C dX5_open_4 rfl ?_
  refine z_aload_n (k := 0) (pc := 5) C dX5_open_5 rfl ?_
  obtain ⟨r2, g2, hM⟩ := Option.bind_eq_some_iff.mp hM
  refine z_getI (pc := 6) (k := 3) C g2 rfl inlX5 (by decide) q_291 (fun _ h9 => h9) dX5_open_6 ?_
  refine z_icmp_ge (pc := 9) (tgt := 35) C dX5_open_9 (by decide) hM (fun hc7 hM => ?_) (fun hc7 hM => ?_)
  · refine z_iload_n (k := 1) (pc := 35) C dX5_open_35 rfl ?_
    cases hM
    exact z_iret (pc := 36) C rfl (Nat.zero_le _) (Nat.zero_le _) dX5_open_36
  · refine z_iload_n (k := 1) (pc := 12) C dX5_open_12 rfl ?_
    refine z_aload_n (k := 0) (pc := 13) C dX5_open_13 rfl ?_
    refine z_iload_n (k := 2) (pc := 14) C dX5_open_14 rfl ?_
    refine z_iconst (v := (3 : Int32)) (pc := 15) C dX5_open_15 (by decide) ?_
    obtain ⟨_, g3, hM⟩ := Option.bind_eq_some_iff.mp hM
    obtain ⟨r4, g4, hM⟩ := Option.bind_eq_some_iff.mp hM
    refine z_goN (kc := 0) (ks := 0) ([.int r4, .int x1_1]) (z_callV (pc := 16) (As := [.int x2_1, .int (3 : Int32)]) (rest := [.int x1_1]) (n := 2) (ci := 6) C (c_X5_stallTold l hl G lo t0 h nx a0 x2_1 (3 : Int32) r4 g4) g3 rfl q_331 q_332 q_333 q_5 q_334 ⟨rfl, by decide +kernel, by decide +kernel, by decide +kernel⟩ ⟨Nat.le_of_ble_eq_true rfl, Nat.le_of_ble_eq_true rfl⟩ rfl (Nat.le_of_ble_eq_true rfl) dX5_open_16 ⟨(Nat.zero_le _), (Nat.zero_le _)⟩) rfl (Nat.le_of_ble_eq_true rfl) (Nat.le_of_ble_eq_true rfl) ?_
    refine zj2 0 0 27 (fun (s0_5 : Int32) (s1_5 : Int32) => [(0, .ref a0), (2, .int x2_1)]) (fun (s0_5 : Int32) (s1_5 : Int32) => [.int s1_5, .int s0_5]) (fun (s0_5 : Int32) (s1_5 : Int32) => h) (fun (s0_5 : Int32) (s1_5 : Int32) => nx) hM (fun s0_5 s1_5 hM => ?_) (fun J5 iJ5 hM => ?_)
    · refine z_iadd (pc := 27) C dX5_open_27 ?_
      refine z_istore_n (lv' := [(1, .int (s0_5 + s1_5)), (0, .ref a0), (2, .int x2_1)]) (pc := 28) C dX5_open_28 (by decide) rfl ?_
      refine z_iinc (k := 2) (v := (x2_1 + (1 : Int32))) (lv' := [(2, .int (x2_1 + (1 : Int32))), (1, .int (s0_5 + s1_5)), (0, .ref a0)]) (pc := 29) C dX5_open_29 rfl (by first | rfl | decide) (by decide) rfl ?_
      refine z_goto (pc := 32) (tgt := 4) C dX5_open_32 (by decide) ?_
      exact z_sub [2, 1, 0] rfl (irec1 (s0_5 + s1_5) (x2_1 + (1 : Int32)) hM)
    refine z_if_ne (pc := 19) (tgt := 26) C dX5_open_19 (by decide) hM (fun hc6 hM => ?_) (fun hc6 hM => ?_)
    · refine z_iconst (v := (1 : Int32)) (pc := 22) C dX5_open_22 (by decide) ?_
      refine z_goto (pc := 23) (tgt := 27) C dX5_open_23 (by decide) ?_
      exact z_sub [0, 2] rfl (iJ5 x1_1 (1 : Int32) hM)
    · refine z_iconst (v := (0 : Int32)) (pc := 26) C dX5_open_26 (by decide) ?_
      exact z_sub [0, 2] rfl (iJ5 x1_1 (0 : Int32) hM)
set_option maxHeartbeats 4000000 in
set_option maxRecDepth 100000 in
theorem c_X5_sumOf (l : Launch) (hl : l.stackTraces = false) (G : zG) (lo t0 : Nat) (h : zH) (nx : Nat) (a0 : Nat) (x1 : Int32) (o : Int32) (hM : M_X5_sumOf h a0 x1 = some o) : z_Met l yX5_sumOf cX5_sumOf 5 (some .int) 5 110 G lo t0 [.ref a0, .int x1] h nx (.inr (some (.int o), h, nx)) 0 0 := by
  refine z_of [(0, .ref a0), (1, .int x1)] (by decide) (Nat.le_of_ble_eq_true rfl) rfl (fun p e s m below meth c C hin => ?_)
  unfold M_X5_sumOf at hM
  refine z_iconst (v := (0 : Int32)) (pc := 0) C dX5_sumOf_0 (by decide) ?_
  refine z_istore_n (lv' := [(2, .int (0 : Int32)), (0, .ref a0), (1, .int x1)]) (pc := 1) C dX5_sumOf_1 (by decide) rfl ?_
  refine z_iconst (v := (0 : Int32)) (pc := 2) C dX5_sumOf_2 (by decide) ?_
  refine z_istore_n (lv' := [(3, .int (0 : Int32)), (2, .int (0 : Int32)), (0, .ref a0), (1, .int x1)]) (pc := 3) C dX5_sumOf_3 (by decide) rfl ?_
  refine z_sub [2, 3, 1, 0] rfl (zl2 (fun (x2_1 : Int32) (x3_1 : Int32) => [(0, .ref a0), (1, .int x1), (2, .int x2_1), (3, .int x3_1)]) (fun (x2_1 : Int32) (x3_1 : Int32) => h) (fun (x2_1 : Int32) (x3_1 : Int32) => nx) hM (fun rec1 irec1 x2_1 x3_1 hM => ?_))
  refine z_iload_n (k := 3) (pc := 4) C dX5_sumOf_4 rfl ?_
  refine z_bipush (v := (24 : Int32)) (pc := 5) C dX5_sumOf_5 (by decide) ?_
  refine z_icmp_ge (pc := 7) (tgt := 102) C dX5_sumOf_7 (by decide) hM (fun hc17 hM => ?_) (fun hc17 hM => ?_)
  · refine z_iload_n (k := 2) (pc := 102) C dX5_sumOf_102 rfl ?_
    cases hM
    exact z_iret (pc := 103) C rfl (Nat.zero_le _) (Nat.zero_le _) dX5_sumOf_103
  · refine z_iload_n (k := 2) (pc := 10) C dX5_sumOf_10 rfl ?_
    refine z_iload_n (k := 1) (pc := 11) C dX5_sumOf_11 rfl ?_
    refine z_iconst (v := (3 : Int32)) (pc := 12) C dX5_sumOf_12 (by decide) ?_
    refine zj2 0 0 28 (fun (s0_2 : Int32) (s1_2 : Int32) => [(0, .ref a0), (1, .int x1), (3, .int x3_1)]) (fun (s0_2 : Int32) (s1_2 : Int32) => [.int s1_2, .int s0_2]) (fun (s0_2 : Int32) (s1_2 : Int32) => h) (fun (s0_2 : Int32) (s1_2 : Int32) => nx) hM (fun s0_2 s1_2 hM => ?_) (fun J2 iJ2 hM => ?_)
    · refine z_iadd (pc := 28) C dX5_sumOf_28 ?_
      refine z_istore_n (lv' := [(2, .int (s0_2 + s1_2)), (0, .ref a0), (1, .int x1), (3, .int x3_1)]) (pc := 29) C dX5_sumOf_29 (by decide) rfl ?_
      refine z_iconst (v := (0 : Int32)) (pc := 30) C dX5_sumOf_30 (by decide) ?_
      refine z_istore (lv' := [(4, .int (0 : Int32)), (2, .int (s0_2 + s1_2)), (0, .ref a0), (1, .int x1), (3, .int x3_1)]) (pc := 31) C dX5_sumOf_31 (by decide) rfl ?_
      refine z_sub [2, 3, 1, 4, 0] rfl (zl2 (fun (x2_3 : Int32) (x4_3 : Int32) => [(0, .ref a0), (1, .int x1), (2, .int x2_3), (3, .int x3_1), (4, .int x4_3)]) (fun (x2_3 : Int32) (x4_3 : Int32) => h) (fun (x2_3 : Int32) (x4_3 : Int32) => nx) hM (fun rec3 irec3 x2_3 x4_3 hM => ?_))
      refine z_iload (k := 4) (pc := 33) C dX5_sumOf_33 rfl ?_
      refine z_bipush (v := (24 : Int32)) (pc := 35) C dX5_sumOf_35 (by decide) ?_
      refine z_icmp_ge (pc := 37) (tgt := 96) C dX5_sumOf_37 (by decide) hM (fun hc12 hM => ?_) (fun hc12 hM => ?_)
      · refine z_iinc (k := 3) (v := (x3_1 + (1 : Int32))) (lv' := [(3, .int (x3_1 + (1 : Int32))), (0, .ref a0), (1, .int x1), (2, .int x2_3), (4, .int x4_3)]) (pc := 96) C dX5_sumOf_96 rfl (by first | rfl | decide) (by decide) rfl ?_
        refine z_goto (pc := 99) (tgt := 4) C dX5_sumOf_99 (by decide) ?_
        exact z_sub [1, 2, 3, 0] rfl (irec1 x2_3 (x3_1 + (1 : Int32)) hM)
      · refine z_iload_n (k := 2) (pc := 40) C dX5_sumOf_40 rfl ?_
        refine z_iload_n (k := 1) (pc := 41) C dX5_sumOf_41 rfl ?_
        refine z_bipush (v := (6 : Int32)) (pc := 42) C dX5_sumOf_42 (by decide) ?_
        refine zj2 0 0 88 (fun (s0_4 : Int32) (s1_4 : Int32) => [(0, .ref a0), (1, .int x1), (3, .int x3_1), (4, .int x4_3)]) (fun (s0_4 : Int32) (s1_4 : Int32) => [.int s1_4, .int s0_4]) (fun (s0_4 : Int32) (s1_4 : Int32) => h) (fun (s0_4 : Int32) (s1_4 : Int32) => nx) hM (fun s0_4 s1_4 hM => ?_) (fun J4 iJ4 hM => ?_)
        · refine z_iadd (pc := 88) C dX5_sumOf_88 ?_
          refine z_istore_n (lv' := [(2, .int (s0_4 + s1_4)), (0, .ref a0), (1, .int x1), (3, .int x3_1), (4, .int x4_3)]) (pc := 89) C dX5_sumOf_89 (by decide) rfl ?_
          refine z_iinc (k := 4) (v := (x4_3 + (1 : Int32))) (lv' := [(4, .int (x4_3 + (1 : Int32))), (2, .int (s0_4 + s1_4)), (0, .ref a0), (1, .int x1), (3, .int x3_1)]) (pc := 90) C dX5_sumOf_90 rfl (by first | rfl | decide) (by decide) rfl ?_
          refine z_goto (pc := 93) (tgt := 33) C dX5_sumOf_93 (by decide) ?_
          exact z_sub [2, 3, 1, 4, 0] rfl (irec3 (s0_4 + s1_4) (x4_3 + (1 : Int32)) hM)
        refine z_icmp_ne (pc := 44) (tgt := 66) C dX5_sumOf_44 (by decide) hM (fun hc11 hM => ?_) (fun hc11 hM => ?_)
        · refine z_aload_n (k := 0) (pc := 47) C dX5_sumOf_47 rfl ?_
          refine z_iload_n (k := 3) (pc := 48) C dX5_sumOf_48 rfl ?_
          refine z_iload (k := 4) (pc := 49) C dX5_sumOf_49 rfl ?_
          obtain ⟨_, g8, hM⟩ := Option.bind_eq_some_iff.mp hM
          obtain ⟨r9, g9, hM⟩ := Option.bind_eq_some_iff.mp hM
          refine z_goN (kc := 0) (ks := 0) ([.int r9, .int x2_3]) (z_callV (pc := 51) (As := [.int x3_1, .int x4_3]) (rest := [.int x2_3]) (n := 2) (ci := 6) C (c_X5_lying l hl G lo t0 h nx a0 x3_1 x4_3 r9 g9) g8 rfl q_339 q_340 q_341 q_5 q_342 ⟨rfl, by decide +kernel, by decide +kernel, by decide +kernel⟩ ⟨Nat.le_of_ble_eq_true rfl, Nat.le_of_ble_eq_true rfl⟩ rfl (Nat.le_of_ble_eq_true rfl) dX5_sumOf_51 ⟨(Nat.zero_le _), (Nat.zero_le _)⟩) rfl (Nat.le_of_ble_eq_true rfl) (Nat.le_of_ble_eq_true rfl) ?_
          refine z_iconst (v := (1 : Int32)) (pc := 54) C dX5_sumOf_54 (by decide) ?_
          refine z_icmp_le (pc := 55) (tgt := 62) C dX5_sumOf_55 (by decide) hM (fun hc10 hM => ?_) (fun hc10 hM => ?_)
          · refine z_iconst (v := (0 : Int32)) (pc := 62) C dX5_sumOf_62 (by decide) ?_
            refine z_goto (pc := 63) (tgt := 88) C dX5_sumOf_63 (by decide) ?_
            exact z_sub [0, 1, 3, 4] rfl (iJ4 x2_3 (0 : Int32) hM)
          · refine z_iconst (v := (1 : Int32)) (pc := 58) C dX5_sumOf_58 (by decide) ?_
            refine z_goto (pc := 59) (tgt := 88) C dX5_sumOf_59 (by decide) ?_
            exact z_sub [0, 1, 3, 4] rfl (iJ4 x2_3 (1 : Int32) hM)
        · refine z_iload_n (k := 1) (pc := 66) C dX5_sumOf_66 rfl ?_
          refine z_bipush (v := (8 : Int32)) (pc := 67) C dX5_sumOf_67 (by decide) ?_
          refine z_icmp_ne (pc := 69) (tgt := 87) C dX5_sumOf_69 (by decide) hM (fun hc7 hM => ?_) (fun hc7 hM => ?_)
          · refine z_aload_n (k := 0) (pc := 72) C dX5_sumOf_72 rfl ?_
            obtain ⟨r5, g5, hM⟩ := Option.bind_eq_some_iff.mp hM
            refine z_getR (pc := 73) (k := 6) C g5 rfl inlX5 (by decide) q_72 (fun _ h9 => h9) dX5_sumOf_73 ?_
            refine z_bipush (v := (24 : Int32)) (pc := 76) C dX5_sumOf_76 (by decide) ?_
            refine z_iload_n (k := 3) (pc := 78) C dX5_sumOf_78 rfl ?_
            refine z_imul (pc := 79) C dX5_sumOf_79 ?_
            refine z_iload (k := 4) (pc := 80) C dX5_sumOf_80 rfl ?_
            refine z_iadd (pc := 82) C dX5_sumOf_82 ?_
            obtain ⟨r6, g6, hM⟩ := Option.bind_eq_some_iff.mp hM
            refine z_iald (pc := 83) C g6 dX5_sumOf_83 ?_
            refine z_goto (pc := 84) (tgt := 88) C dX5_sumOf_84 (by decide) ?_
            exact z_sub [0, 1, 3, 4] rfl (iJ4 x2_3 r6 hM)
          · refine z_iconst (v := (0 : Int32)) (pc := 87) C dX5_sumOf_87 (by decide) ?_
            exact z_sub [0, 1, 3, 4] rfl (iJ4 x2_3 (0 : Int32) hM)
    refine z_icmp_ne (pc := 13) (tgt := 27) C dX5_sumOf_13 (by decide) hM (fun hc16 hM => ?_) (fun hc16 hM => ?_)
    · refine z_aload_n (k := 0) (pc := 16) C dX5_sumOf_16 rfl ?_
      refine z_iload_n (k := 3) (pc := 17) C dX5_sumOf_17 rfl ?_
      obtain ⟨_, g13, hM⟩ := Option.bind_eq_some_iff.mp hM
      obtain ⟨r14, g14, hM⟩ := Option.bind_eq_some_iff.mp hM
      refine z_goN (kc := 0) (ks := 0) ([.int r14, .int x2_1]) (z_callV (pc := 18) (As := [.int x3_1]) (rest := [.int x2_1]) (n := 1) (ci := 6) C (c_X5_covered_ l hl G lo t0 h nx a0 x3_1 r14 g14) g13 rfl q_302 q_303 q_304 q_5 q_305 ⟨rfl, by decide +kernel, by decide +kernel, by decide +kernel⟩ ⟨Nat.le_of_ble_eq_true rfl, Nat.le_of_ble_eq_true rfl⟩ rfl (Nat.le_of_ble_eq_true rfl) dX5_sumOf_18 ⟨(Nat.zero_le _), (Nat.zero_le _)⟩) rfl (Nat.le_of_ble_eq_true rfl) (Nat.le_of_ble_eq_true rfl) ?_
      obtain ⟨r15, g15, hM⟩ := Option.bind_eq_some_iff.mp hM
      refine z_goN (kc := 0) (ks := 0) ([.int r15, .int x2_1]) (z_callS (pc := 21) (As := [.int r14]) (rest := [.int x2_1]) (n := 1) C (c_X5_many l hl G lo t0 h nx r14 r15 g15) q_317 q_318 q_5 q_319 ⟨by decide +kernel, by decide +kernel, by decide +kernel⟩ ⟨Nat.le_of_ble_eq_true rfl, Nat.le_of_ble_eq_true rfl⟩ rfl (Nat.le_of_ble_eq_true rfl) dX5_sumOf_21 ⟨(Nat.zero_le _), (Nat.zero_le _)⟩) rfl (Nat.le_of_ble_eq_true rfl) (Nat.le_of_ble_eq_true rfl) ?_
      refine z_goto (pc := 24) (tgt := 28) C dX5_sumOf_24 (by decide) ?_
      exact z_sub [0, 1, 3] rfl (iJ2 x2_1 r15 hM)
    · refine z_iconst (v := (0 : Int32)) (pc := 27) C dX5_sumOf_27 (by decide) ?_
      exact z_sub [0, 1, 3] rfl (iJ2 x2_1 (0 : Int32) hM)
set_option maxHeartbeats 4000000 in
set_option maxRecDepth 100000 in
theorem c_X5_counted (l : Launch) (hl : l.stackTraces = false) (G : zG) (lo t0 : Nat) (h : zH) (nx : Nat) (a0 : Nat) (x1 : Int32) (o : Int32 × zH × Nat) (hM : M_X5_counted h nx a0 x1 = some o) : z_Met l yX5_counted cX5_counted 2 (some .int) 6 136 G lo t0 [.ref a0, .int x1] h nx (.inr (some (.int o.1), o.2.1, o.2.2)) 2 52 := by
  refine z_of [(0, .ref a0), (1, .int x1)] (by decide) (Nat.le_of_ble_eq_true rfl) rfl (fun p e s m below meth c C hin => ?_)
  unfold M_X5_counted at hM
  refine z_iload_n (k := 1) (pc := 0) C dX5_counted_0 rfl ?_
  refine zj0 0 0 100 ([(0, .ref a0), (1, .int x1)]) ([]) (h) (nx) hM (fun  hM => ?_) (fun J1 iJ1 hM => ?_)
  · refine z_aload_n (k := 0) (pc := 100) C dX5_counted_100 rfl ?_
    refine z_iload_n (k := 1) (pc := 101) C dX5_counted_101 rfl ?_
    obtain ⟨_, g2, hM⟩ := Option.bind_eq_some_iff.mp hM
    obtain ⟨r3, g3, hM⟩ := Option.bind_eq_some_iff.mp hM
    refine z_goN (kc := 0) (ks := 0) ([.int r3]) (z_callV (pc := 102) (As := [.int x1]) (rest := []) (n := 1) (ci := 6) C (c_X5_sumOf l hl G lo t0 h nx a0 x1 r3 g3) g2 rfl q_343 q_344 q_345 q_5 q_346 ⟨rfl, by decide +kernel, by decide +kernel, by decide +kernel⟩ ⟨Nat.le_of_ble_eq_true rfl, Nat.le_of_ble_eq_true rfl⟩ rfl (Nat.le_of_ble_eq_true rfl) dX5_counted_102 ⟨(Nat.zero_le _), (Nat.zero_le _)⟩) rfl (Nat.le_of_ble_eq_true rfl) (Nat.le_of_ble_eq_true rfl) ?_
    cases hM
    exact z_iret (pc := 105) C rfl (Nat.zero_le _) (Nat.zero_le _) dX5_counted_105
  refine z_sw hM (fun hc4 hM => ?_) (fun hc4 hM => ?_)
  · refine z_tableIn (pc := 1) (tgt := 60) C dX5_counted_1 (by rw [hc4]; decide) (by rw [hc4]; decide) (by rw [hc4]; rfl) (by decide) ?_
    refine z_aload_n (k := 0) (pc := 60) C dX5_counted_60 rfl ?_
    obtain ⟨r5, g5, hM⟩ := Option.bind_eq_some_iff.mp hM
    refine z_getI (pc := 61) (k := 1) C g5 rfl inlX5 (by decide) q_218 (fun _ h9 => h9) dX5_counted_61 ?_
    cases hM
    exact z_iret (pc := 64) C rfl (Nat.zero_le _) (Nat.zero_le _) dX5_counted_64
  refine z_sw hM (fun hc6 hM => ?_) (fun hc6 hM => ?_)
  · refine z_tableIn (pc := 1) (tgt := 65) C dX5_counted_1 (by rw [hc6]; decide) (by rw [hc6]; decide) (by rw [hc6]; rfl) (by decide) ?_
    refine z_aload_n (k := 0) (pc := 65) C dX5_counted_65 rfl ?_
    obtain ⟨_, g7, hM⟩ := Option.bind_eq_some_iff.mp hM
    obtain ⟨r8, g8, hM⟩ := Option.bind_eq_some_iff.mp hM
    refine z_goN (kc := 0) (ks := 0) ([.int r8]) (z_callV (pc := 66) (As := []) (rest := []) (n := 0) (ci := 6) C (c_X5_out l hl G lo t0 h nx a0 r8 g8) g7 rfl q_294 q_295 q_296 q_5 q_297 ⟨rfl, by decide +kernel, by decide +kernel, by decide +kernel⟩ ⟨Nat.le_of_ble_eq_true rfl, Nat.le_of_ble_eq_true rfl⟩ rfl (Nat.le_of_ble_eq_true rfl) dX5_counted_66 ⟨(Nat.zero_le _), (Nat.zero_le _)⟩) rfl (Nat.le_of_ble_eq_true rfl) (Nat.le_of_ble_eq_true rfl) ?_
    cases hM
    exact z_iret (pc := 69) C rfl (Nat.zero_le _) (Nat.zero_le _) dX5_counted_69
  refine z_sw hM (fun hc9 hM => ?_) (fun hc9 hM => ?_)
  · refine z_tableIn (pc := 1) (tgt := 70) C dX5_counted_1 (by rw [hc9]; decide) (by rw [hc9]; decide) (by rw [hc9]; rfl) (by decide) ?_
    refine z_aload_n (k := 0) (pc := 70) C dX5_counted_70 rfl ?_
    obtain ⟨r10, g10, hM⟩ := Option.bind_eq_some_iff.mp hM
    refine z_getI (pc := 71) (k := 3) C g10 rfl inlX5 (by decide) q_291 (fun _ h9 => h9) dX5_counted_71 ?_
    cases hM
    exact z_iret (pc := 74) C rfl (Nat.zero_le _) (Nat.zero_le _) dX5_counted_74
  refine z_sw hM (fun hc11 hM => ?_) (fun hc11 hM => ?_)
  · refine z_tableIn (pc := 1) (tgt := 75) C dX5_counted_1 (by rw [hc11]; decide) (by rw [hc11]; decide) (by rw [hc11]; rfl) (by decide) ?_
    refine z_aload_n (k := 0) (pc := 75) C dX5_counted_75 rfl ?_
    obtain ⟨_, g12, hM⟩ := Option.bind_eq_some_iff.mp hM
    obtain ⟨r13, g13, hM⟩ := Option.bind_eq_some_iff.mp hM
    refine z_goN (kc := 0) (ks := 0) ([.int r13]) (z_callV (pc := 76) (As := []) (rest := []) (n := 0) (ci := 6) C (c_X5_outline l hl G lo t0 h nx a0 r13 g13) g12 rfl q_298 q_299 q_300 q_5 q_301 ⟨rfl, by decide +kernel, by decide +kernel, by decide +kernel⟩ ⟨Nat.le_of_ble_eq_true rfl, Nat.le_of_ble_eq_true rfl⟩ rfl (Nat.le_of_ble_eq_true rfl) dX5_counted_76 ⟨(Nat.zero_le _), (Nat.zero_le _)⟩) rfl (Nat.le_of_ble_eq_true rfl) (Nat.le_of_ble_eq_true rfl) ?_
    cases hM
    exact z_iret (pc := 79) C rfl (Nat.zero_le _) (Nat.zero_le _) dX5_counted_79
  refine z_sw hM (fun hc14 hM => ?_) (fun hc14 hM => ?_)
  · refine z_tableIn (pc := 1) (tgt := 80) C dX5_counted_1 (by rw [hc14]; decide) (by rw [hc14]; decide) (by rw [hc14]; rfl) (by decide) ?_
    refine z_aload_n (k := 0) (pc := 80) C dX5_counted_80 rfl ?_
    obtain ⟨_, g15, hM⟩ := Option.bind_eq_some_iff.mp hM
    obtain ⟨r16, g16, hM⟩ := Option.bind_eq_some_iff.mp hM
    refine z_goN (kc := 2) (ks := 52) ([.int r16.1]) (z_callV (pc := 81) (As := []) (rest := []) (n := 0) (ci := 6) C (c_X5_parts l hl G lo t0 h nx a0 r16 g16) g15 rfl q_320 q_321 q_322 q_5 q_323 ⟨rfl, by decide +kernel, by decide +kernel, by decide +kernel⟩ ⟨Nat.le_of_ble_eq_true rfl, Nat.le_of_ble_eq_true rfl⟩ rfl (Nat.le_of_ble_eq_true rfl) dX5_counted_81 ⟨(Nat.le_of_ble_eq_true rfl), (Nat.le_of_ble_eq_true rfl)⟩) rfl (Nat.le_of_ble_eq_true rfl) (Nat.le_of_ble_eq_true rfl) ?_
    cases hM
    exact z_iret (pc := 84) C rfl (Nat.le_of_ble_eq_true rfl) (Nat.le_of_ble_eq_true rfl) dX5_counted_84
  refine z_sw hM (fun hc17 hM => ?_) (fun hc17 hM => ?_)
  · refine z_tableIn (pc := 1) (tgt := 85) C dX5_counted_1 (by rw [hc17]; decide) (by rw [hc17]; decide) (by rw [hc17]; rfl) (by decide) ?_
    refine z_aload_n (k := 0) (pc := 85) C dX5_counted_85 rfl ?_
    obtain ⟨r18, g18, hM⟩ := Option.bind_eq_some_iff.mp hM
    refine z_getI (pc := 86) (k := 7) C g18 rfl inlX5 (by decide) q_292 (fun _ h9 => h9) dX5_counted_86 ?_
    cases hM
    exact z_iret (pc := 89) C rfl (Nat.zero_le _) (Nat.zero_le _) dX5_counted_89
  refine z_sw hM (fun hc19 hM => ?_) (fun hc19 hM => ?_)
  · refine z_tableIn (pc := 1) (tgt := 90) C dX5_counted_1 (by rw [hc19]; decide) (by rw [hc19]; decide) (by rw [hc19]; rfl) (by decide) ?_
    refine z_aload_n (k := 0) (pc := 90) C dX5_counted_90 rfl ?_
    obtain ⟨r20, g20, hM⟩ := Option.bind_eq_some_iff.mp hM
    refine z_getI (pc := 91) (k := 8) C g20 rfl inlX5 (by decide) q_293 (fun _ h9 => h9) dX5_counted_91 ?_
    cases hM
    exact z_iret (pc := 94) C rfl (Nat.zero_le _) (Nat.zero_le _) dX5_counted_94
  refine z_sw hM (fun hc21 hM => ?_) (fun hc21 hM => ?_)
  · refine z_tableIn (pc := 1) (tgt := 95) C dX5_counted_1 (by rw [hc21]; decide) (by rw [hc21]; decide) (by rw [hc21]; rfl) (by decide) ?_
    refine z_aload_n (k := 0) (pc := 95) C dX5_counted_95 rfl ?_
    obtain ⟨_, g22, hM⟩ := Option.bind_eq_some_iff.mp hM
    obtain ⟨r23, g23, hM⟩ := Option.bind_eq_some_iff.mp hM
    refine z_goN (kc := 0) (ks := 0) ([.int r23]) (z_callV (pc := 96) (As := []) (rest := []) (n := 0) (ci := 6) C (c_X5_open l hl G lo t0 h nx a0 r23 g23) g22 rfl q_327 q_328 q_329 q_5 q_330 ⟨rfl, by decide +kernel, by decide +kernel, by decide +kernel⟩ ⟨Nat.le_of_ble_eq_true rfl, Nat.le_of_ble_eq_true rfl⟩ rfl (Nat.le_of_ble_eq_true rfl) dX5_counted_96 ⟨(Nat.zero_le _), (Nat.zero_le _)⟩) rfl (Nat.le_of_ble_eq_true rfl) (Nat.le_of_ble_eq_true rfl) ?_
    cases hM
    exact z_iret (pc := 99) C rfl (Nat.zero_le _) (Nat.zero_le _) dX5_counted_99
  refine z_tableD (pc := 1) (tgt := 100) C dX5_counted_1 (fun k h1 h2 hk => ?_) (by decide) ?_
  · rcases (show k = 0 ∨ k = 1 ∨ k = 2 ∨ k = 3 ∨ k = 4 ∨ k = 5 ∨ k = 6 ∨ k = 7 ∨ k = 8 ∨ k = 9 ∨ k = 10 by omega) with rfl | rfl | rfl | rfl | rfl | rfl | rfl | rfl | rfl | rfl | rfl
    · exact absurd (Int32.toInt_inj.mp (hk.trans (by decide))) hc4
    · exact absurd (Int32.toInt_inj.mp (hk.trans (by decide))) hc6
    · exact absurd (Int32.toInt_inj.mp (hk.trans (by decide))) hc9
    · rfl
    · exact absurd (Int32.toInt_inj.mp (hk.trans (by decide))) hc11
    · exact absurd (Int32.toInt_inj.mp (hk.trans (by decide))) hc14
    · rfl
    · exact absurd (Int32.toInt_inj.mp (hk.trans (by decide))) hc17
    · rfl
    · exact absurd (Int32.toInt_inj.mp (hk.trans (by decide))) hc19
    · exact absurd (Int32.toInt_inj.mp (hk.trans (by decide))) hc21
  exact z_sub [0, 1] rfl (iJ1 hM)
set_option maxHeartbeats 4000000 in
set_option maxRecDepth 100000 in
theorem c_X5_move (l : Launch) (hl : l.stackTraces = false) (G : zG) (lo t0 : Nat) (h : zH) (nx : Nat) (a0 : Nat) (x1 : Int32) (x2 : Int32) (x3 : Int32) (o : Int32 × zH × Nat) (hM : M_X5_move h nx a0 x1 x2 x3 = some o) : z_Met l yX5_move cX5_move 4 (some .int) 7 157 G lo t0 [.ref a0, .int x1, .int x2, .int x3] h nx (.inr (some (.int o.1), o.2.1, o.2.2)) 2 52 := by
  refine z_of [(0, .ref a0), (1, .int x1), (2, .int x2), (3, .int x3)] (by decide) (Nat.le_of_ble_eq_true rfl) rfl (fun p e s m below meth c C hin => ?_)
  unfold M_X5_move at hM
  refine z_aload_n (k := 0) (pc := 0) C dX5_move_0 rfl ?_
  refine z_iconst (v := (0 : Int32)) (pc := 1) C dX5_move_1 (by decide) ?_
  obtain ⟨h_1, g1, hM⟩ := Option.bind_eq_some_iff.mp hM
  refine z_put (pc := 2) (k := 0) C g1 rfl inlX5 tyX5 tyX5_ok nmX5 (by decide) q_217 (fun _ h9 => h9) rfl (tyX5_ok 0 (by decide)) rfl rfl dX5_move_2 ?_
  refine z_aload_n (k := 0) (pc := 5) C dX5_move_5 rfl ?_
  refine z_iload_n (k := 1) (pc := 6) C dX5_move_6 rfl ?_
  obtain ⟨_, g2, hM⟩ := Option.bind_eq_some_iff.mp hM
  obtain ⟨r3, g3, hM⟩ := Option.bind_eq_some_iff.mp hM
  refine z_goN (kc := 0) (ks := 0) ([.int r3]) (z_callV (pc := 7) (As := [.int x1]) (rest := []) (n := 1) (ci := 6) C (c_X5_isAwning l hl G lo t0 h_1 nx a0 x1 r3 g3) g2 rfl q_252 q_253 q_254 q_5 q_255 ⟨rfl, by decide +kernel, by decide +kernel, by decide +kernel⟩ ⟨Nat.le_of_ble_eq_true rfl, Nat.le_of_ble_eq_true rfl⟩ rfl (Nat.le_of_ble_eq_true rfl) dX5_move_7 ⟨(Nat.zero_le _), (Nat.zero_le _)⟩) rfl (Nat.le_of_ble_eq_true rfl) (Nat.le_of_ble_eq_true rfl) ?_
  refine zj0 0 0 33 ([(0, .ref a0)]) ([]) (h_1) (nx) hM (fun  hM => ?_) (fun J4 iJ4 hM => ?_)
  · refine z_aload_n (k := 0) (pc := 33) C dX5_move_33 rfl ?_
    refine z_iconst (v := (1 : Int32)) (pc := 34) C dX5_move_34 (by decide) ?_
    obtain ⟨r5, g5, hM⟩ := Option.bind_eq_some_iff.mp hM
    refine z_goN (kc := 0) (ks := 0) ([.int r5.1]) (z_callV (pc := 35) (As := [.int (1 : Int32)]) (rest := []) (n := 1) (ci := 6) C (c_X5_no l hl G lo t0 h_1 nx a0 (1 : Int32) r5 g5) g2 rfl q_223 q_224 q_225 q_5 q_226 ⟨rfl, by decide +kernel, by decide +kernel, by decide +kernel⟩ ⟨Nat.le_of_ble_eq_true rfl, Nat.le_of_ble_eq_true rfl⟩ rfl (Nat.le_of_ble_eq_true rfl) dX5_move_35 ⟨(Nat.zero_le _), (Nat.zero_le _)⟩) rfl (Nat.le_of_ble_eq_true rfl) (Nat.le_of_ble_eq_true rfl) ?_
    cases hM
    exact z_iret (pc := 38) C rfl (Nat.zero_le _) (Nat.zero_le _) dX5_move_38
  refine z_if_eq (pc := 10) (tgt := 33) C dX5_move_10 (by decide) hM (fun hc16 hM => ?_) (fun hc16 hM => ?_)
  · exact z_sub [0] rfl (iJ4 hM)
  · refine z_iload_n (k := 2) (pc := 13) C dX5_move_13 rfl ?_
    refine z_iload_n (k := 3) (pc := 14) C dX5_move_14 rfl ?_
    refine z_aload_n (k := 0) (pc := 15) C dX5_move_15 rfl ?_
    refine z_iload_n (k := 1) (pc := 16) C dX5_move_16 rfl ?_
    refine z_iconst (v := (2 : Int32)) (pc := 17) C dX5_move_17 (by decide) ?_
    obtain ⟨r6, g6, hM⟩ := Option.bind_eq_some_iff.mp hM
    refine z_goN (kc := 0) (ks := 0) ([.int r6, .int x3, .int x2]) (z_callV (pc := 18) (As := [.int x1, .int (2 : Int32)]) (rest := [.int x3, .int x2]) (n := 2) (ci := 6) C (c_X5_of l hl G lo t0 h_1 nx a0 x1 (2 : Int32) r6 g6) g2 rfl q_256 q_257 q_258 q_5 q_259 ⟨rfl, by decide +kernel, by decide +kernel, by decide +kernel⟩ ⟨Nat.le_of_ble_eq_true rfl, Nat.le_of_ble_eq_true rfl⟩ rfl (Nat.le_of_ble_eq_true rfl) dX5_move_18 ⟨(Nat.zero_le _), (Nat.zero_le _)⟩) rfl (Nat.le_of_ble_eq_true rfl) (Nat.le_of_ble_eq_true rfl) ?_
    refine z_aload_n (k := 0) (pc := 21) C dX5_move_21 rfl ?_
    refine z_iload_n (k := 1) (pc := 22) C dX5_move_22 rfl ?_
    refine z_iconst (v := (3 : Int32)) (pc := 23) C dX5_move_23 (by decide) ?_
    obtain ⟨r7, g7, hM⟩ := Option.bind_eq_some_iff.mp hM
    refine z_goN (kc := 0) (ks := 0) ([.int r7, .int r6, .int x3, .int x2]) (z_callV (pc := 24) (As := [.int x1, .int (3 : Int32)]) (rest := [.int r6, .int x3, .int x2]) (n := 2) (ci := 6) C (c_X5_of l hl G lo t0 h_1 nx a0 x1 (3 : Int32) r7 g7) g2 rfl q_256 q_257 q_258 q_5 q_259 ⟨rfl, by decide +kernel, by decide +kernel, by decide +kernel⟩ ⟨Nat.le_of_ble_eq_true rfl, Nat.le_of_ble_eq_true rfl⟩ rfl (Nat.le_of_ble_eq_true rfl) dX5_move_24 ⟨(Nat.zero_le _), (Nat.zero_le _)⟩) rfl (Nat.le_of_ble_eq_true rfl) (Nat.le_of_ble_eq_true rfl) ?_
    obtain ⟨r8, g8, hM⟩ := Option.bind_eq_some_iff.mp hM
    refine z_goN (kc := 0) (ks := 0) ([.int r8]) (z_callS (pc := 27) (As := [.int x2, .int x3, .int r6, .int r7]) (rest := []) (n := 4) C (c_X5_fits l hl G lo t0 h_1 nx x2 x3 r6 r7 r8 g8) q_227 q_228 q_5 q_229 ⟨by decide +kernel, by decide +kernel, by decide +kernel⟩ ⟨Nat.le_of_ble_eq_true rfl, Nat.le_of_ble_eq_true rfl⟩ rfl (Nat.le_of_ble_eq_true rfl) dX5_move_27 ⟨(Nat.zero_le _), (Nat.zero_le _)⟩) rfl (Nat.le_of_ble_eq_true rfl) (Nat.le_of_ble_eq_true rfl) ?_
    refine z_if_ne (pc := 30) (tgt := 39) C dX5_move_30 (by decide) hM (fun hc15 hM => ?_) (fun hc15 hM => ?_)
    · exact z_sub [0] rfl (iJ4 hM)
    · refine z_aload_n (k := 0) (pc := 39) C dX5_move_39 rfl ?_
      obtain ⟨r9, g9, hM⟩ := Option.bind_eq_some_iff.mp hM
      refine z_getR (pc := 40) (k := 2) C g9 rfl inlX5 (by decide) q_69 (fun _ h9 => h9) dX5_move_40 ?_
      refine z_bipush (v := (8 : Int32)) (pc := 43) C dX5_move_43 (by decide) ?_
      refine z_iload_n (k := 1) (pc := 45) C dX5_move_45 rfl ?_
      refine z_imul (pc := 46) C dX5_move_46 ?_
      refine z_iconst (v := (0 : Int32)) (pc := 47) C dX5_move_47 (by decide) ?_
      refine z_iadd (pc := 48) C dX5_move_48 ?_
      refine z_iload_n (k := 2) (pc := 49) C dX5_move_49 rfl ?_
      obtain ⟨h_10, g10, hM⟩ := Option.bind_eq_some_iff.mp hM
      refine z_iast (pc := 50) C g10 dX5_move_50 ?_
      refine z_aload_n (k := 0) (pc := 51) C dX5_move_51 rfl ?_
      obtain ⟨r11, g11, hM⟩ := Option.bind_eq_some_iff.mp hM
      refine z_getR (pc := 52) (k := 2) C g11 rfl inlX5 (by decide) q_69 (fun _ h9 => h9) dX5_move_52 ?_
      refine z_bipush (v := (8 : Int32)) (pc := 55) C dX5_move_55 (by decide) ?_
      refine z_iload_n (k := 1) (pc := 57) C dX5_move_57 rfl ?_
      refine z_imul (pc := 58) C dX5_move_58 ?_
      refine z_iconst (v := (1 : Int32)) (pc := 59) C dX5_move_59 (by decide) ?_
      refine z_iadd (pc := 60) C dX5_move_60 ?_
      refine z_iload_n (k := 3) (pc := 61) C dX5_move_61 rfl ?_
      obtain ⟨h_12, g12, hM⟩ := Option.bind_eq_some_iff.mp hM
      refine z_iast (pc := 62) C g12 dX5_move_62 ?_
      refine z_aload_n (k := 0) (pc := 63) C dX5_move_63 rfl ?_
      refine z_iconst (v := (3 : Int32)) (pc := 64) C dX5_move_64 (by decide) ?_
      obtain ⟨_, g13, hM⟩ := Option.bind_eq_some_iff.mp hM
      obtain ⟨r14, g14, hM⟩ := Option.bind_eq_some_iff.mp hM
      refine z_goN (kc := 2) (ks := 52) ([.int r14.1]) (z_callV (pc := 65) (As := [.int (3 : Int32)]) (rest := []) (n := 1) (ci := 6) C (c_X5_counted l hl G lo t0 h_12 nx a0 (3 : Int32) r14 g14) g13 rfl q_287 q_288 q_289 q_5 q_290 ⟨rfl, by decide +kernel, by decide +kernel, by decide +kernel⟩ ⟨Nat.le_of_ble_eq_true rfl, Nat.le_of_ble_eq_true rfl⟩ rfl (Nat.le_of_ble_eq_true rfl) dX5_move_65 ⟨(Nat.le_of_ble_eq_true rfl), (Nat.le_of_ble_eq_true rfl)⟩) rfl (Nat.le_of_ble_eq_true rfl) (Nat.le_of_ble_eq_true rfl) ?_
      cases hM
      exact z_iret (pc := 68) C rfl (Nat.le_of_ble_eq_true rfl) (Nat.le_of_ble_eq_true rfl) dX5_move_68
set_option maxHeartbeats 4000000 in
set_option maxRecDepth 100000 in
theorem c_X5_take (l : Launch) (hl : l.stackTraces = false) (G : zG) (lo t0 : Nat) (h : zH) (nx : Nat) (a0 : Nat) (x1 : Int32) (o : Int32 × zH) (hM : M_X5_take h a0 x1 = some o) : z_Met l yX5_take cX5_take 3 (some .int) 2 43 G lo t0 [.ref a0, .int x1] h nx (.inr (some (.int o.1), o.2, nx)) 0 0 := by
  refine z_of [(0, .ref a0), (1, .int x1)] (by decide) (Nat.le_of_ble_eq_true rfl) rfl (fun p e s m below meth c C hin => ?_)
  unfold M_X5_take at hM
  refine z_aload_n (k := 0) (pc := 0) C dX5_take_0 rfl ?_
  refine z_iconst (v := (0 : Int32)) (pc := 1) C dX5_take_1 (by decide) ?_
  obtain ⟨h_1, g1, hM⟩ := Option.bind_eq_some_iff.mp hM
  refine z_put (pc := 2) (k := 0) C g1 rfl inlX5 tyX5 tyX5_ok nmX5 (by decide) q_217 (fun _ h9 => h9) rfl (tyX5_ok 0 (by decide)) rfl rfl dX5_take_2 ?_
  refine z_aload_n (k := 0) (pc := 5) C dX5_take_5 rfl ?_
  refine z_iload_n (k := 1) (pc := 6) C dX5_take_6 rfl ?_
  obtain ⟨_, g2, hM⟩ := Option.bind_eq_some_iff.mp hM
  obtain ⟨r3, g3, hM⟩ := Option.bind_eq_some_iff.mp hM
  refine z_goN (kc := 0) (ks := 0) ([.int r3]) (z_callV (pc := 7) (As := [.int x1]) (rest := []) (n := 1) (ci := 6) C (c_X5_isAwning l hl G lo t0 h_1 nx a0 x1 r3 g3) g2 rfl q_252 q_253 q_254 q_5 q_255 ⟨rfl, by decide +kernel, by decide +kernel, by decide +kernel⟩ ⟨Nat.le_of_ble_eq_true rfl, Nat.le_of_ble_eq_true rfl⟩ rfl (Nat.le_of_ble_eq_true rfl) dX5_take_7 ⟨(Nat.zero_le _), (Nat.zero_le _)⟩) rfl (Nat.le_of_ble_eq_true rfl) (Nat.le_of_ble_eq_true rfl) ?_
  refine z_if_ne (pc := 10) (tgt := 19) C dX5_take_10 (by decide) hM (fun hc15 hM => ?_) (fun hc15 hM => ?_)
  · refine z_aload_n (k := 0) (pc := 13) C dX5_take_13 rfl ?_
    refine z_iconst (v := (1 : Int32)) (pc := 14) C dX5_take_14 (by decide) ?_
    obtain ⟨r14, g14, hM⟩ := Option.bind_eq_some_iff.mp hM
    refine z_goN (kc := 0) (ks := 0) ([.int r14.1]) (z_callV (pc := 15) (As := [.int (1 : Int32)]) (rest := []) (n := 1) (ci := 6) C (c_X5_no l hl G lo t0 h_1 nx a0 (1 : Int32) r14 g14) g2 rfl q_223 q_224 q_225 q_5 q_226 ⟨rfl, by decide +kernel, by decide +kernel, by decide +kernel⟩ ⟨Nat.le_of_ble_eq_true rfl, Nat.le_of_ble_eq_true rfl⟩ rfl (Nat.le_of_ble_eq_true rfl) dX5_take_15 ⟨(Nat.zero_le _), (Nat.zero_le _)⟩) rfl (Nat.le_of_ble_eq_true rfl) (Nat.le_of_ble_eq_true rfl) ?_
    cases hM
    exact z_iret (pc := 18) C rfl (Nat.zero_le _) (Nat.zero_le _) dX5_take_18
  · refine z_aload_n (k := 0) (pc := 19) C dX5_take_19 rfl ?_
    refine z_dup (pc := 20) C dX5_take_20 rfl ?_
    obtain ⟨r4, g4, hM⟩ := Option.bind_eq_some_iff.mp hM
    refine z_getI (pc := 21) (k := 1) C g4 rfl inlX5 (by decide) q_218 (fun _ h9 => h9) dX5_take_21 ?_
    refine z_iconst (v := (1 : Int32)) (pc := 24) C dX5_take_24 (by decide) ?_
    refine z_isub (pc := 25) C dX5_take_25 ?_
    obtain ⟨h_5, g5, hM⟩ := Option.bind_eq_some_iff.mp hM
    refine z_put (pc := 26) (k := 1) C g5 rfl inlX5 tyX5 tyX5_ok nmX5 (by decide) q_218 (fun _ h9 => h9) rfl (tyX5_ok 1 (by decide)) rfl rfl dX5_take_26 ?_
    refine z_bipush (v := (8 : Int32)) (pc := 29) C dX5_take_29 (by decide) ?_
    refine z_iload_n (k := 1) (pc := 31) C dX5_take_31 rfl ?_
    refine z_imul (pc := 32) C dX5_take_32 ?_
    refine z_istore_n (lv' := [(2, .int ((8 : Int32) * x1)), (0, .ref a0), (1, .int x1)]) (pc := 33) C dX5_take_33 (by decide) rfl ?_
    refine z_sub [1, 0] rfl (zl2 (fun (x2_6 : Int32) (h_6 : zH) => [(0, .ref a0), (2, .int x2_6)]) (fun (x2_6 : Int32) (h_6 : zH) => h_6) (fun (x2_6 : Int32) (h_6 : zH) => nx) hM (fun rec6 irec6 x2_6 h_6 hM => ?_))
    refine z_iload_n (k := 1) (pc := 34) C dX5_take_34 rfl ?_
    refine z_bipush (v := (8 : Int32)) (pc := 35) C dX5_take_35 (by decide) ?_
    refine z_aload_n (k := 0) (pc := 37) C dX5_take_37 rfl ?_
    obtain ⟨r7, g7, hM⟩ := Option.bind_eq_some_iff.mp hM
    refine z_getI (pc := 38) (k := 1) C g7 rfl inlX5 (by decide) q_218 (fun _ h9 => h9) dX5_take_38 ?_
    refine z_imul (pc := 41) C dX5_take_41 ?_
    refine z_icmp_ge (pc := 42) (tgt := 66) C dX5_take_42 (by decide) hM (fun hc13 hM => ?_) (fun hc13 hM => ?_)
    · refine z_aload_n (k := 0) (pc := 66) C dX5_take_66 rfl ?_
      obtain ⟨r8, g8, hM⟩ := Option.bind_eq_some_iff.mp hM
      refine z_getI (pc := 67) (k := 1) C g8 rfl inlX5 (by decide) q_218 (fun _ h9 => h9) dX5_take_67 ?_
      cases hM
      exact z_iret (pc := 70) C rfl (Nat.zero_le _) (Nat.zero_le _) dX5_take_70
    · refine z_aload_n (k := 0) (pc := 45) C dX5_take_45 rfl ?_
      obtain ⟨r9, g9, hM⟩ := Option.bind_eq_some_iff.mp hM
      refine z_getR (pc := 46) (k := 2) C g9 rfl inlX5 (by decide) q_69 (fun _ h9 => h9) dX5_take_46 ?_
      refine z_iload_n (k := 1) (pc := 49) C dX5_take_49 rfl ?_
      refine z_aload_n (k := 0) (pc := 50) C dX5_take_50 rfl ?_
      obtain ⟨r10, g10, hM⟩ := Option.bind_eq_some_iff.mp hM
      refine z_getR (pc := 51) (k := 2) C g10 rfl inlX5 (by decide) q_69 (fun _ h9 => h9) dX5_take_51 ?_
      refine z_iload_n (k := 1) (pc := 54) C dX5_take_54 rfl ?_
      refine z_bipush (v := (8 : Int32)) (pc := 55) C dX5_take_55 (by decide) ?_
      refine z_iadd (pc := 57) C dX5_take_57 ?_
      obtain ⟨r11, g11, hM⟩ := Option.bind_eq_some_iff.mp hM
      refine z_iald (pc := 58) C g11 dX5_take_58 ?_
      obtain ⟨h_12, g12, hM⟩ := Option.bind_eq_some_iff.mp hM
      refine z_iast (pc := 59) C g12 dX5_take_59 ?_
      refine z_iinc (k := 1) (v := (x2_6 + (1 : Int32))) (lv' := [(2, .int (x2_6 + (1 : Int32))), (0, .ref a0)]) (pc := 60) C dX5_take_60 rfl (by first | rfl | decide) (by decide) rfl ?_
      refine z_goto (pc := 63) (tgt := 34) C dX5_take_63 (by decide) ?_
      exact z_sub [1, 0] rfl (irec6 (x2_6 + (1 : Int32)) h_12 hM)
set_option maxHeartbeats 4000000 in
set_option maxRecDepth 100000 in
theorem c_X5_stall (l : Launch) (hl : l.stackTraces = false) (G : zG) (lo t0 : Nat) (h : zH) (nx : Nat) (a0 : Nat) (x1 : Int32) (x2 : Int32) (o : Int32 × zH) (hM : M_X5_stall h a0 x1 x2 = some o) : z_Met l yX5_stall cX5_stall 5 (some .int) 2 43 G lo t0 [.ref a0, .int x1, .int x2] h nx (.inr (some (.int o.1), o.2, nx)) 0 0 := by
  refine z_of [(0, .ref a0), (1, .int x1), (2, .int x2)] (by decide) (Nat.le_of_ble_eq_true rfl) rfl (fun p e s m below meth c C hin => ?_)
  unfold M_X5_stall at hM
  refine z_aload_n (k := 0) (pc := 0) C dX5_stall_0 rfl ?_
  refine z_iconst (v := (0 : Int32)) (pc := 1) C dX5_stall_1 (by decide) ?_
  obtain ⟨h_1, g1, hM⟩ := Option.bind_eq_some_iff.mp hM
  refine z_put (pc := 2) (k := 0) C g1 rfl inlX5 tyX5 tyX5_ok nmX5 (by decide) q_217 (fun _ h9 => h9) rfl (tyX5_ok 0 (by decide)) rfl rfl dX5_stall_2 ?_
  refine z_iload_n (k := 1) (pc := 5) C dX5_stall_5 rfl ?_
  refine z_iload_n (k := 2) (pc := 6) C dX5_stall_6 rfl ?_
  obtain ⟨r2, g2, hM⟩ := Option.bind_eq_some_iff.mp hM
  refine z_goN (kc := 0) (ks := 0) ([.int r2]) (z_callS (pc := 7) (As := [.int x1, .int x2]) (rest := []) (n := 2) C (c_X5_isCell l hl G lo t0 h_1 nx x1 x2 r2 g2) q_410 q_411 q_5 q_412 ⟨by decide +kernel, by decide +kernel, by decide +kernel⟩ ⟨Nat.le_of_ble_eq_true rfl, Nat.le_of_ble_eq_true rfl⟩ rfl (Nat.le_of_ble_eq_true rfl) dX5_stall_7 ⟨(Nat.zero_le _), (Nat.zero_le _)⟩) rfl (Nat.le_of_ble_eq_true rfl) (Nat.le_of_ble_eq_true rfl) ?_
  refine z_if_ne (pc := 10) (tgt := 19) C dX5_stall_10 (by decide) hM (fun hc29 hM => ?_) (fun hc29 hM => ?_)
  · refine z_aload_n (k := 0) (pc := 13) C dX5_stall_13 rfl ?_
    refine z_iconst (v := (1 : Int32)) (pc := 14) C dX5_stall_14 (by decide) ?_
    obtain ⟨_, g27, hM⟩ := Option.bind_eq_some_iff.mp hM
    obtain ⟨r28, g28, hM⟩ := Option.bind_eq_some_iff.mp hM
    refine z_goN (kc := 0) (ks := 0) ([.int r28.1]) (z_callV (pc := 15) (As := [.int (1 : Int32)]) (rest := []) (n := 1) (ci := 6) C (c_X5_no l hl G lo t0 h_1 nx a0 (1 : Int32) r28 g28) g27 rfl q_223 q_224 q_225 q_5 q_226 ⟨rfl, by decide +kernel, by decide +kernel, by decide +kernel⟩ ⟨Nat.le_of_ble_eq_true rfl, Nat.le_of_ble_eq_true rfl⟩ rfl (Nat.le_of_ble_eq_true rfl) dX5_stall_15 ⟨(Nat.zero_le _), (Nat.zero_le _)⟩) rfl (Nat.le_of_ble_eq_true rfl) (Nat.le_of_ble_eq_true rfl) ?_
    cases hM
    exact z_iret (pc := 18) C rfl (Nat.zero_le _) (Nat.zero_le _) dX5_stall_18
  · refine z_aload_n (k := 0) (pc := 19) C dX5_stall_19 rfl ?_
    obtain ⟨r3, g3, hM⟩ := Option.bind_eq_some_iff.mp hM
    refine z_getI (pc := 20) (k := 3) C g3 rfl inlX5 (by decide) q_291 (fun _ h9 => h9) dX5_stall_20 ?_
    refine z_bipush (v := (8 : Int32)) (pc := 23) C dX5_stall_23 (by decide) ?_
    refine zj1 0 0 33 (fun (s0_4 : Int32) => [(0, .ref a0), (1, .int x1), (2, .int x2)]) (fun (s0_4 : Int32) => [.int s0_4]) (fun (s0_4 : Int32) => h_1) (fun (s0_4 : Int32) => nx) hM (fun s0_4 hM => ?_) (fun J4 iJ4 hM => ?_)
    · refine z_istore_n (lv' := [(3, .int s0_4), (0, .ref a0), (1, .int x1), (2, .int x2)]) (pc := 33) C dX5_stall_33 (by decide) rfl ?_
      refine z_iconst (v := (0 : Int32)) (pc := 34) C dX5_stall_34 (by decide) ?_
      refine z_istore (lv' := [(4, .int (0 : Int32)), (3, .int s0_4), (0, .ref a0), (1, .int x1), (2, .int x2)]) (pc := 35) C dX5_stall_35 (by decide) rfl ?_
      refine z_sub [2, 3, 4, 1, 0] rfl (zl2 (fun (x3_5 : Int32) (x4_5 : Int32) => [(0, .ref a0), (1, .int x1), (2, .int x2), (3, .int x3_5), (4, .int x4_5)]) (fun (x3_5 : Int32) (x4_5 : Int32) => h_1) (fun (x3_5 : Int32) (x4_5 : Int32) => nx) hM (fun rec5 irec5 x3_5 x4_5 hM => ?_))
      refine z_iload (k := 4) (pc := 37) C dX5_stall_37 rfl ?_
      refine z_aload_n (k := 0) (pc := 39) C dX5_stall_39 rfl ?_
      obtain ⟨r6, g6, hM⟩ := Option.bind_eq_some_iff.mp hM
      refine z_getI (pc := 40) (k := 3) C g6 rfl inlX5 (by decide) q_291 (fun _ h9 => h9) dX5_stall_40 ?_
      refine z_icmp_ge (pc := 43) (tgt := 76) C dX5_stall_43 (by decide) hM (fun hc25 hM => ?_) (fun hc25 hM => ?_)
      · refine z_iload_n (k := 3) (pc := 76) C dX5_stall_76 rfl ?_
        refine z_if_ne (pc := 77) (tgt := 86) C dX5_stall_77 (by decide) hM (fun hc20 hM => ?_) (fun hc20 hM => ?_)
        · refine z_aload_n (k := 0) (pc := 80) C dX5_stall_80 rfl ?_
          refine z_iconst (v := (2 : Int32)) (pc := 81) C dX5_stall_81 (by decide) ?_
          obtain ⟨_, g18, hM⟩ := Option.bind_eq_some_iff.mp hM
          obtain ⟨r19, g19, hM⟩ := Option.bind_eq_some_iff.mp hM
          refine z_goN (kc := 0) (ks := 0) ([.int r19.1]) (z_callV (pc := 82) (As := [.int (2 : Int32)]) (rest := []) (n := 1) (ci := 6) C (c_X5_no l hl G lo t0 h_1 nx a0 (2 : Int32) r19 g19) g18 rfl q_223 q_224 q_225 q_5 q_226 ⟨rfl, by decide +kernel, by decide +kernel, by decide +kernel⟩ ⟨Nat.le_of_ble_eq_true rfl, Nat.le_of_ble_eq_true rfl⟩ rfl (Nat.le_of_ble_eq_true rfl) dX5_stall_82 ⟨(Nat.zero_le _), (Nat.zero_le _)⟩) rfl (Nat.le_of_ble_eq_true rfl) (Nat.le_of_ble_eq_true rfl) ?_
          cases hM
          exact z_iret (pc := 85) C rfl (Nat.zero_le _) (Nat.zero_le _) dX5_stall_85
        · refine z_aload_n (k := 0) (pc := 86) C dX5_stall_86 rfl ?_
          obtain ⟨r7, g7, hM⟩ := Option.bind_eq_some_iff.mp hM
          refine z_getR (pc := 87) (k := 4) C g7 rfl inlX5 (by decide) q_70 (fun _ h9 => h9) dX5_stall_87 ?_
          refine z_aload_n (k := 0) (pc := 90) C dX5_stall_90 rfl ?_
          obtain ⟨r8, g8, hM⟩ := Option.bind_eq_some_iff.mp hM
          refine z_getI (pc := 91) (k := 3) C g8 rfl inlX5 (by decide) q_291 (fun _ h9 => h9) dX5_stall_91 ?_
          refine z_bipush (v := (24 : Int32)) (pc := 94) C dX5_stall_94 (by decide) ?_
          refine z_iload_n (k := 1) (pc := 96) C dX5_stall_96 rfl ?_
          refine z_imul (pc := 97) C dX5_stall_97 ?_
          refine z_iload_n (k := 2) (pc := 98) C dX5_stall_98 rfl ?_
          refine z_iadd (pc := 99) C dX5_stall_99 ?_
          obtain ⟨h_9, g9, hM⟩ := Option.bind_eq_some_iff.mp hM
          refine z_iast (pc := 100) C g9 dX5_stall_100 ?_
          refine z_aload_n (k := 0) (pc := 101) C dX5_stall_101 rfl ?_
          obtain ⟨r10, g10, hM⟩ := Option.bind_eq_some_iff.mp hM
          refine z_getR (pc := 102) (k := 5) C g10 rfl inlX5 (by decide) q_71 (fun _ h9 => h9) dX5_stall_102 ?_
          refine z_aload_n (k := 0) (pc := 105) C dX5_stall_105 rfl ?_
          obtain ⟨r11, g11, hM⟩ := Option.bind_eq_some_iff.mp hM
          refine z_getI (pc := 106) (k := 3) C g11 rfl inlX5 (by decide) q_291 (fun _ h9 => h9) dX5_stall_106 ?_
          refine z_aload_n (k := 0) (pc := 109) C dX5_stall_109 rfl ?_
          obtain ⟨r12, g12, hM⟩ := Option.bind_eq_some_iff.mp hM
          refine z_getR (pc := 110) (k := 6) C g12 rfl inlX5 (by decide) q_72 (fun _ h9 => h9) dX5_stall_110 ?_
          refine z_bipush (v := (24 : Int32)) (pc := 113) C dX5_stall_113 (by decide) ?_
          refine z_iload_n (k := 1) (pc := 115) C dX5_stall_115 rfl ?_
          refine z_imul (pc := 116) C dX5_stall_116 ?_
          refine z_iload_n (k := 2) (pc := 117) C dX5_stall_117 rfl ?_
          refine z_iadd (pc := 118) C dX5_stall_118 ?_
          obtain ⟨r13, g13, hM⟩ := Option.bind_eq_some_iff.mp hM
          refine z_iald (pc := 119) C g13 dX5_stall_119 ?_
          obtain ⟨h_14, g14, hM⟩ := Option.bind_eq_some_iff.mp hM
          refine z_iast (pc := 120) C g14 dX5_stall_120 ?_
          refine z_aload_n (k := 0) (pc := 121) C dX5_stall_121 rfl ?_
          refine z_dup (pc := 122) C dX5_stall_122 rfl ?_
          obtain ⟨r15, g15, hM⟩ := Option.bind_eq_some_iff.mp hM
          refine z_getI (pc := 123) (k := 3) C g15 rfl inlX5 (by decide) q_291 (fun _ h9 => h9) dX5_stall_123 ?_
          refine z_iconst (v := (1 : Int32)) (pc := 126) C dX5_stall_126 (by decide) ?_
          refine z_iadd (pc := 127) C dX5_stall_127 ?_
          obtain ⟨h_16, g16, hM⟩ := Option.bind_eq_some_iff.mp hM
          refine z_put (pc := 128) (k := 3) C g16 rfl inlX5 tyX5 tyX5_ok nmX5 (by decide) q_291 (fun _ h9 => h9) rfl (tyX5_ok 3 (by decide)) rfl rfl dX5_stall_128 ?_
          refine z_aload_n (k := 0) (pc := 131) C dX5_stall_131 rfl ?_
          obtain ⟨r17, g17, hM⟩ := Option.bind_eq_some_iff.mp hM
          refine z_getI (pc := 132) (k := 3) C g17 rfl inlX5 (by decide) q_291 (fun _ h9 => h9) dX5_stall_132 ?_
          refine z_iconst (v := (1 : Int32)) (pc := 135) C dX5_stall_135 (by decide) ?_
          refine z_isub (pc := 136) C dX5_stall_136 ?_
          cases hM
          exact z_iret (pc := 137) C rfl (Nat.zero_le _) (Nat.zero_le _) dX5_stall_137
      · refine z_iload_n (k := 3) (pc := 46) C dX5_stall_46 rfl ?_
        refine z_aload_n (k := 0) (pc := 47) C dX5_stall_47 rfl ?_
        obtain ⟨r21, g21, hM⟩ := Option.bind_eq_some_iff.mp hM
        refine z_getR (pc := 48) (k := 4) C g21 rfl inlX5 (by decide) q_70 (fun _ h9 => h9) dX5_stall_48 ?_
        refine z_iload (k := 4) (pc := 51) C dX5_stall_51 rfl ?_
        obtain ⟨r22, g22, hM⟩ := Option.bind_eq_some_iff.mp hM
        refine z_iald (pc := 53) C g22 dX5_stall_53 ?_
        refine z_bipush (v := (24 : Int32)) (pc := 54) C dX5_stall_54 (by decide) ?_
        refine z_iload_n (k := 1) (pc := 56) C dX5_stall_56 rfl ?_
        refine z_imul (pc := 57) C dX5_stall_57 ?_
        refine z_iload_n (k := 2) (pc := 58) C dX5_stall_58 rfl ?_
        refine z_iadd (pc := 59) C dX5_stall_59 ?_
        refine zj2 0 0 68 (fun (s0_23 : Int32) (s1_23 : Int32) => [(0, .ref a0), (1, .int x1), (2, .int x2), (4, .int x4_5)]) (fun (s0_23 : Int32) (s1_23 : Int32) => [.int s1_23, .int s0_23]) (fun (s0_23 : Int32) (s1_23 : Int32) => h_1) (fun (s0_23 : Int32) (s1_23 : Int32) => nx) hM (fun s0_23 s1_23 hM => ?_) (fun J23 iJ23 hM => ?_)
        · refine z_iand (pc := 68) C dX5_stall_68 ?_
          refine z_istore_n (lv' := [(3, .int (s0_23 &&& s1_23)), (0, .ref a0), (1, .int x1), (2, .int x2), (4, .int x4_5)]) (pc := 69) C dX5_stall_69 (by decide) rfl ?_
          refine z_iinc (k := 4) (v := (x4_5 + (1 : Int32))) (lv' := [(4, .int (x4_5 + (1 : Int32))), (3, .int (s0_23 &&& s1_23)), (0, .ref a0), (1, .int x1), (2, .int x2)]) (pc := 70) C dX5_stall_70 rfl (by first | rfl | decide) (by decide) rfl ?_
          refine z_goto (pc := 73) (tgt := 37) C dX5_stall_73 (by decide) ?_
          exact z_sub [2, 3, 4, 1, 0] rfl (irec5 (s0_23 &&& s1_23) (x4_5 + (1 : Int32)) hM)
        refine z_icmp_eq (pc := 60) (tgt := 67) C dX5_stall_60 (by decide) hM (fun hc24 hM => ?_) (fun hc24 hM => ?_)
        · refine z_iconst (v := (0 : Int32)) (pc := 67) C dX5_stall_67 (by decide) ?_
          exact z_sub [0, 1, 2, 4] rfl (iJ23 x3_5 (0 : Int32) hM)
        · refine z_iconst (v := (1 : Int32)) (pc := 63) C dX5_stall_63 (by decide) ?_
          refine z_goto (pc := 64) (tgt := 68) C dX5_stall_64 (by decide) ?_
          exact z_sub [0, 1, 2, 4] rfl (iJ23 x3_5 (1 : Int32) hM)
    refine z_icmp_ge (pc := 25) (tgt := 32) C dX5_stall_25 (by decide) hM (fun hc26 hM => ?_) (fun hc26 hM => ?_)
    · refine z_iconst (v := (0 : Int32)) (pc := 32) C dX5_stall_32 (by decide) ?_
      exact z_sub [0, 1, 2] rfl (iJ4 (0 : Int32) hM)
    · refine z_iconst (v := (1 : Int32)) (pc := 28) C dX5_stall_28 (by decide) ?_
      refine z_goto (pc := 29) (tgt := 33) C dX5_stall_29 (by decide) ?_
      exact z_sub [0, 1, 2] rfl (iJ4 (1 : Int32) hM)
set_option maxHeartbeats 4000000 in
set_option maxRecDepth 100000 in
theorem c_X5_rain (l : Launch) (hl : l.stackTraces = false) (G : zG) (lo t0 : Nat) (h : zH) (nx : Nat) (a0 : Nat) (x1 : Int32) (o : Int32 × zH) (hM : M_X5_rain h a0 x1 = some o) : z_Met l yX5_rain cX5_rain 4 (some .int) 7 166 G lo t0 [.ref a0, .int x1] h nx (.inr (some (.int o.1), o.2, nx)) 0 0 := by
  refine z_of [(0, .ref a0), (1, .int x1)] (by decide) (Nat.le_of_ble_eq_true rfl) rfl (fun p e s m below meth c C hin => ?_)
  unfold M_X5_rain at hM
  refine z_aload_n (k := 0) (pc := 0) C dX5_rain_0 rfl ?_
  refine z_iconst (v := (0 : Int32)) (pc := 1) C dX5_rain_1 (by decide) ?_
  obtain ⟨h_1, g1, hM⟩ := Option.bind_eq_some_iff.mp hM
  refine z_put (pc := 2) (k := 0) C g1 rfl inlX5 tyX5 tyX5_ok nmX5 (by decide) q_217 (fun _ h9 => h9) rfl (tyX5_ok 0 (by decide)) rfl rfl dX5_rain_2 ?_
  refine z_iload_n (k := 1) (pc := 5) C dX5_rain_5 rfl ?_
  refine z_iconst (v := (1 : Int32)) (pc := 6) C dX5_rain_6 (by decide) ?_
  refine z_bipush (v := (20 : Int32)) (pc := 7) C dX5_rain_7 (by decide) ?_
  obtain ⟨r2, g2, hM⟩ := Option.bind_eq_some_iff.mp hM
  refine z_goN (kc := 0) (ks := 0) ([.int r2]) (z_callS (pc := 9) (As := [.int x1, .int (1 : Int32), .int (20 : Int32)]) (rest := []) (n := 3) C (c_X5_isIn l hl G lo t0 h_1 nx x1 (1 : Int32) (20 : Int32) r2 g2) q_220 q_221 q_5 q_222 ⟨by decide +kernel, by decide +kernel, by decide +kernel⟩ ⟨Nat.le_of_ble_eq_true rfl, Nat.le_of_ble_eq_true rfl⟩ rfl (Nat.le_of_ble_eq_true rfl) dX5_rain_9 ⟨(Nat.zero_le _), (Nat.zero_le _)⟩) rfl (Nat.le_of_ble_eq_true rfl) (Nat.le_of_ble_eq_true rfl) ?_
  refine z_if_ne (pc := 12) (tgt := 21) C dX5_rain_12 (by decide) hM (fun hc26 hM => ?_) (fun hc26 hM => ?_)
  · refine z_aload_n (k := 0) (pc := 15) C dX5_rain_15 rfl ?_
    refine z_iconst (v := (1 : Int32)) (pc := 16) C dX5_rain_16 (by decide) ?_
    obtain ⟨_, g24, hM⟩ := Option.bind_eq_some_iff.mp hM
    obtain ⟨r25, g25, hM⟩ := Option.bind_eq_some_iff.mp hM
    refine z_goN (kc := 0) (ks := 0) ([.int r25.1]) (z_callV (pc := 17) (As := [.int (1 : Int32)]) (rest := []) (n := 1) (ci := 6) C (c_X5_no l hl G lo t0 h_1 nx a0 (1 : Int32) r25 g25) g24 rfl q_223 q_224 q_225 q_5 q_226 ⟨rfl, by decide +kernel, by decide +kernel, by decide +kernel⟩ ⟨Nat.le_of_ble_eq_true rfl, Nat.le_of_ble_eq_true rfl⟩ rfl (Nat.le_of_ble_eq_true rfl) dX5_rain_17 ⟨(Nat.zero_le _), (Nat.zero_le _)⟩) rfl (Nat.le_of_ble_eq_true rfl) (Nat.le_of_ble_eq_true rfl) ?_
    cases hM
    exact z_iret (pc := 20) C rfl (Nat.zero_le _) (Nat.zero_le _) dX5_rain_20
  · refine z_aload_n (k := 0) (pc := 21) C dX5_rain_21 rfl ?_
    refine z_iload_n (k := 1) (pc := 22) C dX5_rain_22 rfl ?_
    obtain ⟨_, g3, hM⟩ := Option.bind_eq_some_iff.mp hM
    obtain ⟨r4, g4, hM⟩ := Option.bind_eq_some_iff.mp hM
    refine z_goN (kc := 0) (ks := 0) ([.int r4.1]) (z_callV (pc := 23) (As := [.int x1]) (rest := []) (n := 1) (ci := 6) C (c_X5_pour l hl G lo t0 h_1 nx a0 x1 r4 g4) g3 rfl q_489 q_490 q_491 q_5 q_492 ⟨rfl, by decide +kernel, by decide +kernel, by decide +kernel⟩ ⟨Nat.le_of_ble_eq_true rfl, Nat.le_of_ble_eq_true rfl⟩ rfl (Nat.le_of_ble_eq_true rfl) dX5_rain_23 ⟨(Nat.zero_le _), (Nat.zero_le _)⟩) rfl (Nat.le_of_ble_eq_true rfl) (Nat.le_of_ble_eq_true rfl) ?_
    refine z_istore_n (lv' := [(2, .int r4.1), (0, .ref a0), (1, .int x1)]) (pc := 26) C dX5_rain_26 (by decide) rfl ?_
    refine z_iconst (v := (0 : Int32)) (pc := 27) C dX5_rain_27 (by decide) ?_
    refine z_istore_n (lv' := [(3, .int (0 : Int32)), (2, .int r4.1), (0, .ref a0), (1, .int x1)]) (pc := 28) C dX5_rain_28 (by decide) rfl ?_
    refine z_sub [2, 3, 1, 0] rfl (zl2 (fun (x3_5 : Int32) (h_5 : zH) => [(0, .ref a0), (1, .int x1), (2, .int r4.1), (3, .int x3_5)]) (fun (x3_5 : Int32) (h_5 : zH) => h_5) (fun (x3_5 : Int32) (h_5 : zH) => nx) hM (fun rec5 irec5 x3_5 h_5 hM => ?_))
    refine z_iload_n (k := 3) (pc := 29) C dX5_rain_29 rfl ?_
    refine z_sipush (v := (576 : Int32)) (pc := 30) C dX5_rain_30 (by decide) ?_
    refine z_icmp_ge (pc := 33) (tgt := 57) C dX5_rain_33 (by decide) hM (fun hc23 hM => ?_) (fun hc23 hM => ?_)
    · refine z_iconst (v := (0 : Int32)) (pc := 57) C dX5_rain_57 (by decide) ?_
      refine z_istore_n (lv' := [(3, .int (0 : Int32)), (0, .ref a0), (1, .int x1), (2, .int r4.1)]) (pc := 58) C dX5_rain_58 (by decide) rfl ?_
      refine z_sub [1, 2, 3, 0] rfl (zl2 (fun (x3_6 : Int32) (h_6 : zH) => [(0, .ref a0), (1, .int x1), (2, .int r4.1), (3, .int x3_6)]) (fun (x3_6 : Int32) (h_6 : zH) => h_6) (fun (x3_6 : Int32) (h_6 : zH) => nx) hM (fun rec6 irec6 x3_6 h_6 hM => ?_))
      refine z_iload_n (k := 3) (pc := 59) C dX5_rain_59 rfl ?_
      refine z_aload_n (k := 0) (pc := 60) C dX5_rain_60 rfl ?_
      obtain ⟨r7, g7, hM⟩ := Option.bind_eq_some_iff.mp hM
      refine z_getI (pc := 61) (k := 1) C g7 rfl inlX5 (by decide) q_218 (fun _ h9 => h9) dX5_rain_61 ?_
      refine z_icmp_ge (pc := 64) (tgt := 94) C dX5_rain_64 (by decide) hM (fun hc17 hM => ?_) (fun hc17 hM => ?_)
      · refine z_aload_n (k := 0) (pc := 94) C dX5_rain_94 rfl ?_
        refine z_dup (pc := 95) C dX5_rain_95 rfl ?_
        obtain ⟨r8, g8, hM⟩ := Option.bind_eq_some_iff.mp hM
        refine z_getI (pc := 96) (k := 8) C g8 rfl inlX5 (by decide) q_293 (fun _ h9 => h9) dX5_rain_96 ?_
        refine z_iload_n (k := 2) (pc := 99) C dX5_rain_99 rfl ?_
        refine z_iadd (pc := 100) C dX5_rain_100 ?_
        obtain ⟨h_9, g9, hM⟩ := Option.bind_eq_some_iff.mp hM
        refine z_put (pc := 101) (k := 8) C g9 rfl inlX5 tyX5 tyX5_ok nmX5 (by decide) q_293 (fun _ h9 => h9) rfl (tyX5_ok 8 (by decide)) rfl rfl dX5_rain_101 ?_
        refine z_aload_n (k := 0) (pc := 104) C dX5_rain_104 rfl ?_
        refine z_dup (pc := 105) C dX5_rain_105 rfl ?_
        obtain ⟨r10, g10, hM⟩ := Option.bind_eq_some_iff.mp hM
        refine z_getI (pc := 106) (k := 7) C g10 rfl inlX5 (by decide) q_292 (fun _ h9 => h9) dX5_rain_106 ?_
        refine z_iconst (v := (1 : Int32)) (pc := 109) C dX5_rain_109 (by decide) ?_
        refine z_iadd (pc := 110) C dX5_rain_110 ?_
        obtain ⟨h_11, g11, hM⟩ := Option.bind_eq_some_iff.mp hM
        refine z_put (pc := 111) (k := 7) C g11 rfl inlX5 tyX5 tyX5_ok nmX5 (by decide) q_292 (fun _ h9 => h9) rfl (tyX5_ok 7 (by decide)) rfl rfl dX5_rain_111 ?_
        refine z_sipush (v := (576 : Int32)) (pc := 114) C dX5_rain_114 (by decide) ?_
        refine z_iload_n (k := 1) (pc := 117) C dX5_rain_117 rfl ?_
        refine z_imul (pc := 118) C dX5_rain_118 ?_
        refine z_iload_n (k := 2) (pc := 119) C dX5_rain_119 rfl ?_
        refine z_isub (pc := 120) C dX5_rain_120 ?_
        cases hM
        exact z_iret (pc := 121) C rfl (Nat.zero_le _) (Nat.zero_le _) dX5_rain_121
      · refine z_aload_n (k := 0) (pc := 67) C dX5_rain_67 rfl ?_
        obtain ⟨r12, g12, hM⟩ := Option.bind_eq_some_iff.mp hM
        refine z_getR (pc := 68) (k := 2) C g12 rfl inlX5 (by decide) q_69 (fun _ h9 => h9) dX5_rain_68 ?_
        refine z_bipush (v := (8 : Int32)) (pc := 71) C dX5_rain_71 (by decide) ?_
        refine z_iload_n (k := 3) (pc := 73) C dX5_rain_73 rfl ?_
        refine z_imul (pc := 74) C dX5_rain_74 ?_
        refine z_bipush (v := (7 : Int32)) (pc := 75) C dX5_rain_75 (by decide) ?_
        refine z_iadd (pc := 77) C dX5_rain_77 ?_
        refine z_dup2 (pc := 78) C dX5_rain_78 rfl rfl ?_
        obtain ⟨r13, g13, hM⟩ := Option.bind_eq_some_iff.mp hM
        refine z_iald (pc := 79) C g13 dX5_rain_79 ?_
        refine z_aload_n (k := 0) (pc := 80) C dX5_rain_80 rfl ?_
        obtain ⟨r14, g14, hM⟩ := Option.bind_eq_some_iff.mp hM
        refine z_getR (pc := 81) (k := 10) C g14 rfl inlX5 (by decide) q_74 (fun _ h9 => h9) dX5_rain_81 ?_
        refine z_iload_n (k := 3) (pc := 84) C dX5_rain_84 rfl ?_
        obtain ⟨r15, g15, hM⟩ := Option.bind_eq_some_iff.mp hM
        refine z_iald (pc := 85) C g15 dX5_rain_85 ?_
        refine z_iadd (pc := 86) C dX5_rain_86 ?_
        obtain ⟨h_16, g16, hM⟩ := Option.bind_eq_some_iff.mp hM
        refine z_iast (pc := 87) C g16 dX5_rain_87 ?_
        refine z_iinc (k := 3) (v := (x3_6 + (1 : Int32))) (lv' := [(3, .int (x3_6 + (1 : Int32))), (0, .ref a0), (1, .int x1), (2, .int r4.1)]) (pc := 88) C dX5_rain_88 rfl (by first | rfl | decide) (by decide) rfl ?_
        refine z_goto (pc := 91) (tgt := 59) C dX5_rain_91 (by decide) ?_
        exact z_sub [1, 2, 3, 0] rfl (irec6 (x3_6 + (1 : Int32)) h_16 hM)
    · refine z_aload_n (k := 0) (pc := 36) C dX5_rain_36 rfl ?_
      obtain ⟨r18, g18, hM⟩ := Option.bind_eq_some_iff.mp hM
      refine z_getR (pc := 37) (k := 6) C g18 rfl inlX5 (by decide) q_72 (fun _ h9 => h9) dX5_rain_37 ?_
      refine z_iload_n (k := 3) (pc := 40) C dX5_rain_40 rfl ?_
      refine z_dup2 (pc := 41) C dX5_rain_41 rfl rfl ?_
      obtain ⟨r19, g19, hM⟩ := Option.bind_eq_some_iff.mp hM
      refine z_iald (pc := 42) C g19 dX5_rain_42 ?_
      refine z_aload_n (k := 0) (pc := 43) C dX5_rain_43 rfl ?_
      obtain ⟨r20, g20, hM⟩ := Option.bind_eq_some_iff.mp hM
      refine z_getR (pc := 44) (k := 9) C g20 rfl inlX5 (by decide) q_73 (fun _ h9 => h9) dX5_rain_44 ?_
      refine z_iload_n (k := 3) (pc := 47) C dX5_rain_47 rfl ?_
      obtain ⟨r21, g21, hM⟩ := Option.bind_eq_some_iff.mp hM
      refine z_iald (pc := 48) C g21 dX5_rain_48 ?_
      refine z_iadd (pc := 49) C dX5_rain_49 ?_
      obtain ⟨h_22, g22, hM⟩ := Option.bind_eq_some_iff.mp hM
      refine z_iast (pc := 50) C g22 dX5_rain_50 ?_
      refine z_iinc (k := 3) (v := (x3_5 + (1 : Int32))) (lv' := [(3, .int (x3_5 + (1 : Int32))), (0, .ref a0), (1, .int x1), (2, .int r4.1)]) (pc := 51) C dX5_rain_51 rfl (by first | rfl | decide) (by decide) rfl ?_
      refine z_goto (pc := 54) (tgt := 29) C dX5_rain_54 (by decide) ?_
      exact z_sub [1, 2, 3, 0] rfl (irec5 (x3_5 + (1 : Int32)) h_22 hM)
set_option maxHeartbeats 4000000 in
set_option maxRecDepth 100000 in
theorem c_X5_own (l : Launch) (hl : l.stackTraces = false) (G : zG) (lo t0 : Nat) (h : zH) (nx : Nat) (a0 : Nat) (x1 : Int32) (o : Int32) (hM : M_X5_own h a0 x1 = some o) : z_Met l yX5_own cX5_own 4 (some .int) 4 89 G lo t0 [.ref a0, .int x1] h nx (.inr (some (.int o), h, nx)) 0 0 := by
  refine z_of [(0, .ref a0), (1, .int x1)] (by decide) (Nat.le_of_ble_eq_true rfl) rfl (fun p e s m below meth c C hin => ?_)
  unfold M_X5_own at hM
  refine z_iconst (v := (0 : Int32)) (pc := 0) C dX5_own_0 (by decide) ?_
  refine z_istore_n (lv' := [(2, .int (0 : Int32)), (0, .ref a0), (1, .int x1)]) (pc := 1) C dX5_own_1 (by decide) rfl ?_
  refine z_iconst (v := (0 : Int32)) (pc := 2) C dX5_own_2 (by decide) ?_
  refine z_istore_n (lv' := [(3, .int (0 : Int32)), (2, .int (0 : Int32)), (0, .ref a0), (1, .int x1)]) (pc := 3) C dX5_own_3 (by decide) rfl ?_
  refine z_sub [2, 3, 1, 0] rfl (zl2 (fun (x2_1 : Int32) (x3_1 : Int32) => [(0, .ref a0), (1, .int x1), (2, .int x2_1), (3, .int x3_1)]) (fun (x2_1 : Int32) (x3_1 : Int32) => h) (fun (x2_1 : Int32) (x3_1 : Int32) => nx) hM (fun rec1 irec1 x2_1 x3_1 hM => ?_))
  refine z_iload_n (k := 3) (pc := 4) C dX5_own_4 rfl ?_
  refine z_bipush (v := (24 : Int32)) (pc := 5) C dX5_own_5 (by decide) ?_
  refine z_icmp_ge (pc := 7) (tgt := 37) C dX5_own_7 (by decide) hM (fun hc6 hM => ?_) (fun hc6 hM => ?_)
  · refine z_iload_n (k := 2) (pc := 37) C dX5_own_37 rfl ?_
    cases hM
    exact z_iret (pc := 38) C rfl (Nat.zero_le _) (Nat.zero_le _) dX5_own_38
  · refine z_iload_n (k := 2) (pc := 10) C dX5_own_10 rfl ?_
    refine z_aload_n (k := 0) (pc := 11) C dX5_own_11 rfl ?_
    refine z_iload_n (k := 1) (pc := 12) C dX5_own_12 rfl ?_
    refine z_iload_n (k := 3) (pc := 13) C dX5_own_13 rfl ?_
    obtain ⟨_, g2, hM⟩ := Option.bind_eq_some_iff.mp hM
    obtain ⟨r3, g3, hM⟩ := Option.bind_eq_some_iff.mp hM
    refine z_goN (kc := 0) (ks := 0) ([.int r3, .int x2_1]) (z_callV (pc := 14) (As := [.int x1, .int x3_1]) (rest := [.int x2_1]) (n := 2) (ci := 6) C (c_X5_bits l hl G lo t0 h nx a0 x1 x3_1 r3 g3) g2 rfl q_310 q_311 q_312 q_5 q_313 ⟨rfl, by decide +kernel, by decide +kernel, by decide +kernel⟩ ⟨Nat.le_of_ble_eq_true rfl, Nat.le_of_ble_eq_true rfl⟩ rfl (Nat.le_of_ble_eq_true rfl) dX5_own_14 ⟨(Nat.zero_le _), (Nat.zero_le _)⟩) rfl (Nat.le_of_ble_eq_true rfl) (Nat.le_of_ble_eq_true rfl) ?_
    refine z_aload_n (k := 0) (pc := 17) C dX5_own_17 rfl ?_
    refine z_iload_n (k := 3) (pc := 18) C dX5_own_18 rfl ?_
    refine z_iload_n (k := 1) (pc := 19) C dX5_own_19 rfl ?_
    obtain ⟨r4, g4, hM⟩ := Option.bind_eq_some_iff.mp hM
    refine z_goN (kc := 0) (ks := 0) ([.int r4, .int r3, .int x2_1]) (z_callV (pc := 20) (As := [.int x3_1, .int x1]) (rest := [.int r3, .int x2_1]) (n := 2) (ci := 6) C (c_X5_covered l hl G lo t0 h nx a0 x3_1 x1 r4 g4) g2 rfl q_306 q_307 q_308 q_5 q_309 ⟨rfl, by decide +kernel, by decide +kernel, by decide +kernel⟩ ⟨Nat.le_of_ble_eq_true rfl, Nat.le_of_ble_eq_true rfl⟩ rfl (Nat.le_of_ble_eq_true rfl) dX5_own_20 ⟨(Nat.zero_le _), (Nat.zero_le _)⟩) rfl (Nat.le_of_ble_eq_true rfl) (Nat.le_of_ble_eq_true rfl) ?_
    refine z_iconst (v := (-1 : Int32)) (pc := 23) C dX5_own_23 (by decide) ?_
    refine z_ixor (pc := 24) C dX5_own_24 ?_
    refine z_iand (pc := 25) C dX5_own_25 ?_
    obtain ⟨r5, g5, hM⟩ := Option.bind_eq_some_iff.mp hM
    refine z_goN (kc := 0) (ks := 0) ([.int r5, .int x2_1]) (z_callS (pc := 26) (As := [.int (r3 &&& (r4 ^^^ (-1 : Int32)))]) (rest := [.int x2_1]) (n := 1) C (c_X5_many l hl G lo t0 h nx (r3 &&& (r4 ^^^ (-1 : Int32))) r5 g5) q_317 q_318 q_5 q_319 ⟨by decide +kernel, by decide +kernel, by decide +kernel⟩ ⟨Nat.le_of_ble_eq_true rfl, Nat.le_of_ble_eq_true rfl⟩ rfl (Nat.le_of_ble_eq_true rfl) dX5_own_26 ⟨(Nat.zero_le _), (Nat.zero_le _)⟩) rfl (Nat.le_of_ble_eq_true rfl) (Nat.le_of_ble_eq_true rfl) ?_
    refine z_iadd (pc := 29) C dX5_own_29 ?_
    refine z_istore_n (lv' := [(2, .int (x2_1 + r5)), (0, .ref a0), (1, .int x1), (3, .int x3_1)]) (pc := 30) C dX5_own_30 (by decide) rfl ?_
    refine z_iinc (k := 3) (v := (x3_1 + (1 : Int32))) (lv' := [(3, .int (x3_1 + (1 : Int32))), (2, .int (x2_1 + r5)), (0, .ref a0), (1, .int x1)]) (pc := 31) C dX5_own_31 rfl (by first | rfl | decide) (by decide) rfl ?_
    refine z_goto (pc := 34) (tgt := 4) C dX5_own_34 (by decide) ?_
    exact z_sub [2, 3, 1, 0] rfl (irec1 (x2_1 + r5) (x3_1 + (1 : Int32)) hM)
set_option maxHeartbeats 4000000 in
set_option maxRecDepth 100000 in
theorem c_X5_awningTold (l : Launch) (hl : l.stackTraces = false) (G : zG) (lo t0 : Nat) (h : zH) (nx : Nat) (a0 : Nat) (x1 : Int32) (x2 : Int32) (o : Int32) (hM : M_X5_awningTold h a0 x1 x2 = some o) : z_Met l yX5_awningTold cX5_awningTold 3 (some .int) 5 112 G lo t0 [.ref a0, .int x1, .int x2] h nx (.inr (some (.int o), h, nx)) 0 0 := by
  refine z_of [(0, .ref a0), (1, .int x1), (2, .int x2)] (by decide) (Nat.le_of_ble_eq_true rfl) rfl (fun p e s m below meth c C hin => ?_)
  unfold M_X5_awningTold at hM
  refine z_iload_n (k := 2) (pc := 0) C dX5_awningTold_0 rfl ?_
  refine z_bipush (v := (7 : Int32)) (pc := 1) C dX5_awningTold_1 (by decide) ?_
  refine z_icmp_ge (pc := 3) (tgt := 15) C dX5_awningTold_3 (by decide) hM (fun hc8 hM => ?_) (fun hc8 hM => ?_)
  · refine z_iload_n (k := 2) (pc := 15) C dX5_awningTold_15 rfl ?_
    refine z_bipush (v := (7 : Int32)) (pc := 16) C dX5_awningTold_16 (by decide) ?_
    refine z_icmp_ne (pc := 18) (tgt := 29) C dX5_awningTold_18 (by decide) hM (fun hc5 hM => ?_) (fun hc5 hM => ?_)
    · refine z_aload_n (k := 0) (pc := 21) C dX5_awningTold_21 rfl ?_
      refine z_iload_n (k := 1) (pc := 22) C dX5_awningTold_22 rfl ?_
      obtain ⟨_, g3, hM⟩ := Option.bind_eq_some_iff.mp hM
      obtain ⟨r4, g4, hM⟩ := Option.bind_eq_some_iff.mp hM
      refine z_goN (kc := 0) (ks := 0) ([.int r4]) (z_callV (pc := 23) (As := [.int x1]) (rest := []) (n := 1) (ci := 6) C (c_X5_own l hl G lo t0 h nx a0 x1 r4 g4) g3 rfl q_541 q_542 q_543 q_5 q_544 ⟨rfl, by decide +kernel, by decide +kernel, by decide +kernel⟩ ⟨Nat.le_of_ble_eq_true rfl, Nat.le_of_ble_eq_true rfl⟩ rfl (Nat.le_of_ble_eq_true rfl) dX5_awningTold_23 ⟨(Nat.zero_le _), (Nat.zero_le _)⟩) rfl (Nat.le_of_ble_eq_true rfl) (Nat.le_of_ble_eq_true rfl) ?_
      refine z_goto (pc := 26) (tgt := 36) C dX5_awningTold_26 (by decide) ?_
      cases hM
      exact z_iret (pc := 36) C rfl (Nat.zero_le _) (Nat.zero_le _) dX5_awningTold_36
    · refine z_aload_n (k := 0) (pc := 29) C dX5_awningTold_29 rfl ?_
      refine z_iload_n (k := 1) (pc := 30) C dX5_awningTold_30 rfl ?_
      refine z_bipush (v := (7 : Int32)) (pc := 31) C dX5_awningTold_31 (by decide) ?_
      obtain ⟨_, g1, hM⟩ := Option.bind_eq_some_iff.mp hM
      obtain ⟨r2, g2, hM⟩ := Option.bind_eq_some_iff.mp hM
      refine z_goN (kc := 0) (ks := 0) ([.int r2]) (z_callV (pc := 33) (As := [.int x1, .int (7 : Int32)]) (rest := []) (n := 2) (ci := 6) C (c_X5_of l hl G lo t0 h nx a0 x1 (7 : Int32) r2 g2) g1 rfl q_256 q_257 q_258 q_5 q_259 ⟨rfl, by decide +kernel, by decide +kernel, by decide +kernel⟩ ⟨Nat.le_of_ble_eq_true rfl, Nat.le_of_ble_eq_true rfl⟩ rfl (Nat.le_of_ble_eq_true rfl) dX5_awningTold_33 ⟨(Nat.zero_le _), (Nat.zero_le _)⟩) rfl (Nat.le_of_ble_eq_true rfl) (Nat.le_of_ble_eq_true rfl) ?_
      cases hM
      exact z_iret (pc := 36) C rfl (Nat.zero_le _) (Nat.zero_le _) dX5_awningTold_36
  · refine z_aload_n (k := 0) (pc := 6) C dX5_awningTold_6 rfl ?_
    refine z_iload_n (k := 1) (pc := 7) C dX5_awningTold_7 rfl ?_
    refine z_iload_n (k := 2) (pc := 8) C dX5_awningTold_8 rfl ?_
    obtain ⟨_, g6, hM⟩ := Option.bind_eq_some_iff.mp hM
    obtain ⟨r7, g7, hM⟩ := Option.bind_eq_some_iff.mp hM
    refine z_goN (kc := 0) (ks := 0) ([.int r7]) (z_callV (pc := 9) (As := [.int x1, .int x2]) (rest := []) (n := 2) (ci := 6) C (c_X5_of l hl G lo t0 h nx a0 x1 x2 r7 g7) g6 rfl q_256 q_257 q_258 q_5 q_259 ⟨rfl, by decide +kernel, by decide +kernel, by decide +kernel⟩ ⟨Nat.le_of_ble_eq_true rfl, Nat.le_of_ble_eq_true rfl⟩ rfl (Nat.le_of_ble_eq_true rfl) dX5_awningTold_9 ⟨(Nat.zero_le _), (Nat.zero_le _)⟩) rfl (Nat.le_of_ble_eq_true rfl) (Nat.le_of_ble_eq_true rfl) ?_
    refine z_goto (pc := 12) (tgt := 36) C dX5_awningTold_12 (by decide) ?_
    cases hM
    exact z_iret (pc := 36) C rfl (Nat.zero_le _) (Nat.zero_le _) dX5_awningTold_36
set_option maxHeartbeats 4000000 in
set_option maxRecDepth 100000 in
theorem c_X5_about (l : Launch) (hl : l.stackTraces = false) (G : zG) (lo t0 : Nat) (h : zH) (nx : Nat) (a0 : Nat) (x1 : Int32) (x2 : Int32) (o : Int32 × zH) (hM : M_X5_about h a0 x1 x2 = some o) : z_Met l yX5_about cX5_about 3 (some .int) 6 134 G lo t0 [.ref a0, .int x1, .int x2] h nx (.inr (some (.int o.1), o.2, nx)) 0 0 := by
  refine z_of [(0, .ref a0), (1, .int x1), (2, .int x2)] (by decide) (Nat.le_of_ble_eq_true rfl) rfl (fun p e s m below meth c C hin => ?_)
  unfold M_X5_about at hM
  refine z_aload_n (k := 0) (pc := 0) C dX5_about_0 rfl ?_
  refine z_iconst (v := (0 : Int32)) (pc := 1) C dX5_about_1 (by decide) ?_
  obtain ⟨h_1, g1, hM⟩ := Option.bind_eq_some_iff.mp hM
  refine z_put (pc := 2) (k := 0) C g1 rfl inlX5 tyX5 tyX5_ok nmX5 (by decide) q_217 (fun _ h9 => h9) rfl (tyX5_ok 0 (by decide)) rfl rfl dX5_about_2 ?_
  refine z_aload_n (k := 0) (pc := 5) C dX5_about_5 rfl ?_
  refine z_iload_n (k := 1) (pc := 6) C dX5_about_6 rfl ?_
  obtain ⟨_, g2, hM⟩ := Option.bind_eq_some_iff.mp hM
  obtain ⟨r3, g3, hM⟩ := Option.bind_eq_some_iff.mp hM
  refine z_goN (kc := 0) (ks := 0) ([.int r3]) (z_callV (pc := 7) (As := [.int x1]) (rest := []) (n := 1) (ci := 6) C (c_X5_isAwning l hl G lo t0 h_1 nx a0 x1 r3 g3) g2 rfl q_252 q_253 q_254 q_5 q_255 ⟨rfl, by decide +kernel, by decide +kernel, by decide +kernel⟩ ⟨Nat.le_of_ble_eq_true rfl, Nat.le_of_ble_eq_true rfl⟩ rfl (Nat.le_of_ble_eq_true rfl) dX5_about_7 ⟨(Nat.zero_le _), (Nat.zero_le _)⟩) rfl (Nat.le_of_ble_eq_true rfl) (Nat.le_of_ble_eq_true rfl) ?_
  refine zj0 0 0 32 ([(0, .ref a0)]) ([]) (h_1) (nx) hM (fun  hM => ?_) (fun J4 iJ4 hM => ?_)
  · refine z_aload_n (k := 0) (pc := 32) C dX5_about_32 rfl ?_
    refine z_iconst (v := (1 : Int32)) (pc := 33) C dX5_about_33 (by decide) ?_
    obtain ⟨r5, g5, hM⟩ := Option.bind_eq_some_iff.mp hM
    refine z_goN (kc := 0) (ks := 0) ([.int r5.1]) (z_callV (pc := 34) (As := [.int (1 : Int32)]) (rest := []) (n := 1) (ci := 6) C (c_X5_no l hl G lo t0 h_1 nx a0 (1 : Int32) r5 g5) g2 rfl q_223 q_224 q_225 q_5 q_226 ⟨rfl, by decide +kernel, by decide +kernel, by decide +kernel⟩ ⟨Nat.le_of_ble_eq_true rfl, Nat.le_of_ble_eq_true rfl⟩ rfl (Nat.le_of_ble_eq_true rfl) dX5_about_34 ⟨(Nat.zero_le _), (Nat.zero_le _)⟩) rfl (Nat.le_of_ble_eq_true rfl) (Nat.le_of_ble_eq_true rfl) ?_
    cases hM
    exact z_iret (pc := 37) C rfl (Nat.zero_le _) (Nat.zero_le _) dX5_about_37
  refine z_if_eq (pc := 10) (tgt := 32) C dX5_about_10 (by decide) hM (fun hc9 hM => ?_) (fun hc9 hM => ?_)
  · exact z_sub [0] rfl (iJ4 hM)
  · refine z_iload_n (k := 2) (pc := 13) C dX5_about_13 rfl ?_
    refine z_iconst (v := (0 : Int32)) (pc := 14) C dX5_about_14 (by decide) ?_
    refine z_bipush (v := (8 : Int32)) (pc := 15) C dX5_about_15 (by decide) ?_
    obtain ⟨r6, g6, hM⟩ := Option.bind_eq_some_iff.mp hM
    refine z_goN (kc := 0) (ks := 0) ([.int r6]) (z_callS (pc := 17) (As := [.int x2, .int (0 : Int32), .int (8 : Int32)]) (rest := []) (n := 3) C (c_X5_isIn l hl G lo t0 h_1 nx x2 (0 : Int32) (8 : Int32) r6 g6) q_220 q_221 q_5 q_222 ⟨by decide +kernel, by decide +kernel, by decide +kernel⟩ ⟨Nat.le_of_ble_eq_true rfl, Nat.le_of_ble_eq_true rfl⟩ rfl (Nat.le_of_ble_eq_true rfl) dX5_about_17 ⟨(Nat.zero_le _), (Nat.zero_le _)⟩) rfl (Nat.le_of_ble_eq_true rfl) (Nat.le_of_ble_eq_true rfl) ?_
    refine z_if_eq (pc := 20) (tgt := 32) C dX5_about_20 (by decide) hM (fun hc8 hM => ?_) (fun hc8 hM => ?_)
    · exact z_sub [0] rfl (iJ4 hM)
    · refine z_aload_n (k := 0) (pc := 23) C dX5_about_23 rfl ?_
      refine z_iload_n (k := 1) (pc := 24) C dX5_about_24 rfl ?_
      refine z_iload_n (k := 2) (pc := 25) C dX5_about_25 rfl ?_
      obtain ⟨r7, g7, hM⟩ := Option.bind_eq_some_iff.mp hM
      refine z_goN (kc := 0) (ks := 0) ([.int r7]) (z_callV (pc := 26) (As := [.int x1, .int x2]) (rest := []) (n := 2) (ci := 6) C (c_X5_awningTold l hl G lo t0 h_1 nx a0 x1 x2 r7 g7) g2 rfl q_537 q_538 q_539 q_5 q_540 ⟨rfl, by decide +kernel, by decide +kernel, by decide +kernel⟩ ⟨Nat.le_of_ble_eq_true rfl, Nat.le_of_ble_eq_true rfl⟩ rfl (Nat.le_of_ble_eq_true rfl) dX5_about_26 ⟨(Nat.zero_le _), (Nat.zero_le _)⟩) rfl (Nat.le_of_ble_eq_true rfl) (Nat.le_of_ble_eq_true rfl) ?_
      refine z_goto (pc := 29) (tgt := 37) C dX5_about_29 (by decide) ?_
      cases hM
      exact z_iret (pc := 37) C rfl (Nat.zero_le _) (Nat.zero_le _) dX5_about_37
set_option maxHeartbeats 4000000 in
set_option maxRecDepth 100000 in
theorem c_X5_cellTold (l : Launch) (hl : l.stackTraces = false) (G : zG) (lo t0 : Nat) (h : zH) (nx : Nat) (a0 : Nat) (x1 : Int32) (x2 : Int32) (x3 : Int32) (o : Int32) (hM : M_X5_cellTold h a0 x1 x2 x3 = some o) : z_Met l yX5_cellTold cX5_cellTold 4 (some .int) 4 91 G lo t0 [.ref a0, .int x1, .int x2, .int x3] h nx (.inr (some (.int o), h, nx)) 0 0 := by
  refine z_of [(0, .ref a0), (1, .int x1), (2, .int x2), (3, .int x3)] (by decide) (Nat.le_of_ble_eq_true rfl) rfl (fun p e s m below meth c C hin => ?_)
  unfold M_X5_cellTold at hM
  refine z_iload_n (k := 3) (pc := 0) C dX5_cellTold_0 rfl ?_
  refine z_if_ne (pc := 1) (tgt := 13) C dX5_cellTold_1 (by decide) hM (fun hc8 hM => ?_) (fun hc8 hM => ?_)
  · refine z_aload_n (k := 0) (pc := 4) C dX5_cellTold_4 rfl ?_
    refine z_iload_n (k := 1) (pc := 5) C dX5_cellTold_5 rfl ?_
    refine z_iload_n (k := 2) (pc := 6) C dX5_cellTold_6 rfl ?_
    obtain ⟨_, g6, hM⟩ := Option.bind_eq_some_iff.mp hM
    obtain ⟨r7, g7, hM⟩ := Option.bind_eq_some_iff.mp hM
    refine z_goN (kc := 0) (ks := 0) ([.int r7]) (z_callV (pc := 7) (As := [.int x1, .int x2]) (rest := []) (n := 2) (ci := 6) C (c_X5_lying l hl G lo t0 h nx a0 x1 x2 r7 g7) g6 rfl q_339 q_340 q_341 q_5 q_342 ⟨rfl, by decide +kernel, by decide +kernel, by decide +kernel⟩ ⟨Nat.le_of_ble_eq_true rfl, Nat.le_of_ble_eq_true rfl⟩ rfl (Nat.le_of_ble_eq_true rfl) dX5_cellTold_7 ⟨(Nat.zero_le _), (Nat.zero_le _)⟩) rfl (Nat.le_of_ble_eq_true rfl) (Nat.le_of_ble_eq_true rfl) ?_
    refine z_goto (pc := 10) (tgt := 40) C dX5_cellTold_10 (by decide) ?_
    cases hM
    exact z_iret (pc := 40) C rfl (Nat.zero_le _) (Nat.zero_le _) dX5_cellTold_40
  · refine z_iload_n (k := 3) (pc := 13) C dX5_cellTold_13 rfl ?_
    refine z_iconst (v := (1 : Int32)) (pc := 14) C dX5_cellTold_14 (by decide) ?_
    refine z_icmp_ne (pc := 15) (tgt := 29) C dX5_cellTold_15 (by decide) hM (fun hc5 hM => ?_) (fun hc5 hM => ?_)
    · refine z_aload_n (k := 0) (pc := 18) C dX5_cellTold_18 rfl ?_
      refine z_iload_n (k := 1) (pc := 19) C dX5_cellTold_19 rfl ?_
      refine z_iload_n (k := 2) (pc := 20) C dX5_cellTold_20 rfl ?_
      refine z_bipush (v := (10 : Int32)) (pc := 21) C dX5_cellTold_21 (by decide) ?_
      obtain ⟨_, g3, hM⟩ := Option.bind_eq_some_iff.mp hM
      obtain ⟨r4, g4, hM⟩ := Option.bind_eq_some_iff.mp hM
      refine z_goN (kc := 0) (ks := 0) ([.int r4]) (z_callV (pc := 23) (As := [.int x1, .int x2, .int (10 : Int32)]) (rest := []) (n := 3) (ci := 6) C (c_X5_highest l hl G lo t0 h nx a0 x1 x2 (10 : Int32) r4 g4) g3 rfl q_497 q_498 q_499 q_5 q_500 ⟨rfl, by decide +kernel, by decide +kernel, by decide +kernel⟩ ⟨Nat.le_of_ble_eq_true rfl, Nat.le_of_ble_eq_true rfl⟩ rfl (Nat.le_of_ble_eq_true rfl) dX5_cellTold_23 ⟨(Nat.zero_le _), (Nat.zero_le _)⟩) rfl (Nat.le_of_ble_eq_true rfl) (Nat.le_of_ble_eq_true rfl) ?_
      refine z_goto (pc := 26) (tgt := 40) C dX5_cellTold_26 (by decide) ?_
      cases hM
      exact z_iret (pc := 40) C rfl (Nat.zero_le _) (Nat.zero_le _) dX5_cellTold_40
    · refine z_aload_n (k := 0) (pc := 29) C dX5_cellTold_29 rfl ?_
      obtain ⟨r1, g1, hM⟩ := Option.bind_eq_some_iff.mp hM
      refine z_getR (pc := 30) (k := 6) C g1 rfl inlX5 (by decide) q_72 (fun _ h9 => h9) dX5_cellTold_30 ?_
      refine z_bipush (v := (24 : Int32)) (pc := 33) C dX5_cellTold_33 (by decide) ?_
      refine z_iload_n (k := 1) (pc := 35) C dX5_cellTold_35 rfl ?_
      refine z_imul (pc := 36) C dX5_cellTold_36 ?_
      refine z_iload_n (k := 2) (pc := 37) C dX5_cellTold_37 rfl ?_
      refine z_iadd (pc := 38) C dX5_cellTold_38 ?_
      obtain ⟨r2, g2, hM⟩ := Option.bind_eq_some_iff.mp hM
      refine z_iald (pc := 39) C g2 dX5_cellTold_39 ?_
      cases hM
      exact z_iret (pc := 40) C rfl (Nat.zero_le _) (Nat.zero_le _) dX5_cellTold_40
set_option maxHeartbeats 4000000 in
set_option maxRecDepth 100000 in
theorem c_X5_cell (l : Launch) (hl : l.stackTraces = false) (G : zG) (lo t0 : Nat) (h : zH) (nx : Nat) (a0 : Nat) (x1 : Int32) (x2 : Int32) (x3 : Int32) (o : Int32 × zH) (hM : M_X5_cell h a0 x1 x2 x3 = some o) : z_Met l yX5_cell cX5_cell 4 (some .int) 5 114 G lo t0 [.ref a0, .int x1, .int x2, .int x3] h nx (.inr (some (.int o.1), o.2, nx)) 0 0 := by
  refine z_of [(0, .ref a0), (1, .int x1), (2, .int x2), (3, .int x3)] (by decide) (Nat.le_of_ble_eq_true rfl) rfl (fun p e s m below meth c C hin => ?_)
  unfold M_X5_cell at hM
  refine z_aload_n (k := 0) (pc := 0) C dX5_cell_0 rfl ?_
  refine z_iconst (v := (0 : Int32)) (pc := 1) C dX5_cell_1 (by decide) ?_
  obtain ⟨h_1, g1, hM⟩ := Option.bind_eq_some_iff.mp hM
  refine z_put (pc := 2) (k := 0) C g1 rfl inlX5 tyX5 tyX5_ok nmX5 (by decide) q_217 (fun _ h9 => h9) rfl (tyX5_ok 0 (by decide)) rfl rfl dX5_cell_2 ?_
  refine z_iload_n (k := 1) (pc := 5) C dX5_cell_5 rfl ?_
  refine z_iload_n (k := 2) (pc := 6) C dX5_cell_6 rfl ?_
  obtain ⟨r2, g2, hM⟩ := Option.bind_eq_some_iff.mp hM
  refine z_goN (kc := 0) (ks := 0) ([.int r2]) (z_callS (pc := 7) (As := [.int x1, .int x2]) (rest := []) (n := 2) C (c_X5_isCell l hl G lo t0 h_1 nx x1 x2 r2 g2) q_410 q_411 q_5 q_412 ⟨by decide +kernel, by decide +kernel, by decide +kernel⟩ ⟨Nat.le_of_ble_eq_true rfl, Nat.le_of_ble_eq_true rfl⟩ rfl (Nat.le_of_ble_eq_true rfl) dX5_cell_7 ⟨(Nat.zero_le _), (Nat.zero_le _)⟩) rfl (Nat.le_of_ble_eq_true rfl) (Nat.le_of_ble_eq_true rfl) ?_
  refine zj0 0 0 32 ([(0, .ref a0)]) ([]) (h_1) (nx) hM (fun  hM => ?_) (fun J3 iJ3 hM => ?_)
  · refine z_aload_n (k := 0) (pc := 32) C dX5_cell_32 rfl ?_
    refine z_iconst (v := (1 : Int32)) (pc := 33) C dX5_cell_33 (by decide) ?_
    obtain ⟨_, g4, hM⟩ := Option.bind_eq_some_iff.mp hM
    obtain ⟨r5, g5, hM⟩ := Option.bind_eq_some_iff.mp hM
    refine z_goN (kc := 0) (ks := 0) ([.int r5.1]) (z_callV (pc := 34) (As := [.int (1 : Int32)]) (rest := []) (n := 1) (ci := 6) C (c_X5_no l hl G lo t0 h_1 nx a0 (1 : Int32) r5 g5) g4 rfl q_223 q_224 q_225 q_5 q_226 ⟨rfl, by decide +kernel, by decide +kernel, by decide +kernel⟩ ⟨Nat.le_of_ble_eq_true rfl, Nat.le_of_ble_eq_true rfl⟩ rfl (Nat.le_of_ble_eq_true rfl) dX5_cell_34 ⟨(Nat.zero_le _), (Nat.zero_le _)⟩) rfl (Nat.le_of_ble_eq_true rfl) (Nat.le_of_ble_eq_true rfl) ?_
    cases hM
    exact z_iret (pc := 37) C rfl (Nat.zero_le _) (Nat.zero_le _) dX5_cell_37
  refine z_if_eq (pc := 10) (tgt := 32) C dX5_cell_10 (by decide) hM (fun hc10 hM => ?_) (fun hc10 hM => ?_)
  · exact z_sub [0] rfl (iJ3 hM)
  · refine z_iload_n (k := 3) (pc := 13) C dX5_cell_13 rfl ?_
    refine z_iconst (v := (0 : Int32)) (pc := 14) C dX5_cell_14 (by decide) ?_
    refine z_iconst (v := (2 : Int32)) (pc := 15) C dX5_cell_15 (by decide) ?_
    obtain ⟨r6, g6, hM⟩ := Option.bind_eq_some_iff.mp hM
    refine z_goN (kc := 0) (ks := 0) ([.int r6]) (z_callS (pc := 16) (As := [.int x3, .int (0 : Int32), .int (2 : Int32)]) (rest := []) (n := 3) C (c_X5_isIn l hl G lo t0 h_1 nx x3 (0 : Int32) (2 : Int32) r6 g6) q_220 q_221 q_5 q_222 ⟨by decide +kernel, by decide +kernel, by decide +kernel⟩ ⟨Nat.le_of_ble_eq_true rfl, Nat.le_of_ble_eq_true rfl⟩ rfl (Nat.le_of_ble_eq_true rfl) dX5_cell_16 ⟨(Nat.zero_le _), (Nat.zero_le _)⟩) rfl (Nat.le_of_ble_eq_true rfl) (Nat.le_of_ble_eq_true rfl) ?_
    refine z_if_eq (pc := 19) (tgt := 32) C dX5_cell_19 (by decide) hM (fun hc9 hM => ?_) (fun hc9 hM => ?_)
    · exact z_sub [0] rfl (iJ3 hM)
    · refine z_aload_n (k := 0) (pc := 22) C dX5_cell_22 rfl ?_
      refine z_iload_n (k := 1) (pc := 23) C dX5_cell_23 rfl ?_
      refine z_iload_n (k := 2) (pc := 24) C dX5_cell_24 rfl ?_
      refine z_iload_n (k := 3) (pc := 25) C dX5_cell_25 rfl ?_
      obtain ⟨_, g7, hM⟩ := Option.bind_eq_some_iff.mp hM
      obtain ⟨r8, g8, hM⟩ := Option.bind_eq_some_iff.mp hM
      refine z_goN (kc := 0) (ks := 0) ([.int r8]) (z_callV (pc := 26) (As := [.int x1, .int x2, .int x3]) (rest := []) (n := 3) (ci := 6) C (c_X5_cellTold l hl G lo t0 h_1 nx a0 x1 x2 x3 r8 g8) g7 rfl q_558 q_559 q_560 q_5 q_561 ⟨rfl, by decide +kernel, by decide +kernel, by decide +kernel⟩ ⟨Nat.le_of_ble_eq_true rfl, Nat.le_of_ble_eq_true rfl⟩ rfl (Nat.le_of_ble_eq_true rfl) dX5_cell_26 ⟨(Nat.zero_le _), (Nat.zero_le _)⟩) rfl (Nat.le_of_ble_eq_true rfl) (Nat.le_of_ble_eq_true rfl) ?_
      refine z_goto (pc := 29) (tgt := 37) C dX5_cell_29 (by decide) ?_
      cases hM
      exact z_iret (pc := 37) C rfl (Nat.zero_le _) (Nat.zero_le _) dX5_cell_37
set_option maxHeartbeats 4000000 in
set_option maxRecDepth 100000 in
theorem c_X5_longest (l : Launch) (hl : l.stackTraces = false) (G : zG) (lo t0 : Nat) (h : zH) (nx : Nat) (x0 : Int32) (o : Int32) (hM : M_X5_longest x0 = some o) : z_Met l yX5_longest cX5_longest 3 (some .int) 0 0 G lo t0 [.int x0] h nx (.inr (some (.int o), h, nx)) 0 0 := by
  refine z_of [(0, .int x0)] (by decide) (Nat.le_of_ble_eq_true rfl) rfl (fun p e s m below meth c C hin => ?_)
  unfold M_X5_longest at hM
  refine z_iconst (v := (0 : Int32)) (pc := 0) C dX5_longest_0 (by decide) ?_
  refine z_istore_n (lv' := [(1, .int (0 : Int32)), (0, .int x0)]) (pc := 1) C dX5_longest_1 (by decide) rfl ?_
  refine z_iload_n (k := 1) (pc := 2) C dX5_longest_2 rfl ?_
  refine z_istore_n (lv' := [(2, .int x0), (1, .int (0 : Int32)), (0, .int x0)]) (pc := 3) C dX5_longest_3 (by decide) rfl ?_
  refine z_sub [1, 0] rfl (zl2 (fun (x1_1 : Int32) (x2_1 : Int32) => [(1, .int x1_1), (2, .int x2_1)]) (fun (x1_1 : Int32) (x2_1 : Int32) => h) (fun (x1_1 : Int32) (x2_1 : Int32) => nx) hM (fun rec1 irec1 x1_1 x2_1 hM => ?_))
  refine z_iload_n (k := 1) (pc := 4) C dX5_longest_4 rfl ?_
  refine z_if_eq (pc := 5) (tgt := 20) C dX5_longest_5 (by decide) hM (fun hc2 hM => ?_) (fun hc2 hM => ?_)
  · refine z_iload_n (k := 0) (pc := 20) C dX5_longest_20 rfl ?_
    cases hM
    exact z_iret (pc := 21) C rfl (Nat.zero_le _) (Nat.zero_le _) dX5_longest_21
  · refine z_iinc (k := 0) (v := (x1_1 + (1 : Int32))) (lv' := [(1, .int (x1_1 + (1 : Int32))), (2, .int x2_1)]) (pc := 8) C dX5_longest_8 rfl (by first | rfl | decide) (by decide) rfl ?_
    refine z_iload_n (k := 1) (pc := 11) C dX5_longest_11 rfl ?_
    refine z_iload_n (k := 1) (pc := 12) C dX5_longest_12 rfl ?_
    refine z_iconst (v := (1 : Int32)) (pc := 13) C dX5_longest_13 (by decide) ?_
    refine z_ishl (pc := 14) C dX5_longest_14 ?_
    refine z_iand (pc := 15) C dX5_longest_15 ?_
    refine z_istore_n (lv' := [(2, .int (x2_1 &&& (x2_1 <<< ((1 : Int32) &&& 31)))), (1, .int (x1_1 + (1 : Int32)))]) (pc := 16) C dX5_longest_16 (by decide) rfl ?_
    refine z_goto (pc := 17) (tgt := 4) C dX5_longest_17 (by decide) ?_
    exact z_sub [1, 0] rfl (irec1 (x1_1 + (1 : Int32)) (x2_1 &&& (x2_1 <<< ((1 : Int32) &&& 31))) hM)
set_option maxHeartbeats 4000000 in
set_option maxRecDepth 100000 in
theorem c_X5_deepest (l : Launch) (hl : l.stackTraces = false) (G : zG) (lo t0 : Nat) (h : zH) (nx : Nat) (a0 : Nat) (x1 : Int32) (o : Int32) (hM : M_X5_deepest h a0 x1 = some o) : z_Met l yX5_deepest cX5_deepest 4 (some .int) 4 89 G lo t0 [.ref a0, .int x1] h nx (.inr (some (.int o), h, nx)) 0 0 := by
  refine z_of [(0, .ref a0), (1, .int x1)] (by decide) (Nat.le_of_ble_eq_true rfl) rfl (fun p e s m below meth c C hin => ?_)
  unfold M_X5_deepest at hM
  refine z_iconst (v := (0 : Int32)) (pc := 0) C dX5_deepest_0 (by decide) ?_
  refine z_istore_n (lv' := [(2, .int (0 : Int32)), (0, .ref a0), (1, .int x1)]) (pc := 1) C dX5_deepest_1 (by decide) rfl ?_
  refine z_iconst (v := (0 : Int32)) (pc := 2) C dX5_deepest_2 (by decide) ?_
  refine z_istore_n (lv' := [(3, .int (0 : Int32)), (2, .int (0 : Int32)), (0, .ref a0), (1, .int x1)]) (pc := 3) C dX5_deepest_3 (by decide) rfl ?_
  refine z_sub [2, 3, 1, 0] rfl (zl2 (fun (x2_1 : Int32) (x3_1 : Int32) => [(0, .ref a0), (1, .int x1), (2, .int x2_1), (3, .int x3_1)]) (fun (x2_1 : Int32) (x3_1 : Int32) => h) (fun (x2_1 : Int32) (x3_1 : Int32) => nx) hM (fun rec1 irec1 x2_1 x3_1 hM => ?_))
  refine z_iload_n (k := 3) (pc := 4) C dX5_deepest_4 rfl ?_
  refine z_bipush (v := (24 : Int32)) (pc := 5) C dX5_deepest_5 (by decide) ?_
  refine z_icmp_ge (pc := 7) (tgt := 27) C dX5_deepest_7 (by decide) hM (fun hc4 hM => ?_) (fun hc4 hM => ?_)
  · refine z_iload_n (k := 2) (pc := 27) C dX5_deepest_27 rfl ?_
    cases hM
    exact z_iret (pc := 28) C rfl (Nat.zero_le _) (Nat.zero_le _) dX5_deepest_28
  · refine z_iload_n (k := 2) (pc := 10) C dX5_deepest_10 rfl ?_
    refine z_aload_n (k := 0) (pc := 11) C dX5_deepest_11 rfl ?_
    refine z_iload_n (k := 1) (pc := 12) C dX5_deepest_12 rfl ?_
    refine z_iload_n (k := 3) (pc := 13) C dX5_deepest_13 rfl ?_
    obtain ⟨_, g2, hM⟩ := Option.bind_eq_some_iff.mp hM
    obtain ⟨r3, g3, hM⟩ := Option.bind_eq_some_iff.mp hM
    refine z_goN (kc := 0) (ks := 0) ([.int r3, .int x2_1]) (z_callV (pc := 14) (As := [.int x1, .int x3_1]) (rest := [.int x2_1]) (n := 2) (ci := 6) C (c_X5_lying l hl G lo t0 h nx a0 x1 x3_1 r3 g3) g2 rfl q_339 q_340 q_341 q_5 q_342 ⟨rfl, by decide +kernel, by decide +kernel, by decide +kernel⟩ ⟨Nat.le_of_ble_eq_true rfl, Nat.le_of_ble_eq_true rfl⟩ rfl (Nat.le_of_ble_eq_true rfl) dX5_deepest_14 ⟨(Nat.zero_le _), (Nat.zero_le _)⟩) rfl (Nat.le_of_ble_eq_true rfl) (Nat.le_of_ble_eq_true rfl) ?_
    refine z_max (pc := 17) C q_601 q_145 q_146 q_147 (Nat.le_of_ble_eq_true rfl) (Nat.le_of_ble_eq_true rfl) (Nat.zero_le _) (Nat.zero_le _) dX5_deepest_17 ?_
    refine z_istore_n (lv' := [(2, .int (if x2_1 < r3 then r3 else x2_1)), (0, .ref a0), (1, .int x1), (3, .int x3_1)]) (pc := 20) C dX5_deepest_20 (by decide) rfl ?_
    refine z_iinc (k := 3) (v := (x3_1 + (1 : Int32))) (lv' := [(3, .int (x3_1 + (1 : Int32))), (2, .int (if x2_1 < r3 then r3 else x2_1)), (0, .ref a0), (1, .int x1)]) (pc := 21) C dX5_deepest_21 rfl (by first | rfl | decide) (by decide) rfl ?_
    refine z_goto (pc := 24) (tgt := 4) C dX5_deepest_24 (by decide) ?_
    exact z_sub [2, 3, 1, 0] rfl (irec1 (if x2_1 < r3 then r3 else x2_1) (x3_1 + (1 : Int32)) hM)
set_option maxHeartbeats 4000000 in
set_option maxRecDepth 100000 in
theorem c_X5_cordTold (l : Launch) (hl : l.stackTraces = false) (G : zG) (lo t0 : Nat) (h : zH) (nx : Nat) (a0 : Nat) (x1 : Int32) (x2 : Int32) (o : Int32) (hM : M_X5_cordTold h a0 x1 x2 = some o) : z_Met l yX5_cordTold cX5_cordTold 4 (some .int) 5 112 G lo t0 [.ref a0, .int x1, .int x2] h nx (.inr (some (.int o), h, nx)) 0 0 := by
  refine z_of [(0, .ref a0), (1, .int x1), (2, .int x2)] (by decide) (Nat.le_of_ble_eq_true rfl) rfl (fun p e s m below meth c C hin => ?_)
  unfold M_X5_cordTold at hM
  refine z_aload_n (k := 0) (pc := 0) C dX5_cordTold_0 rfl ?_
  refine z_iload_n (k := 1) (pc := 1) C dX5_cordTold_1 rfl ?_
  obtain ⟨_, g1, hM⟩ := Option.bind_eq_some_iff.mp hM
  obtain ⟨r2, g2, hM⟩ := Option.bind_eq_some_iff.mp hM
  refine z_goN (kc := 0) (ks := 0) ([.int r2]) (z_callV (pc := 2) (As := [.int x1]) (rest := []) (n := 1) (ci := 6) C (c_X5_covered_ l hl G lo t0 h nx a0 x1 r2 g2) g1 rfl q_302 q_303 q_304 q_5 q_305 ⟨rfl, by decide +kernel, by decide +kernel, by decide +kernel⟩ ⟨Nat.le_of_ble_eq_true rfl, Nat.le_of_ble_eq_true rfl⟩ rfl (Nat.le_of_ble_eq_true rfl) dX5_cordTold_2 ⟨(Nat.zero_le _), (Nat.zero_le _)⟩) rfl (Nat.le_of_ble_eq_true rfl) (Nat.le_of_ble_eq_true rfl) ?_
  refine z_istore_n (lv' := [(3, .int r2), (0, .ref a0), (1, .int x1), (2, .int x2)]) (pc := 5) C dX5_cordTold_5 (by decide) rfl ?_
  refine z_iload_n (k := 3) (pc := 6) C dX5_cordTold_6 rfl ?_
  refine z_sw hM (fun hc3 hM => ?_) (fun hc3 hM => ?_)
  · refine z_tableIn (pc := 7) (tgt := 32) C dX5_cordTold_7 (by rw [hc3]; decide) (by rw [hc3]; decide) (by rw [hc3]; rfl) (by decide) ?_
    refine z_iload_n (k := 0) (pc := 32) C dX5_cordTold_32 rfl ?_
    obtain ⟨r4, g4, hM⟩ := Option.bind_eq_some_iff.mp hM
    refine z_goN (kc := 0) (ks := 0) ([.int r4]) (z_callS (pc := 33) (As := [.int r2]) (rest := []) (n := 1) C (c_X5_many l hl G lo t0 h nx r2 r4 g4) q_317 q_318 q_5 q_319 ⟨by decide +kernel, by decide +kernel, by decide +kernel⟩ ⟨Nat.le_of_ble_eq_true rfl, Nat.le_of_ble_eq_true rfl⟩ rfl (Nat.le_of_ble_eq_true rfl) dX5_cordTold_33 ⟨(Nat.zero_le _), (Nat.zero_le _)⟩) rfl (Nat.le_of_ble_eq_true rfl) (Nat.le_of_ble_eq_true rfl) ?_
    cases hM
    exact z_iret (pc := 36) C rfl (Nat.zero_le _) (Nat.zero_le _) dX5_cordTold_36
  refine z_sw hM (fun hc5 hM => ?_) (fun hc5 hM => ?_)
  · refine z_tableIn (pc := 7) (tgt := 37) C dX5_cordTold_7 (by rw [hc5]; decide) (by rw [hc5]; decide) (by rw [hc5]; rfl) (by decide) ?_
    refine z_iload_n (k := 0) (pc := 37) C dX5_cordTold_37 rfl ?_
    refine z_iload_n (k := 0) (pc := 38) C dX5_cordTold_38 rfl ?_
    refine z_iconst (v := (1 : Int32)) (pc := 39) C dX5_cordTold_39 (by decide) ?_
    refine z_ishl (pc := 40) C dX5_cordTold_40 ?_
    refine z_iconst (v := (-1 : Int32)) (pc := 41) C dX5_cordTold_41 (by decide) ?_
    refine z_ixor (pc := 42) C dX5_cordTold_42 ?_
    refine z_iand (pc := 43) C dX5_cordTold_43 ?_
    obtain ⟨r6, g6, hM⟩ := Option.bind_eq_some_iff.mp hM
    refine z_goN (kc := 0) (ks := 0) ([.int r6]) (z_callS (pc := 44) (As := [.int (r2 &&& ((r2 <<< ((1 : Int32) &&& 31)) ^^^ (-1 : Int32)))]) (rest := []) (n := 1) C (c_X5_many l hl G lo t0 h nx (r2 &&& ((r2 <<< ((1 : Int32) &&& 31)) ^^^ (-1 : Int32))) r6 g6) q_317 q_318 q_5 q_319 ⟨by decide +kernel, by decide +kernel, by decide +kernel⟩ ⟨Nat.le_of_ble_eq_true rfl, Nat.le_of_ble_eq_true rfl⟩ rfl (Nat.le_of_ble_eq_true rfl) dX5_cordTold_44 ⟨(Nat.zero_le _), (Nat.zero_le _)⟩) rfl (Nat.le_of_ble_eq_true rfl) (Nat.le_of_ble_eq_true rfl) ?_
    cases hM
    exact z_iret (pc := 47) C rfl (Nat.zero_le _) (Nat.zero_le _) dX5_cordTold_47
  refine z_sw hM (fun hc7 hM => ?_) (fun hc7 hM => ?_)
  · refine z_tableIn (pc := 7) (tgt := 48) C dX5_cordTold_7 (by rw [hc7]; decide) (by rw [hc7]; decide) (by rw [hc7]; rfl) (by decide) ?_
    refine z_iload_n (k := 0) (pc := 48) C dX5_cordTold_48 rfl ?_
    obtain ⟨r8, g8, hM⟩ := Option.bind_eq_some_iff.mp hM
    refine z_goN (kc := 0) (ks := 0) ([.int r8]) (z_callS (pc := 49) (As := [.int r2]) (rest := []) (n := 1) C (c_X5_longest l hl G lo t0 h nx r2 r8 g8) q_594 q_595 q_5 q_596 ⟨by decide +kernel, by decide +kernel, by decide +kernel⟩ ⟨Nat.le_of_ble_eq_true rfl, Nat.le_of_ble_eq_true rfl⟩ rfl (Nat.le_of_ble_eq_true rfl) dX5_cordTold_49 ⟨(Nat.zero_le _), (Nat.zero_le _)⟩) rfl (Nat.le_of_ble_eq_true rfl) (Nat.le_of_ble_eq_true rfl) ?_
    cases hM
    exact z_iret (pc := 52) C rfl (Nat.zero_le _) (Nat.zero_le _) dX5_cordTold_52
  refine z_tableD (pc := 7) (tgt := 53) C dX5_cordTold_7 (fun k h1 h2 hk => ?_) (by decide) ?_
  · rcases (show k = 0 ∨ k = 1 ∨ k = 2 by omega) with rfl | rfl | rfl
    · exact absurd (Int32.toInt_inj.mp (hk.trans (by decide))) hc3
    · exact absurd (Int32.toInt_inj.mp (hk.trans (by decide))) hc5
    · exact absurd (Int32.toInt_inj.mp (hk.trans (by decide))) hc7
  refine z_aload_n (k := 1) (pc := 53) C dX5_cordTold_53 rfl ?_
  refine z_iload_n (k := 2) (pc := 54) C dX5_cordTold_54 rfl ?_
  obtain ⟨r9, g9, hM⟩ := Option.bind_eq_some_iff.mp hM
  refine z_goN (kc := 0) (ks := 0) ([.int r9]) (z_callV (pc := 55) (As := [.int x1]) (rest := []) (n := 1) (ci := 6) C (c_X5_deepest l hl G lo t0 h nx a0 x1 r9 g9) g1 rfl q_597 q_598 q_599 q_5 q_600 ⟨rfl, by decide +kernel, by decide +kernel, by decide +kernel⟩ ⟨Nat.le_of_ble_eq_true rfl, Nat.le_of_ble_eq_true rfl⟩ rfl (Nat.le_of_ble_eq_true rfl) dX5_cordTold_55 ⟨(Nat.zero_le _), (Nat.zero_le _)⟩) rfl (Nat.le_of_ble_eq_true rfl) (Nat.le_of_ble_eq_true rfl) ?_
  cases hM
  exact z_iret (pc := 58) C rfl (Nat.zero_le _) (Nat.zero_le _) dX5_cordTold_58
set_option maxHeartbeats 4000000 in
set_option maxRecDepth 100000 in
theorem c_X5_cord (l : Launch) (hl : l.stackTraces = false) (G : zG) (lo t0 : Nat) (h : zH) (nx : Nat) (a0 : Nat) (x1 : Int32) (x2 : Int32) (o : Int32 × zH) (hM : M_X5_cord h a0 x1 x2 = some o) : z_Met l yX5_cord cX5_cord 3 (some .int) 6 135 G lo t0 [.ref a0, .int x1, .int x2] h nx (.inr (some (.int o.1), o.2, nx)) 0 0 := by
  refine z_of [(0, .ref a0), (1, .int x1), (2, .int x2)] (by decide) (Nat.le_of_ble_eq_true rfl) rfl (fun p e s m below meth c C hin => ?_)
  unfold M_X5_cord at hM
  refine z_aload_n (k := 0) (pc := 0) C dX5_cord_0 rfl ?_
  refine z_iconst (v := (0 : Int32)) (pc := 1) C dX5_cord_1 (by decide) ?_
  obtain ⟨h_1, g1, hM⟩ := Option.bind_eq_some_iff.mp hM
  refine z_put (pc := 2) (k := 0) C g1 rfl inlX5 tyX5 tyX5_ok nmX5 (by decide) q_217 (fun _ h9 => h9) rfl (tyX5_ok 0 (by decide)) rfl rfl dX5_cord_2 ?_
  refine z_iload_n (k := 1) (pc := 5) C dX5_cord_5 rfl ?_
  refine z_iconst (v := (0 : Int32)) (pc := 6) C dX5_cord_6 (by decide) ?_
  refine z_bipush (v := (23 : Int32)) (pc := 7) C dX5_cord_7 (by decide) ?_
  obtain ⟨r2, g2, hM⟩ := Option.bind_eq_some_iff.mp hM
  refine z_goN (kc := 0) (ks := 0) ([.int r2]) (z_callS (pc := 9) (As := [.int x1, .int (0 : Int32), .int (23 : Int32)]) (rest := []) (n := 3) C (c_X5_isIn l hl G lo t0 h_1 nx x1 (0 : Int32) (23 : Int32) r2 g2) q_220 q_221 q_5 q_222 ⟨by decide +kernel, by decide +kernel, by decide +kernel⟩ ⟨Nat.le_of_ble_eq_true rfl, Nat.le_of_ble_eq_true rfl⟩ rfl (Nat.le_of_ble_eq_true rfl) dX5_cord_9 ⟨(Nat.zero_le _), (Nat.zero_le _)⟩) rfl (Nat.le_of_ble_eq_true rfl) (Nat.le_of_ble_eq_true rfl) ?_
  refine zj0 0 0 33 ([(0, .ref a0)]) ([]) (h_1) (nx) hM (fun  hM => ?_) (fun J3 iJ3 hM => ?_)
  · refine z_aload_n (k := 0) (pc := 33) C dX5_cord_33 rfl ?_
    refine z_iconst (v := (1 : Int32)) (pc := 34) C dX5_cord_34 (by decide) ?_
    obtain ⟨_, g4, hM⟩ := Option.bind_eq_some_iff.mp hM
    obtain ⟨r5, g5, hM⟩ := Option.bind_eq_some_iff.mp hM
    refine z_goN (kc := 0) (ks := 0) ([.int r5.1]) (z_callV (pc := 35) (As := [.int (1 : Int32)]) (rest := []) (n := 1) (ci := 6) C (c_X5_no l hl G lo t0 h_1 nx a0 (1 : Int32) r5 g5) g4 rfl q_223 q_224 q_225 q_5 q_226 ⟨rfl, by decide +kernel, by decide +kernel, by decide +kernel⟩ ⟨Nat.le_of_ble_eq_true rfl, Nat.le_of_ble_eq_true rfl⟩ rfl (Nat.le_of_ble_eq_true rfl) dX5_cord_35 ⟨(Nat.zero_le _), (Nat.zero_le _)⟩) rfl (Nat.le_of_ble_eq_true rfl) (Nat.le_of_ble_eq_true rfl) ?_
    cases hM
    exact z_iret (pc := 38) C rfl (Nat.zero_le _) (Nat.zero_le _) dX5_cord_38
  refine z_if_eq (pc := 12) (tgt := 33) C dX5_cord_12 (by decide) hM (fun hc10 hM => ?_) (fun hc10 hM => ?_)
  · exact z_sub [0] rfl (iJ3 hM)
  · refine z_iload_n (k := 2) (pc := 15) C dX5_cord_15 rfl ?_
    refine z_iconst (v := (0 : Int32)) (pc := 16) C dX5_cord_16 (by decide) ?_
    refine z_iconst (v := (3 : Int32)) (pc := 17) C dX5_cord_17 (by decide) ?_
    obtain ⟨r6, g6, hM⟩ := Option.bind_eq_some_iff.mp hM
    refine z_goN (kc := 0) (ks := 0) ([.int r6]) (z_callS (pc := 18) (As := [.int x2, .int (0 : Int32), .int (3 : Int32)]) (rest := []) (n := 3) C (c_X5_isIn l hl G lo t0 h_1 nx x2 (0 : Int32) (3 : Int32) r6 g6) q_220 q_221 q_5 q_222 ⟨by decide +kernel, by decide +kernel, by decide +kernel⟩ ⟨Nat.le_of_ble_eq_true rfl, Nat.le_of_ble_eq_true rfl⟩ rfl (Nat.le_of_ble_eq_true rfl) dX5_cord_18 ⟨(Nat.zero_le _), (Nat.zero_le _)⟩) rfl (Nat.le_of_ble_eq_true rfl) (Nat.le_of_ble_eq_true rfl) ?_
    refine z_if_eq (pc := 21) (tgt := 33) C dX5_cord_21 (by decide) hM (fun hc9 hM => ?_) (fun hc9 hM => ?_)
    · exact z_sub [0] rfl (iJ3 hM)
    · refine z_aload_n (k := 0) (pc := 24) C dX5_cord_24 rfl ?_
      refine z_iload_n (k := 1) (pc := 25) C dX5_cord_25 rfl ?_
      refine z_iload_n (k := 2) (pc := 26) C dX5_cord_26 rfl ?_
      obtain ⟨_, g7, hM⟩ := Option.bind_eq_some_iff.mp hM
      obtain ⟨r8, g8, hM⟩ := Option.bind_eq_some_iff.mp hM
      refine z_goN (kc := 0) (ks := 0) ([.int r8]) (z_callV (pc := 27) (As := [.int x1, .int x2]) (rest := []) (n := 2) (ci := 6) C (c_X5_cordTold l hl G lo t0 h_1 nx a0 x1 x2 r8 g8) g7 rfl q_590 q_591 q_592 q_5 q_593 ⟨rfl, by decide +kernel, by decide +kernel, by decide +kernel⟩ ⟨Nat.le_of_ble_eq_true rfl, Nat.le_of_ble_eq_true rfl⟩ rfl (Nat.le_of_ble_eq_true rfl) dX5_cord_27 ⟨(Nat.zero_le _), (Nat.zero_le _)⟩) rfl (Nat.le_of_ble_eq_true rfl) (Nat.le_of_ble_eq_true rfl) ?_
      refine z_goto (pc := 30) (tgt := 38) C dX5_cord_30 (by decide) ?_
      cases hM
      exact z_iret (pc := 38) C rfl (Nat.zero_le _) (Nat.zero_le _) dX5_cord_38
set_option maxHeartbeats 4000000 in
set_option maxRecDepth 100000 in
theorem c_X5_told (l : Launch) (hl : l.stackTraces = false) (G : zG) (lo t0 : Nat) (h : zH) (nx : Nat) (a0 : Nat) (x1 : Int32) (x2 : Int32) (o : Int32 × zH) (hM : M_X5_told h a0 x1 x2 = some o) : z_Met l yX5_told cX5_told 3 (some .int) 5 111 G lo t0 [.ref a0, .int x1, .int x2] h nx (.inr (some (.int o.1), o.2, nx)) 0 0 := by
  refine z_of [(0, .ref a0), (1, .int x1), (2, .int x2)] (by decide) (Nat.le_of_ble_eq_true rfl) rfl (fun p e s m below meth c C hin => ?_)
  unfold M_X5_told at hM
  refine z_aload_n (k := 0) (pc := 0) C dX5_told_0 rfl ?_
  refine z_iconst (v := (0 : Int32)) (pc := 1) C dX5_told_1 (by decide) ?_
  obtain ⟨h_1, g1, hM⟩ := Option.bind_eq_some_iff.mp hM
  refine z_put (pc := 2) (k := 0) C g1 rfl inlX5 tyX5 tyX5_ok nmX5 (by decide) q_217 (fun _ h9 => h9) rfl (tyX5_ok 0 (by decide)) rfl rfl dX5_told_2 ?_
  refine z_aload_n (k := 0) (pc := 5) C dX5_told_5 rfl ?_
  refine z_iload_n (k := 1) (pc := 6) C dX5_told_6 rfl ?_
  obtain ⟨_, g2, hM⟩ := Option.bind_eq_some_iff.mp hM
  obtain ⟨r3, g3, hM⟩ := Option.bind_eq_some_iff.mp hM
  refine z_goN (kc := 0) (ks := 0) ([.int r3]) (z_callV (pc := 7) (As := [.int x1]) (rest := []) (n := 1) (ci := 6) C (c_X5_isStall l hl G lo t0 h_1 nx a0 x1 r3 g3) g2 rfl q_622 q_623 q_624 q_5 q_625 ⟨rfl, by decide +kernel, by decide +kernel, by decide +kernel⟩ ⟨Nat.le_of_ble_eq_true rfl, Nat.le_of_ble_eq_true rfl⟩ rfl (Nat.le_of_ble_eq_true rfl) dX5_told_7 ⟨(Nat.zero_le _), (Nat.zero_le _)⟩) rfl (Nat.le_of_ble_eq_true rfl) (Nat.le_of_ble_eq_true rfl) ?_
  refine zj0 0 0 31 ([(0, .ref a0)]) ([]) (h_1) (nx) hM (fun  hM => ?_) (fun J4 iJ4 hM => ?_)
  · refine z_aload_n (k := 0) (pc := 31) C dX5_told_31 rfl ?_
    refine z_iconst (v := (1 : Int32)) (pc := 32) C dX5_told_32 (by decide) ?_
    obtain ⟨r5, g5, hM⟩ := Option.bind_eq_some_iff.mp hM
    refine z_goN (kc := 0) (ks := 0) ([.int r5.1]) (z_callV (pc := 33) (As := [.int (1 : Int32)]) (rest := []) (n := 1) (ci := 6) C (c_X5_no l hl G lo t0 h_1 nx a0 (1 : Int32) r5 g5) g2 rfl q_223 q_224 q_225 q_5 q_226 ⟨rfl, by decide +kernel, by decide +kernel, by decide +kernel⟩ ⟨Nat.le_of_ble_eq_true rfl, Nat.le_of_ble_eq_true rfl⟩ rfl (Nat.le_of_ble_eq_true rfl) dX5_told_33 ⟨(Nat.zero_le _), (Nat.zero_le _)⟩) rfl (Nat.le_of_ble_eq_true rfl) (Nat.le_of_ble_eq_true rfl) ?_
    cases hM
    exact z_iret (pc := 36) C rfl (Nat.zero_le _) (Nat.zero_le _) dX5_told_36
  refine z_if_eq (pc := 10) (tgt := 31) C dX5_told_10 (by decide) hM (fun hc9 hM => ?_) (fun hc9 hM => ?_)
  · exact z_sub [0] rfl (iJ4 hM)
  · refine z_iload_n (k := 2) (pc := 13) C dX5_told_13 rfl ?_
    refine z_iconst (v := (0 : Int32)) (pc := 14) C dX5_told_14 (by decide) ?_
    refine z_iconst (v := (3 : Int32)) (pc := 15) C dX5_told_15 (by decide) ?_
    obtain ⟨r6, g6, hM⟩ := Option.bind_eq_some_iff.mp hM
    refine z_goN (kc := 0) (ks := 0) ([.int r6]) (z_callS (pc := 16) (As := [.int x2, .int (0 : Int32), .int (3 : Int32)]) (rest := []) (n := 3) C (c_X5_isIn l hl G lo t0 h_1 nx x2 (0 : Int32) (3 : Int32) r6 g6) q_220 q_221 q_5 q_222 ⟨by decide +kernel, by decide +kernel, by decide +kernel⟩ ⟨Nat.le_of_ble_eq_true rfl, Nat.le_of_ble_eq_true rfl⟩ rfl (Nat.le_of_ble_eq_true rfl) dX5_told_16 ⟨(Nat.zero_le _), (Nat.zero_le _)⟩) rfl (Nat.le_of_ble_eq_true rfl) (Nat.le_of_ble_eq_true rfl) ?_
    refine z_if_eq (pc := 19) (tgt := 31) C dX5_told_19 (by decide) hM (fun hc8 hM => ?_) (fun hc8 hM => ?_)
    · exact z_sub [0] rfl (iJ4 hM)
    · refine z_aload_n (k := 0) (pc := 22) C dX5_told_22 rfl ?_
      refine z_iload_n (k := 1) (pc := 23) C dX5_told_23 rfl ?_
      refine z_iload_n (k := 2) (pc := 24) C dX5_told_24 rfl ?_
      obtain ⟨r7, g7, hM⟩ := Option.bind_eq_some_iff.mp hM
      refine z_goN (kc := 0) (ks := 0) ([.int r7]) (z_callV (pc := 25) (As := [.int x1, .int x2]) (rest := []) (n := 2) (ci := 6) C (c_X5_stallTold l hl G lo t0 h_1 nx a0 x1 x2 r7 g7) g2 rfl q_331 q_332 q_333 q_5 q_334 ⟨rfl, by decide +kernel, by decide +kernel, by decide +kernel⟩ ⟨Nat.le_of_ble_eq_true rfl, Nat.le_of_ble_eq_true rfl⟩ rfl (Nat.le_of_ble_eq_true rfl) dX5_told_25 ⟨(Nat.zero_le _), (Nat.zero_le _)⟩) rfl (Nat.le_of_ble_eq_true rfl) (Nat.le_of_ble_eq_true rfl) ?_
      refine z_goto (pc := 28) (tgt := 36) C dX5_told_28 (by decide) ?_
      cases hM
      exact z_iret (pc := 36) C rfl (Nat.zero_le _) (Nat.zero_le _) dX5_told_36
set_option maxHeartbeats 4000000 in
set_option maxRecDepth 100000 in
theorem c_X5_share (l : Launch) (hl : l.stackTraces = false) (G : zG) (lo t0 : Nat) (h : zH) (nx : Nat) (a0 : Nat) (x1 : Int32) (x2 : Int32) (o : Int32 × zH) (hM : M_X5_share h a0 x1 x2 = some o) : z_Met l yX5_share cX5_share 5 (some .int) 3 65 G lo t0 [.ref a0, .int x1, .int x2] h nx (.inr (some (.int o.1), o.2, nx)) 0 0 := by
  refine z_of [(0, .ref a0), (1, .int x1), (2, .int x2)] (by decide) (Nat.le_of_ble_eq_true rfl) rfl (fun p e s m below meth c C hin => ?_)
  unfold M_X5_share at hM
  refine z_aload_n (k := 0) (pc := 0) C dX5_share_0 rfl ?_
  refine z_iconst (v := (0 : Int32)) (pc := 1) C dX5_share_1 (by decide) ?_
  obtain ⟨h_1, g1, hM⟩ := Option.bind_eq_some_iff.mp hM
  refine z_put (pc := 2) (k := 0) C g1 rfl inlX5 tyX5 tyX5_ok nmX5 (by decide) q_217 (fun _ h9 => h9) rfl (tyX5_ok 0 (by decide)) rfl rfl dX5_share_2 ?_
  refine z_aload_n (k := 0) (pc := 5) C dX5_share_5 rfl ?_
  refine z_iload_n (k := 1) (pc := 6) C dX5_share_6 rfl ?_
  obtain ⟨_, g2, hM⟩ := Option.bind_eq_some_iff.mp hM
  obtain ⟨r3, g3, hM⟩ := Option.bind_eq_some_iff.mp hM
  refine z_goN (kc := 0) (ks := 0) ([.int r3]) (z_callV (pc := 7) (As := [.int x1]) (rest := []) (n := 1) (ci := 6) C (c_X5_isAwning l hl G lo t0 h_1 nx a0 x1 r3 g3) g2 rfl q_252 q_253 q_254 q_5 q_255 ⟨rfl, by decide +kernel, by decide +kernel, by decide +kernel⟩ ⟨Nat.le_of_ble_eq_true rfl, Nat.le_of_ble_eq_true rfl⟩ rfl (Nat.le_of_ble_eq_true rfl) dX5_share_7 ⟨(Nat.zero_le _), (Nat.zero_le _)⟩) rfl (Nat.le_of_ble_eq_true rfl) (Nat.le_of_ble_eq_true rfl) ?_
  refine zj0 0 0 21 ([(0, .ref a0)]) ([]) (h_1) (nx) hM (fun  hM => ?_) (fun J4 iJ4 hM => ?_)
  · refine z_aload_n (k := 0) (pc := 21) C dX5_share_21 rfl ?_
    refine z_iconst (v := (1 : Int32)) (pc := 22) C dX5_share_22 (by decide) ?_
    obtain ⟨r5, g5, hM⟩ := Option.bind_eq_some_iff.mp hM
    refine z_goN (kc := 0) (ks := 0) ([.int r5.1]) (z_callV (pc := 23) (As := [.int (1 : Int32)]) (rest := []) (n := 1) (ci := 6) C (c_X5_no l hl G lo t0 h_1 nx a0 (1 : Int32) r5 g5) g2 rfl q_223 q_224 q_225 q_5 q_226 ⟨rfl, by decide +kernel, by decide +kernel, by decide +kernel⟩ ⟨Nat.le_of_ble_eq_true rfl, Nat.le_of_ble_eq_true rfl⟩ rfl (Nat.le_of_ble_eq_true rfl) dX5_share_23 ⟨(Nat.zero_le _), (Nat.zero_le _)⟩) rfl (Nat.le_of_ble_eq_true rfl) (Nat.le_of_ble_eq_true rfl) ?_
    cases hM
    exact z_iret (pc := 26) C rfl (Nat.zero_le _) (Nat.zero_le _) dX5_share_26
  refine z_if_eq (pc := 10) (tgt := 21) C dX5_share_10 (by decide) hM (fun hc13 hM => ?_) (fun hc13 hM => ?_)
  · exact z_sub [0] rfl (iJ4 hM)
  · refine z_aload_n (k := 0) (pc := 13) C dX5_share_13 rfl ?_
    refine z_iload_n (k := 2) (pc := 14) C dX5_share_14 rfl ?_
    obtain ⟨r6, g6, hM⟩ := Option.bind_eq_some_iff.mp hM
    refine z_goN (kc := 0) (ks := 0) ([.int r6]) (z_callV (pc := 15) (As := [.int x2]) (rest := []) (n := 1) (ci := 6) C (c_X5_isAwning l hl G lo t0 h_1 nx a0 x2 r6 g6) g2 rfl q_252 q_253 q_254 q_5 q_255 ⟨rfl, by decide +kernel, by decide +kernel, by decide +kernel⟩ ⟨Nat.le_of_ble_eq_true rfl, Nat.le_of_ble_eq_true rfl⟩ rfl (Nat.le_of_ble_eq_true rfl) dX5_share_15 ⟨(Nat.zero_le _), (Nat.zero_le _)⟩) rfl (Nat.le_of_ble_eq_true rfl) (Nat.le_of_ble_eq_true rfl) ?_
    refine z_if_ne (pc := 18) (tgt := 27) C dX5_share_18 (by decide) hM (fun hc12 hM => ?_) (fun hc12 hM => ?_)
    · exact z_sub [0] rfl (iJ4 hM)
    · refine z_iconst (v := (0 : Int32)) (pc := 27) C dX5_share_27 (by decide) ?_
      refine z_istore_n (lv' := [(3, .int (0 : Int32)), (0, .ref a0), (1, .int x1), (2, .int x2)]) (pc := 28) C dX5_share_28 (by decide) rfl ?_
      refine z_iconst (v := (0 : Int32)) (pc := 29) C dX5_share_29 (by decide) ?_
      refine z_istore (lv' := [(4, .int (0 : Int32)), (3, .int (0 : Int32)), (0, .ref a0), (1, .int x1), (2, .int x2)]) (pc := 30) C dX5_share_30 (by decide) rfl ?_
      refine z_sub [2, 3, 4, 1, 0] rfl (zl2 (fun (x3_7 : Int32) (x4_7 : Int32) => [(0, .ref a0), (1, .int x1), (2, .int x2), (3, .int x3_7), (4, .int x4_7)]) (fun (x3_7 : Int32) (x4_7 : Int32) => h_1) (fun (x3_7 : Int32) (x4_7 : Int32) => nx) hM (fun rec7 irec7 x3_7 x4_7 hM => ?_))
      refine z_iload (k := 4) (pc := 32) C dX5_share_32 rfl ?_
      refine z_bipush (v := (24 : Int32)) (pc := 34) C dX5_share_34 (by decide) ?_
      refine z_icmp_ge (pc := 36) (tgt := 66) C dX5_share_36 (by decide) hM (fun hc11 hM => ?_) (fun hc11 hM => ?_)
      · refine z_iload_n (k := 3) (pc := 66) C dX5_share_66 rfl ?_
        cases hM
        exact z_iret (pc := 67) C rfl (Nat.zero_le _) (Nat.zero_le _) dX5_share_67
      · refine z_iload_n (k := 3) (pc := 39) C dX5_share_39 rfl ?_
        refine z_aload_n (k := 0) (pc := 40) C dX5_share_40 rfl ?_
        refine z_iload_n (k := 1) (pc := 41) C dX5_share_41 rfl ?_
        refine z_iload (k := 4) (pc := 42) C dX5_share_42 rfl ?_
        obtain ⟨r8, g8, hM⟩ := Option.bind_eq_some_iff.mp hM
        refine z_goN (kc := 0) (ks := 0) ([.int r8, .int x3_7]) (z_callV (pc := 44) (As := [.int x1, .int x4_7]) (rest := [.int x3_7]) (n := 2) (ci := 6) C (c_X5_bits l hl G lo t0 h_1 nx a0 x1 x4_7 r8 g8) g2 rfl q_310 q_311 q_312 q_5 q_313 ⟨rfl, by decide +kernel, by decide +kernel, by decide +kernel⟩ ⟨Nat.le_of_ble_eq_true rfl, Nat.le_of_ble_eq_true rfl⟩ rfl (Nat.le_of_ble_eq_true rfl) dX5_share_44 ⟨(Nat.zero_le _), (Nat.zero_le _)⟩) rfl (Nat.le_of_ble_eq_true rfl) (Nat.le_of_ble_eq_true rfl) ?_
        refine z_aload_n (k := 0) (pc := 47) C dX5_share_47 rfl ?_
        refine z_iload_n (k := 2) (pc := 48) C dX5_share_48 rfl ?_
        refine z_iload (k := 4) (pc := 49) C dX5_share_49 rfl ?_
        obtain ⟨r9, g9, hM⟩ := Option.bind_eq_some_iff.mp hM
        refine z_goN (kc := 0) (ks := 0) ([.int r9, .int r8, .int x3_7]) (z_callV (pc := 51) (As := [.int x2, .int x4_7]) (rest := [.int r8, .int x3_7]) (n := 2) (ci := 6) C (c_X5_bits l hl G lo t0 h_1 nx a0 x2 x4_7 r9 g9) g2 rfl q_310 q_311 q_312 q_5 q_313 ⟨rfl, by decide +kernel, by decide +kernel, by decide +kernel⟩ ⟨Nat.le_of_ble_eq_true rfl, Nat.le_of_ble_eq_true rfl⟩ rfl (Nat.le_of_ble_eq_true rfl) dX5_share_51 ⟨(Nat.zero_le _), (Nat.zero_le _)⟩) rfl (Nat.le_of_ble_eq_true rfl) (Nat.le_of_ble_eq_true rfl) ?_
        refine z_iand (pc := 54) C dX5_share_54 ?_
        obtain ⟨r10, g10, hM⟩ := Option.bind_eq_some_iff.mp hM
        refine z_goN (kc := 0) (ks := 0) ([.int r10, .int x3_7]) (z_callS (pc := 55) (As := [.int (r8 &&& r9)]) (rest := [.int x3_7]) (n := 1) C (c_X5_many l hl G lo t0 h_1 nx (r8 &&& r9) r10 g10) q_317 q_318 q_5 q_319 ⟨by decide +kernel, by decide +kernel, by decide +kernel⟩ ⟨Nat.le_of_ble_eq_true rfl, Nat.le_of_ble_eq_true rfl⟩ rfl (Nat.le_of_ble_eq_true rfl) dX5_share_55 ⟨(Nat.zero_le _), (Nat.zero_le _)⟩) rfl (Nat.le_of_ble_eq_true rfl) (Nat.le_of_ble_eq_true rfl) ?_
        refine z_iadd (pc := 58) C dX5_share_58 ?_
        refine z_istore_n (lv' := [(3, .int (x3_7 + r10)), (0, .ref a0), (1, .int x1), (2, .int x2), (4, .int x4_7)]) (pc := 59) C dX5_share_59 (by decide) rfl ?_
        refine z_iinc (k := 4) (v := (x4_7 + (1 : Int32))) (lv' := [(4, .int (x4_7 + (1 : Int32))), (3, .int (x3_7 + r10)), (0, .ref a0), (1, .int x1), (2, .int x2)]) (pc := 60) C dX5_share_60 rfl (by first | rfl | decide) (by decide) rfl ?_
        refine z_goto (pc := 63) (tgt := 32) C dX5_share_63 (by decide) ?_
        exact z_sub [2, 3, 4, 1, 0] rfl (irec7 (x3_7 + r10) (x4_7 + (1 : Int32)) hM)
set_option maxHeartbeats 4000000 in
set_option maxRecDepth 100000 in
theorem c_X5_count (l : Launch) (hl : l.stackTraces = false) (G : zG) (lo t0 : Nat) (h : zH) (nx : Nat) (a0 : Nat) (x1 : Int32) (o : Int32 × zH × Nat) (hM : M_X5_count h nx a0 x1 = some o) : z_Met l yX5_count cX5_count 2 (some .int) 7 157 G lo t0 [.ref a0, .int x1] h nx (.inr (some (.int o.1), o.2.1, o.2.2)) 2 52 := by
  refine z_of [(0, .ref a0), (1, .int x1)] (by decide) (Nat.le_of_ble_eq_true rfl) rfl (fun p e s m below meth c C hin => ?_)
  unfold M_X5_count at hM
  refine z_aload_n (k := 0) (pc := 0) C dX5_count_0 rfl ?_
  refine z_iconst (v := (0 : Int32)) (pc := 1) C dX5_count_1 (by decide) ?_
  obtain ⟨h_1, g1, hM⟩ := Option.bind_eq_some_iff.mp hM
  refine z_put (pc := 2) (k := 0) C g1 rfl inlX5 tyX5 tyX5_ok nmX5 (by decide) q_217 (fun _ h9 => h9) rfl (tyX5_ok 0 (by decide)) rfl rfl dX5_count_2 ?_
  refine z_iload_n (k := 1) (pc := 5) C dX5_count_5 rfl ?_
  refine z_iconst (v := (0 : Int32)) (pc := 6) C dX5_count_6 (by decide) ?_
  refine z_bipush (v := (10 : Int32)) (pc := 7) C dX5_count_7 (by decide) ?_
  obtain ⟨r2, g2, hM⟩ := Option.bind_eq_some_iff.mp hM
  refine z_goN (kc := 0) (ks := 0) ([.int r2]) (z_callS (pc := 9) (As := [.int x1, .int (0 : Int32), .int (10 : Int32)]) (rest := []) (n := 3) C (c_X5_isIn l hl G lo t0 h_1 nx x1 (0 : Int32) (10 : Int32) r2 g2) q_220 q_221 q_5 q_222 ⟨by decide +kernel, by decide +kernel, by decide +kernel⟩ ⟨Nat.le_of_ble_eq_true rfl, Nat.le_of_ble_eq_true rfl⟩ rfl (Nat.le_of_ble_eq_true rfl) dX5_count_9 ⟨(Nat.zero_le _), (Nat.zero_le _)⟩) rfl (Nat.le_of_ble_eq_true rfl) (Nat.le_of_ble_eq_true rfl) ?_
  refine z_if_eq (pc := 12) (tgt := 23) C dX5_count_12 (by decide) hM (fun hc7 hM => ?_) (fun hc7 hM => ?_)
  · refine z_aload_n (k := 0) (pc := 23) C dX5_count_23 rfl ?_
    refine z_iconst (v := (1 : Int32)) (pc := 24) C dX5_count_24 (by decide) ?_
    obtain ⟨_, g3, hM⟩ := Option.bind_eq_some_iff.mp hM
    obtain ⟨r4, g4, hM⟩ := Option.bind_eq_some_iff.mp hM
    refine z_goN (kc := 0) (ks := 0) ([.int r4.1]) (z_callV (pc := 25) (As := [.int (1 : Int32)]) (rest := []) (n := 1) (ci := 6) C (c_X5_no l hl G lo t0 h_1 nx a0 (1 : Int32) r4 g4) g3 rfl q_223 q_224 q_225 q_5 q_226 ⟨rfl, by decide +kernel, by decide +kernel, by decide +kernel⟩ ⟨Nat.le_of_ble_eq_true rfl, Nat.le_of_ble_eq_true rfl⟩ rfl (Nat.le_of_ble_eq_true rfl) dX5_count_25 ⟨(Nat.zero_le _), (Nat.zero_le _)⟩) rfl (Nat.le_of_ble_eq_true rfl) (Nat.le_of_ble_eq_true rfl) ?_
    cases hM
    exact z_iret (pc := 28) C rfl (Nat.zero_le _) (Nat.zero_le _) dX5_count_28
  · refine z_aload_n (k := 0) (pc := 15) C dX5_count_15 rfl ?_
    refine z_iload_n (k := 1) (pc := 16) C dX5_count_16 rfl ?_
    obtain ⟨_, g5, hM⟩ := Option.bind_eq_some_iff.mp hM
    obtain ⟨r6, g6, hM⟩ := Option.bind_eq_some_iff.mp hM
    refine z_goN (kc := 2) (ks := 52) ([.int r6.1]) (z_callV (pc := 17) (As := [.int x1]) (rest := []) (n := 1) (ci := 6) C (c_X5_counted l hl G lo t0 h_1 nx a0 x1 r6 g6) g5 rfl q_287 q_288 q_289 q_5 q_290 ⟨rfl, by decide +kernel, by decide +kernel, by decide +kernel⟩ ⟨Nat.le_of_ble_eq_true rfl, Nat.le_of_ble_eq_true rfl⟩ rfl (Nat.le_of_ble_eq_true rfl) dX5_count_17 ⟨(Nat.le_of_ble_eq_true rfl), (Nat.le_of_ble_eq_true rfl)⟩) rfl (Nat.le_of_ble_eq_true rfl) (Nat.le_of_ble_eq_true rfl) ?_
    refine z_goto (pc := 20) (tgt := 28) C dX5_count_20 (by decide) ?_
    cases hM
    exact z_iret (pc := 28) C rfl (Nat.le_of_ble_eq_true rfl) (Nat.le_of_ble_eq_true rfl) dX5_count_28
set_option maxHeartbeats 4000000 in
set_option maxRecDepth 100000 in
theorem c_X5_would (l : Launch) (hl : l.stackTraces = false) (G : zG) (lo t0 : Nat) (h : zH) (nx : Nat) (a0 : Nat) (x1 : Int32) (x2 : Int32) (o : Int32 × zH) (hM : M_X5_would h a0 x1 x2 = some o) : z_Met l yX5_would cX5_would 3 (some .int) 7 166 G lo t0 [.ref a0, .int x1, .int x2] h nx (.inr (some (.int o.1), o.2, nx)) 0 0 := by
  refine z_of [(0, .ref a0), (1, .int x1), (2, .int x2)] (by decide) (Nat.le_of_ble_eq_true rfl) rfl (fun p e s m below meth c C hin => ?_)
  unfold M_X5_would at hM
  refine z_aload_n (k := 0) (pc := 0) C dX5_would_0 rfl ?_
  refine z_iconst (v := (0 : Int32)) (pc := 1) C dX5_would_1 (by decide) ?_
  obtain ⟨h_1, g1, hM⟩ := Option.bind_eq_some_iff.mp hM
  refine z_put (pc := 2) (k := 0) C g1 rfl inlX5 tyX5 tyX5_ok nmX5 (by decide) q_217 (fun _ h9 => h9) rfl (tyX5_ok 0 (by decide)) rfl rfl dX5_would_2 ?_
  refine z_aload_n (k := 0) (pc := 5) C dX5_would_5 rfl ?_
  refine z_iload_n (k := 1) (pc := 6) C dX5_would_6 rfl ?_
  obtain ⟨_, g2, hM⟩ := Option.bind_eq_some_iff.mp hM
  obtain ⟨r3, g3, hM⟩ := Option.bind_eq_some_iff.mp hM
  refine z_goN (kc := 0) (ks := 0) ([.int r3]) (z_callV (pc := 7) (As := [.int x1]) (rest := []) (n := 1) (ci := 6) C (c_X5_isStall l hl G lo t0 h_1 nx a0 x1 r3 g3) g2 rfl q_622 q_623 q_624 q_5 q_625 ⟨rfl, by decide +kernel, by decide +kernel, by decide +kernel⟩ ⟨Nat.le_of_ble_eq_true rfl, Nat.le_of_ble_eq_true rfl⟩ rfl (Nat.le_of_ble_eq_true rfl) dX5_would_7 ⟨(Nat.zero_le _), (Nat.zero_le _)⟩) rfl (Nat.le_of_ble_eq_true rfl) (Nat.le_of_ble_eq_true rfl) ?_
  refine z_if_ne (pc := 10) (tgt := 19) C dX5_would_10 (by decide) hM (fun hc13 hM => ?_) (fun hc13 hM => ?_)
  · refine z_aload_n (k := 0) (pc := 13) C dX5_would_13 rfl ?_
    refine z_iconst (v := (1 : Int32)) (pc := 14) C dX5_would_14 (by decide) ?_
    obtain ⟨r12, g12, hM⟩ := Option.bind_eq_some_iff.mp hM
    refine z_goN (kc := 0) (ks := 0) ([.int r12.1]) (z_callV (pc := 15) (As := [.int (1 : Int32)]) (rest := []) (n := 1) (ci := 6) C (c_X5_no l hl G lo t0 h_1 nx a0 (1 : Int32) r12 g12) g2 rfl q_223 q_224 q_225 q_5 q_226 ⟨rfl, by decide +kernel, by decide +kernel, by decide +kernel⟩ ⟨Nat.le_of_ble_eq_true rfl, Nat.le_of_ble_eq_true rfl⟩ rfl (Nat.le_of_ble_eq_true rfl) dX5_would_15 ⟨(Nat.zero_le _), (Nat.zero_le _)⟩) rfl (Nat.le_of_ble_eq_true rfl) (Nat.le_of_ble_eq_true rfl) ?_
    cases hM
    exact z_iret (pc := 18) C rfl (Nat.zero_le _) (Nat.zero_le _) dX5_would_18
  · refine z_iload_n (k := 2) (pc := 19) C dX5_would_19 rfl ?_
    refine z_iconst (v := (1 : Int32)) (pc := 20) C dX5_would_20 (by decide) ?_
    refine z_bipush (v := (20 : Int32)) (pc := 21) C dX5_would_21 (by decide) ?_
    obtain ⟨r4, g4, hM⟩ := Option.bind_eq_some_iff.mp hM
    refine z_goN (kc := 0) (ks := 0) ([.int r4]) (z_callS (pc := 23) (As := [.int x2, .int (1 : Int32), .int (20 : Int32)]) (rest := []) (n := 3) C (c_X5_isIn l hl G lo t0 h_1 nx x2 (1 : Int32) (20 : Int32) r4 g4) q_220 q_221 q_5 q_222 ⟨by decide +kernel, by decide +kernel, by decide +kernel⟩ ⟨Nat.le_of_ble_eq_true rfl, Nat.le_of_ble_eq_true rfl⟩ rfl (Nat.le_of_ble_eq_true rfl) dX5_would_23 ⟨(Nat.zero_le _), (Nat.zero_le _)⟩) rfl (Nat.le_of_ble_eq_true rfl) (Nat.le_of_ble_eq_true rfl) ?_
    refine z_if_ne (pc := 26) (tgt := 35) C dX5_would_26 (by decide) hM (fun hc11 hM => ?_) (fun hc11 hM => ?_)
    · refine z_aload_n (k := 0) (pc := 29) C dX5_would_29 rfl ?_
      refine z_iconst (v := (2 : Int32)) (pc := 30) C dX5_would_30 (by decide) ?_
      obtain ⟨r10, g10, hM⟩ := Option.bind_eq_some_iff.mp hM
      refine z_goN (kc := 0) (ks := 0) ([.int r10.1]) (z_callV (pc := 31) (As := [.int (2 : Int32)]) (rest := []) (n := 1) (ci := 6) C (c_X5_no l hl G lo t0 h_1 nx a0 (2 : Int32) r10 g10) g2 rfl q_223 q_224 q_225 q_5 q_226 ⟨rfl, by decide +kernel, by decide +kernel, by decide +kernel⟩ ⟨Nat.le_of_ble_eq_true rfl, Nat.le_of_ble_eq_true rfl⟩ rfl (Nat.le_of_ble_eq_true rfl) dX5_would_31 ⟨(Nat.zero_le _), (Nat.zero_le _)⟩) rfl (Nat.le_of_ble_eq_true rfl) (Nat.le_of_ble_eq_true rfl) ?_
      cases hM
      exact z_iret (pc := 34) C rfl (Nat.zero_le _) (Nat.zero_le _) dX5_would_34
    · refine z_aload_n (k := 0) (pc := 35) C dX5_would_35 rfl ?_
      refine z_iload_n (k := 2) (pc := 36) C dX5_would_36 rfl ?_
      obtain ⟨r5, g5, hM⟩ := Option.bind_eq_some_iff.mp hM
      refine z_goN (kc := 0) (ks := 0) ([.int r5.1]) (z_callV (pc := 37) (As := [.int x2]) (rest := []) (n := 1) (ci := 6) C (c_X5_pour l hl G lo t0 h_1 nx a0 x2 r5 g5) g2 rfl q_489 q_490 q_491 q_5 q_492 ⟨rfl, by decide +kernel, by decide +kernel, by decide +kernel⟩ ⟨Nat.le_of_ble_eq_true rfl, Nat.le_of_ble_eq_true rfl⟩ rfl (Nat.le_of_ble_eq_true rfl) dX5_would_37 ⟨(Nat.zero_le _), (Nat.zero_le _)⟩) rfl (Nat.le_of_ble_eq_true rfl) (Nat.le_of_ble_eq_true rfl) ?_
      refine z_pop (pc := 40) C dX5_would_40 rfl ?_
      refine z_aload_n (k := 0) (pc := 41) C dX5_would_41 rfl ?_
      obtain ⟨r6, g6, hM⟩ := Option.bind_eq_some_iff.mp hM
      refine z_getR (pc := 42) (k := 9) C g6 rfl inlX5 (by decide) q_73 (fun _ h9 => h9) dX5_would_42 ?_
      refine z_aload_n (k := 0) (pc := 45) C dX5_would_45 rfl ?_
      obtain ⟨r7, g7, hM⟩ := Option.bind_eq_some_iff.mp hM
      refine z_getR (pc := 46) (k := 4) C g7 rfl inlX5 (by decide) q_70 (fun _ h9 => h9) dX5_would_46 ?_
      refine z_iload_n (k := 1) (pc := 49) C dX5_would_49 rfl ?_
      obtain ⟨r8, g8, hM⟩ := Option.bind_eq_some_iff.mp hM
      refine z_iald (pc := 50) C g8 dX5_would_50 ?_
      obtain ⟨r9, g9, hM⟩ := Option.bind_eq_some_iff.mp hM
      refine z_iald (pc := 51) C g9 dX5_would_51 ?_
      cases hM
      exact z_iret (pc := 52) C rfl (Nat.zero_le _) (Nat.zero_le _) dX5_would_52
set_option maxHeartbeats 4000000 in
set_option maxRecDepth 100000 in
theorem c_X5_best (l : Launch) (hl : l.stackTraces = false) (G : zG) (lo t0 : Nat) (h : zH) (nx : Nat) (a0 : Nat) (x1 : Int32) (x2 : Int32) (x3 : Int32) (o : Int32 × zH × Nat) (hM : M_X5_best h nx a0 x1 x2 x3 = some o) : z_Met l yX5_best cX5_best 10 (some .int) 5 110 G lo t0 [.ref a0, .int x1, .int x2, .int x3] h nx (.inr (some (.int o.1), o.2.1, o.2.2)) 2 27 := by
  refine z_of [(0, .ref a0), (1, .int x1), (2, .int x2), (3, .int x3)] (by decide) (Nat.le_of_ble_eq_true rfl) rfl (fun p e s m below meth c C hin => ?_)
  unfold M_X5_best at hM
  refine z_aload_n (k := 0) (pc := 0) C dX5_best_0 rfl ?_
  refine z_iconst (v := (0 : Int32)) (pc := 1) C dX5_best_1 (by decide) ?_
  obtain ⟨h_1, g1, hM⟩ := Option.bind_eq_some_iff.mp hM
  refine z_put (pc := 2) (k := 0) C g1 rfl inlX5 tyX5 tyX5_ok nmX5 (by decide) q_217 (fun _ h9 => h9) rfl (tyX5_ok 0 (by decide)) rfl rfl dX5_best_2 ?_
  refine z_iload_n (k := 1) (pc := 5) C dX5_best_5 rfl ?_
  refine z_iconst (v := (1 : Int32)) (pc := 6) C dX5_best_6 (by decide) ?_
  refine z_bipush (v := (24 : Int32)) (pc := 7) C dX5_best_7 (by decide) ?_
  obtain ⟨r2, g2, hM⟩ := Option.bind_eq_some_iff.mp hM
  refine z_goN (kc := 0) (ks := 0) ([.int r2]) (z_callS (pc := 9) (As := [.int x1, .int (1 : Int32), .int (24 : Int32)]) (rest := []) (n := 3) C (c_X5_isIn l hl G lo t0 h_1 nx x1 (1 : Int32) (24 : Int32) r2 g2) q_220 q_221 q_5 q_222 ⟨by decide +kernel, by decide +kernel, by decide +kernel⟩ ⟨Nat.le_of_ble_eq_true rfl, Nat.le_of_ble_eq_true rfl⟩ rfl (Nat.le_of_ble_eq_true rfl) dX5_best_9 ⟨(Nat.zero_le _), (Nat.zero_le _)⟩) rfl (Nat.le_of_ble_eq_true rfl) (Nat.le_of_ble_eq_true rfl) ?_
  refine zj0 0 0 25 ([(0, .ref a0)]) ([]) (h_1) (nx) hM (fun  hM => ?_) (fun J3 iJ3 hM => ?_)
  · refine z_aload_n (k := 0) (pc := 25) C dX5_best_25 rfl ?_
    refine z_iconst (v := (1 : Int32)) (pc := 26) C dX5_best_26 (by decide) ?_
    obtain ⟨_, g4, hM⟩ := Option.bind_eq_some_iff.mp hM
    obtain ⟨r5, g5, hM⟩ := Option.bind_eq_some_iff.mp hM
    refine z_goN (kc := 0) (ks := 0) ([.int r5.1]) (z_callV (pc := 27) (As := [.int (1 : Int32)]) (rest := []) (n := 1) (ci := 6) C (c_X5_no l hl G lo t0 h_1 nx a0 (1 : Int32) r5 g5) g4 rfl q_223 q_224 q_225 q_5 q_226 ⟨rfl, by decide +kernel, by decide +kernel, by decide +kernel⟩ ⟨Nat.le_of_ble_eq_true rfl, Nat.le_of_ble_eq_true rfl⟩ rfl (Nat.le_of_ble_eq_true rfl) dX5_best_27 ⟨(Nat.zero_le _), (Nat.zero_le _)⟩) rfl (Nat.le_of_ble_eq_true rfl) (Nat.le_of_ble_eq_true rfl) ?_
    cases hM
    exact z_iret (pc := 30) C rfl (Nat.zero_le _) (Nat.zero_le _) dX5_best_30
  refine z_if_eq (pc := 12) (tgt := 25) C dX5_best_12 (by decide) hM (fun hc36 hM => ?_) (fun hc36 hM => ?_)
  · exact z_sub [0] rfl (iJ3 hM)
  · refine z_iload_n (k := 2) (pc := 15) C dX5_best_15 rfl ?_
    refine z_iconst (v := (1 : Int32)) (pc := 16) C dX5_best_16 (by decide) ?_
    refine z_bipush (v := (24 : Int32)) (pc := 17) C dX5_best_17 (by decide) ?_
    obtain ⟨r6, g6, hM⟩ := Option.bind_eq_some_iff.mp hM
    refine z_goN (kc := 0) (ks := 0) ([.int r6]) (z_callS (pc := 19) (As := [.int x2, .int (1 : Int32), .int (24 : Int32)]) (rest := []) (n := 3) C (c_X5_isIn l hl G lo t0 h_1 nx x2 (1 : Int32) (24 : Int32) r6 g6) q_220 q_221 q_5 q_222 ⟨by decide +kernel, by decide +kernel, by decide +kernel⟩ ⟨Nat.le_of_ble_eq_true rfl, Nat.le_of_ble_eq_true rfl⟩ rfl (Nat.le_of_ble_eq_true rfl) dX5_best_19 ⟨(Nat.zero_le _), (Nat.zero_le _)⟩) rfl (Nat.le_of_ble_eq_true rfl) (Nat.le_of_ble_eq_true rfl) ?_
    refine z_if_ne (pc := 22) (tgt := 31) C dX5_best_22 (by decide) hM (fun hc35 hM => ?_) (fun hc35 hM => ?_)
    · exact z_sub [0] rfl (iJ3 hM)
    · refine z_iload_n (k := 3) (pc := 31) C dX5_best_31 rfl ?_
      refine z_iconst (v := (0 : Int32)) (pc := 32) C dX5_best_32 (by decide) ?_
      refine z_iconst (v := (2 : Int32)) (pc := 33) C dX5_best_33 (by decide) ?_
      obtain ⟨r7, g7, hM⟩ := Option.bind_eq_some_iff.mp hM
      refine z_goN (kc := 0) (ks := 0) ([.int r7]) (z_callS (pc := 34) (As := [.int x3, .int (0 : Int32), .int (2 : Int32)]) (rest := []) (n := 3) C (c_X5_isIn l hl G lo t0 h_1 nx x3 (0 : Int32) (2 : Int32) r7 g7) q_220 q_221 q_5 q_222 ⟨by decide +kernel, by decide +kernel, by decide +kernel⟩ ⟨Nat.le_of_ble_eq_true rfl, Nat.le_of_ble_eq_true rfl⟩ rfl (Nat.le_of_ble_eq_true rfl) dX5_best_34 ⟨(Nat.zero_le _), (Nat.zero_le _)⟩) rfl (Nat.le_of_ble_eq_true rfl) (Nat.le_of_ble_eq_true rfl) ?_
      refine z_if_ne (pc := 37) (tgt := 46) C dX5_best_37 (by decide) hM (fun hc34 hM => ?_) (fun hc34 hM => ?_)
      · refine z_aload_n (k := 0) (pc := 40) C dX5_best_40 rfl ?_
        refine z_iconst (v := (2 : Int32)) (pc := 41) C dX5_best_41 (by decide) ?_
        obtain ⟨_, g32, hM⟩ := Option.bind_eq_some_iff.mp hM
        obtain ⟨r33, g33, hM⟩ := Option.bind_eq_some_iff.mp hM
        refine z_goN (kc := 0) (ks := 0) ([.int r33.1]) (z_callV (pc := 42) (As := [.int (2 : Int32)]) (rest := []) (n := 1) (ci := 6) C (c_X5_no l hl G lo t0 h_1 nx a0 (2 : Int32) r33 g33) g32 rfl q_223 q_224 q_225 q_5 q_226 ⟨rfl, by decide +kernel, by decide +kernel, by decide +kernel⟩ ⟨Nat.le_of_ble_eq_true rfl, Nat.le_of_ble_eq_true rfl⟩ rfl (Nat.le_of_ble_eq_true rfl) dX5_best_42 ⟨(Nat.zero_le _), (Nat.zero_le _)⟩) rfl (Nat.le_of_ble_eq_true rfl) (Nat.le_of_ble_eq_true rfl) ?_
        cases hM
        exact z_iret (pc := 45) C rfl (Nat.zero_le _) (Nat.zero_le _) dX5_best_45
      · refine z_bipush (v := (24 : Int32)) (pc := 46) C dX5_best_46 (by decide) ?_
        refine z_newI (pc := 48) (n' := 24) C q_25 (by decide) (by decide) (by decide) (Nat.le_of_ble_eq_true rfl) (Nat.le_of_ble_eq_true rfl) dX5_best_48 ?_
        refine z_astore (lv' := [(4, .ref nx), (0, .ref a0), (1, .int x1), (2, .int x2), (3, .int x3)]) (pc := 50) C dX5_best_50 (by decide) rfl ?_
        refine z_iconst (v := (0 : Int32)) (pc := 52) C dX5_best_52 (by decide) ?_
        refine z_istore (lv' := [(5, .int (0 : Int32)), (4, .ref nx), (0, .ref a0), (1, .int x1), (2, .int x2), (3, .int x3)]) (pc := 53) C dX5_best_53 (by decide) rfl ?_
        refine z_sub [2, 3, 4, 5, 1, 0] rfl (zl2 (fun (x5_8 : Int32) (h_8 : zH) => [(0, .ref a0), (1, .int x1), (2, .int x2), (3, .int x3), (4, .ref nx), (5, .int x5_8)]) (fun (x5_8 : Int32) (h_8 : zH) => h_8) (fun (x5_8 : Int32) (h_8 : zH) => (nx + 1)) hM (fun rec8 irec8 x5_8 h_8 hM => ?_))
        refine z_iload (k := 5) (pc := 55) C dX5_best_55 rfl ?_
        refine z_bipush (v := (24 : Int32)) (pc := 57) C dX5_best_57 (by decide) ?_
        refine z_icmp_ge (pc := 59) (tgt := 81) C dX5_best_59 (by decide) hM (fun hc31 hM => ?_) (fun hc31 hM => ?_)
        · refine z_iconst (v := (3 : Int32)) (pc := 81) C dX5_best_81 (by decide) ?_
          refine z_newI (pc := 82) (n' := 3) C q_25 (by decide) (by decide) (by decide) (Nat.le_of_ble_eq_true rfl) (Nat.le_of_ble_eq_true rfl) dX5_best_82 ?_
          refine z_dup (pc := 84) C dX5_best_84 rfl ?_
          refine z_iconst (v := (0 : Int32)) (pc := 85) C dX5_best_85 (by decide) ?_
          refine z_iconst (v := (0 : Int32)) (pc := 86) C dX5_best_86 (by decide) ?_
          obtain ⟨h_9, g9, hM⟩ := Option.bind_eq_some_iff.mp hM
          refine z_iast (pc := 87) C g9 dX5_best_87 ?_
          refine z_dup (pc := 88) C dX5_best_88 rfl ?_
          refine z_iconst (v := (1 : Int32)) (pc := 89) C dX5_best_89 (by decide) ?_
          refine z_iconst (v := (0 : Int32)) (pc := 90) C dX5_best_90 (by decide) ?_
          obtain ⟨h_10, g10, hM⟩ := Option.bind_eq_some_iff.mp hM
          refine z_iast (pc := 91) C g10 dX5_best_91 ?_
          refine z_dup (pc := 92) C dX5_best_92 rfl ?_
          refine z_iconst (v := (2 : Int32)) (pc := 93) C dX5_best_93 (by decide) ?_
          refine z_iconst (v := (-1 : Int32)) (pc := 94) C dX5_best_94 (by decide) ?_
          obtain ⟨h_11, g11, hM⟩ := Option.bind_eq_some_iff.mp hM
          refine z_iast (pc := 95) C g11 dX5_best_95 ?_
          refine z_astore (lv' := [(5, .ref (nx + 1)), (0, .ref a0), (1, .int x1), (2, .int x2), (3, .int x3), (4, .ref nx)]) (pc := 96) C dX5_best_96 (by decide) rfl ?_
          refine z_iconst (v := (0 : Int32)) (pc := 98) C dX5_best_98 (by decide) ?_
          refine z_istore (lv' := [(6, .int (0 : Int32)), (5, .ref (nx + 1)), (0, .ref a0), (1, .int x1), (2, .int x2), (3, .int x3), (4, .ref nx)]) (pc := 99) C dX5_best_99 (by decide) rfl ?_
          refine z_sub [3, 4, 5, 6, 1, 0] rfl (zl2 (fun (x6_12 : Int32) (h_12 : zH) => [(1, .int x1), (2, .int x2), (3, .int x3), (4, .ref nx), (5, .ref (nx + 1)), (6, .int x6_12)]) (fun (x6_12 : Int32) (h_12 : zH) => h_12) (fun (x6_12 : Int32) (h_12 : zH) => ((nx + 1) + 1)) hM (fun rec12 irec12 x6_12 h_12 hM => ?_))
          refine z_iload (k := 5) (pc := 101) C dX5_best_101 rfl ?_
          refine z_iload_n (k := 1) (pc := 103) C dX5_best_103 rfl ?_
          refine z_iadd (pc := 104) C dX5_best_104 ?_
          refine z_bipush (v := (24 : Int32)) (pc := 105) C dX5_best_105 (by decide) ?_
          refine z_icmp_gt (pc := 107) (tgt := 206) C dX5_best_107 (by decide) hM (fun hc27 hM => ?_) (fun hc27 hM => ?_)
          · refine z_aload (k := 4) (pc := 206) C dX5_best_206 rfl ?_
            refine z_iload_n (k := 2) (pc := 208) C dX5_best_208 rfl ?_
            obtain ⟨r13, g13, hM⟩ := Option.bind_eq_some_iff.mp hM
            refine z_iald (pc := 209) C g13 dX5_best_209 ?_
            cases hM
            exact z_iret (pc := 210) C rfl (Nat.le_of_ble_eq_true rfl) (Nat.le_of_ble_eq_true rfl) dX5_best_210
          · refine z_iconst (v := (0 : Int32)) (pc := 110) C dX5_best_110 (by decide) ?_
            refine z_istore (lv' := [(7, .int (0 : Int32)), (1, .int x1), (2, .int x2), (3, .int x3), (4, .ref nx), (5, .ref (nx + 1)), (6, .int x6_12)]) (pc := 111) C dX5_best_111 (by decide) rfl ?_
            refine z_sub [1, 2, 3, 4, 5, 6, 0] rfl (zl2 (fun (x7_14 : Int32) (h_14 : zH) => [(1, .int x1), (2, .int x2), (3, .int x3), (4, .ref nx), (5, .ref (nx + 1)), (6, .int x6_12), (7, .int x7_14)]) (fun (x7_14 : Int32) (h_14 : zH) => h_14) (fun (x7_14 : Int32) (h_14 : zH) => ((nx + 1) + 1)) hM (fun rec14 irec14 x7_14 h_14 hM => ?_))
            refine z_iload (k := 6) (pc := 113) C dX5_best_113 rfl ?_
            refine z_iload_n (k := 0) (pc := 115) C dX5_best_115 rfl ?_
            refine z_iadd (pc := 116) C dX5_best_116 ?_
            refine z_bipush (v := (24 : Int32)) (pc := 117) C dX5_best_117 (by decide) ?_
            refine z_icmp_gt (pc := 119) (tgt := 200) C dX5_best_119 (by decide) hM (fun hc26 hM => ?_) (fun hc26 hM => ?_)
            · refine z_iinc (k := 5) (v := (x6_12 + (1 : Int32))) (lv' := [(6, .int (x6_12 + (1 : Int32))), (1, .int x1), (2, .int x2), (3, .int x3), (4, .ref nx), (5, .ref (nx + 1)), (7, .int x7_14)]) (pc := 200) C dX5_best_200 rfl (by first | rfl | decide) (by decide) rfl ?_
              refine z_goto (pc := 203) (tgt := 101) C dX5_best_203 (by decide) ?_
              exact z_sub [1, 2, 3, 4, 5, 0] rfl (irec12 (x6_12 + (1 : Int32)) h_14 hM)
            · refine z_iconst (v := (0 : Int32)) (pc := 122) C dX5_best_122 (by decide) ?_
              refine z_istore (lv' := [(8, .int (0 : Int32)), (1, .int x1), (2, .int x2), (3, .int x3), (4, .ref nx), (5, .ref (nx + 1)), (6, .int x6_12), (7, .int x7_14)]) (pc := 123) C dX5_best_123 (by decide) rfl ?_
              refine z_iload (k := 7) (pc := 125) C dX5_best_125 rfl ?_
              refine z_istore (lv' := [(9, .int x7_14), (8, .int (0 : Int32)), (1, .int x1), (2, .int x2), (3, .int x3), (4, .ref nx), (5, .ref (nx + 1)), (6, .int x6_12), (7, .int x7_14)]) (pc := 127) C dX5_best_127 (by decide) rfl ?_
              refine z_sub [2, 3, 4, 5, 6, 7, 8, 1, 0] rfl (zl2 (fun (x8_15 : Int32) (x9_15 : Int32) => [(1, .int x1), (2, .int x2), (3, .int x3), (4, .ref nx), (5, .ref (nx + 1)), (6, .int x6_12), (7, .int x7_14), (8, .int x8_15), (9, .int x9_15)]) (fun (x8_15 : Int32) (x9_15 : Int32) => h_14) (fun (x8_15 : Int32) (x9_15 : Int32) => ((nx + 1) + 1)) hM (fun rec15 irec15 x8_15 x9_15 hM => ?_))
              refine z_iload (k := 8) (pc := 129) C dX5_best_129 rfl ?_
              refine z_iload (k := 6) (pc := 131) C dX5_best_131 rfl ?_
              refine z_iload_n (k := 0) (pc := 133) C dX5_best_133 rfl ?_
              refine z_iadd (pc := 134) C dX5_best_134 ?_
              refine z_icmp_ge (pc := 135) (tgt := 164) C dX5_best_135 (by decide) hM (fun hc25 hM => ?_) (fun hc25 hM => ?_)
              · refine z_iload (k := 7) (pc := 164) C dX5_best_164 rfl ?_
                refine z_aload (k := 4) (pc := 166) C dX5_best_166 rfl ?_
                refine z_iconst (v := (2 : Int32)) (pc := 168) C dX5_best_168 (by decide) ?_
                obtain ⟨r16, g16, hM⟩ := Option.bind_eq_some_iff.mp hM
                refine z_iald (pc := 169) C g16 dX5_best_169 ?_
                refine zj1 2 27 194 (fun (h_17 : zH) => [(1, .int x1), (2, .int x2), (3, .int x3), (4, .ref nx), (5, .ref (nx + 1)), (6, .int x6_12), (7, .int x7_14)]) (fun (h_17 : zH) => []) (fun (h_17 : zH) => h_17) (fun (h_17 : zH) => ((nx + 1) + 1)) hM (fun h_17 hM => ?_) (fun J17 iJ17 hM => ?_)
                · refine z_iinc (k := 6) (v := (x7_14 + (1 : Int32))) (lv' := [(7, .int (x7_14 + (1 : Int32))), (1, .int x1), (2, .int x2), (3, .int x3), (4, .ref nx), (5, .ref (nx + 1)), (6, .int x6_12)]) (pc := 194) C dX5_best_194 rfl (by first | rfl | decide) (by decide) rfl ?_
                  refine z_goto (pc := 197) (tgt := 113) C dX5_best_197 (by decide) ?_
                  exact z_sub [1, 2, 3, 4, 5, 6, 0] rfl (irec14 (x7_14 + (1 : Int32)) h_17 hM)
                refine z_icmp_gt (pc := 170) (tgt := 176) C dX5_best_170 (by decide) hM (fun hc21 hM => ?_) (fun hc21 hM => ?_)
                · refine z_aload (k := 4) (pc := 176) C dX5_best_176 rfl ?_
                  refine z_iconst (v := (0 : Int32)) (pc := 178) C dX5_best_178 (by decide) ?_
                  refine z_iload (k := 6) (pc := 179) C dX5_best_179 rfl ?_
                  obtain ⟨h_18, g18, hM⟩ := Option.bind_eq_some_iff.mp hM
                  refine z_iast (pc := 181) C g18 dX5_best_181 ?_
                  refine z_aload (k := 4) (pc := 182) C dX5_best_182 rfl ?_
                  refine z_iconst (v := (1 : Int32)) (pc := 184) C dX5_best_184 (by decide) ?_
                  refine z_iload (k := 5) (pc := 185) C dX5_best_185 rfl ?_
                  obtain ⟨h_19, g19, hM⟩ := Option.bind_eq_some_iff.mp hM
                  refine z_iast (pc := 187) C g19 dX5_best_187 ?_
                  refine z_aload (k := 4) (pc := 188) C dX5_best_188 rfl ?_
                  refine z_iconst (v := (2 : Int32)) (pc := 190) C dX5_best_190 (by decide) ?_
                  refine z_iload (k := 7) (pc := 191) C dX5_best_191 rfl ?_
                  obtain ⟨h_20, g20, hM⟩ := Option.bind_eq_some_iff.mp hM
                  refine z_iast (pc := 193) C g20 dX5_best_193 ?_
                  exact z_sub [0, 1, 2, 3, 4, 5, 6] rfl (iJ17 h_20 hM)
                · refine z_goto (pc := 173) (tgt := 194) C dX5_best_173 (by decide) ?_
                  exact z_sub [0, 1, 2, 3, 4, 5, 6] rfl (iJ17 h_14 hM)
              · refine z_iload (k := 7) (pc := 138) C dX5_best_138 rfl ?_
                refine z_aload (k := 3) (pc := 140) C dX5_best_140 rfl ?_
                refine z_iload (k := 8) (pc := 142) C dX5_best_142 rfl ?_
                obtain ⟨r22, g22, hM⟩ := Option.bind_eq_some_iff.mp hM
                refine z_iald (pc := 144) C g22 dX5_best_144 ?_
                refine z_iload (k := 5) (pc := 145) C dX5_best_145 rfl ?_
                refine z_iload_n (k := 1) (pc := 147) C dX5_best_147 rfl ?_
                obtain ⟨r23, g23, hM⟩ := Option.bind_eq_some_iff.mp hM
                refine z_goN (kc := 2) (ks := 27) ([.int r23, .int r22, .int x8_15]) (z_callS (pc := 148) (As := [.int x6_12, .int x2]) (rest := [.int r22, .int x8_15]) (n := 2) C (c_X5_rows l hl G lo t0 h_14 ((nx + 1) + 1) x6_12 x2 r23 g23) q_314 q_315 q_5 q_316 ⟨by decide +kernel, by decide +kernel, by decide +kernel⟩ ⟨Nat.le_of_ble_eq_true rfl, Nat.le_of_ble_eq_true rfl⟩ rfl (Nat.le_of_ble_eq_true rfl) dX5_best_148 ⟨(Nat.le_of_ble_eq_true rfl), (Nat.le_of_ble_eq_true rfl)⟩) rfl (Nat.le_of_ble_eq_true rfl) (Nat.le_of_ble_eq_true rfl) ?_
                refine z_iand (pc := 151) C dX5_best_151 ?_
                obtain ⟨r24, g24, hM⟩ := Option.bind_eq_some_iff.mp hM
                refine z_goN (kc := 2) (ks := 27) ([.int r24, .int x8_15]) (z_callS (pc := 152) (As := [.int (r22 &&& r23)]) (rest := [.int x8_15]) (n := 1) C (c_X5_many l hl G lo t0 h_14 ((nx + 1) + 1) (r22 &&& r23) r24 g24) q_317 q_318 q_5 q_319 ⟨by decide +kernel, by decide +kernel, by decide +kernel⟩ ⟨Nat.le_of_ble_eq_true rfl, Nat.le_of_ble_eq_true rfl⟩ rfl (Nat.le_of_ble_eq_true rfl) dX5_best_152 ⟨(Nat.le_of_ble_eq_true rfl), (Nat.le_of_ble_eq_true rfl)⟩) rfl (Nat.le_of_ble_eq_true rfl) (Nat.le_of_ble_eq_true rfl) ?_
                refine z_iadd (pc := 155) C dX5_best_155 ?_
                refine z_istore (lv' := [(8, .int (x8_15 + r24)), (1, .int x1), (2, .int x2), (3, .int x3), (4, .ref nx), (5, .ref (nx + 1)), (6, .int x6_12), (7, .int x7_14), (9, .int x9_15)]) (pc := 156) C dX5_best_156 (by decide) rfl ?_
                refine z_iinc (k := 8) (v := (x9_15 + (1 : Int32))) (lv' := [(9, .int (x9_15 + (1 : Int32))), (8, .int (x8_15 + r24)), (1, .int x1), (2, .int x2), (3, .int x3), (4, .ref nx), (5, .ref (nx + 1)), (6, .int x6_12), (7, .int x7_14)]) (pc := 158) C dX5_best_158 rfl (by first | rfl | decide) (by decide) rfl ?_
                refine z_goto (pc := 161) (tgt := 129) C dX5_best_161 (by decide) ?_
                exact z_sub [2, 3, 4, 5, 6, 7, 8, 1, 0] rfl (irec15 (x8_15 + r24) (x9_15 + (1 : Int32)) hM)
        · refine z_aload (k := 4) (pc := 62) C dX5_best_62 rfl ?_
          refine z_iload (k := 5) (pc := 64) C dX5_best_64 rfl ?_
          refine z_aload_n (k := 0) (pc := 66) C dX5_best_66 rfl ?_
          refine z_iload (k := 5) (pc := 67) C dX5_best_67 rfl ?_
          obtain ⟨_, g28, hM⟩ := Option.bind_eq_some_iff.mp hM
          obtain ⟨r29, g29, hM⟩ := Option.bind_eq_some_iff.mp hM
          refine z_goN (kc := 1) (ks := 24) ([.int r29, .int x5_8, .ref nx]) (z_callV (pc := 69) (As := [.int x5_8]) (rest := [.int x5_8, .ref nx]) (n := 1) (ci := 6) C (c_X5_covered_ l hl G lo t0 h_8 (nx + 1) a0 x5_8 r29 g29) g28 rfl q_302 q_303 q_304 q_5 q_305 ⟨rfl, by decide +kernel, by decide +kernel, by decide +kernel⟩ ⟨Nat.le_of_ble_eq_true rfl, Nat.le_of_ble_eq_true rfl⟩ rfl (Nat.le_of_ble_eq_true rfl) dX5_best_69 ⟨(Nat.le_of_ble_eq_true rfl), (Nat.le_of_ble_eq_true rfl)⟩) rfl (Nat.le_of_ble_eq_true rfl) (Nat.le_of_ble_eq_true rfl) ?_
          refine z_iconst (v := (-1 : Int32)) (pc := 72) C dX5_best_72 (by decide) ?_
          refine z_ixor (pc := 73) C dX5_best_73 ?_
          obtain ⟨h_30, g30, hM⟩ := Option.bind_eq_some_iff.mp hM
          refine z_iast (pc := 74) C g30 dX5_best_74 ?_
          refine z_iinc (k := 5) (v := (x5_8 + (1 : Int32))) (lv' := [(5, .int (x5_8 + (1 : Int32))), (0, .ref a0), (1, .int x1), (2, .int x2), (3, .int x3), (4, .ref nx)]) (pc := 75) C dX5_best_75 rfl (by first | rfl | decide) (by decide) rfl ?_
          refine z_goto (pc := 78) (tgt := 55) C dX5_best_78 (by decide) ?_
          exact z_sub [1, 2, 3, 4, 5, 0] rfl (irec8 (x5_8 + (1 : Int32)) h_30 hM)
set_option maxHeartbeats 4000000 in
set_option maxRecDepth 100000 in
theorem c_X5_advise (l : Launch) (hl : l.stackTraces = false) (G : zG) (lo t0 : Nat) (h : zH) (nx : Nat) (a0 : Nat) (o : Int32 × zH) (hM : M_X5_advise h a0 = some o) : z_Met l yX5_advise cX5_advise 3 (some .int) 5 112 G lo t0 [.ref a0] h nx (.inr (some (.int o.1), o.2, nx)) 0 0 := by
  refine z_of [(0, .ref a0)] (by decide) (Nat.le_of_ble_eq_true rfl) rfl (fun p e s m below meth c C hin => ?_)
  unfold M_X5_advise at hM
  refine z_aload_n (k := 0) (pc := 0) C dX5_advise_0 rfl ?_
  refine z_iconst (v := (0 : Int32)) (pc := 1) C dX5_advise_1 (by decide) ?_
  obtain ⟨h_1, g1, hM⟩ := Option.bind_eq_some_iff.mp hM
  refine z_put (pc := 2) (k := 0) C g1 rfl inlX5 tyX5 tyX5_ok nmX5 (by decide) q_217 (fun _ h9 => h9) rfl (tyX5_ok 0 (by decide)) rfl rfl dX5_advise_2 ?_
  refine z_iconst (v := (-1 : Int32)) (pc := 5) C dX5_advise_5 (by decide) ?_
  refine z_istore_n (lv' := [(1, .int (-1 : Int32)), (0, .ref a0)]) (pc := 6) C dX5_advise_6 (by decide) rfl ?_
  refine z_iconst (v := (0 : Int32)) (pc := 7) C dX5_advise_7 (by decide) ?_
  refine z_istore_n (lv' := [(2, .int (0 : Int32)), (1, .int (-1 : Int32)), (0, .ref a0)]) (pc := 8) C dX5_advise_8 (by decide) rfl ?_
  refine z_sub [2, 1, 0] rfl (zl2 (fun (x1_2 : Int32) (x2_2 : Int32) => [(0, .ref a0), (1, .int x1_2), (2, .int x2_2)]) (fun (x1_2 : Int32) (x2_2 : Int32) => h_1) (fun (x1_2 : Int32) (x2_2 : Int32) => nx) hM (fun rec2 irec2 x1_2 x2_2 hM => ?_))
  refine z_iload_n (k := 2) (pc := 9) C dX5_advise_9 rfl ?_
  refine z_aload_n (k := 0) (pc := 10) C dX5_advise_10 rfl ?_
  obtain ⟨r3, g3, hM⟩ := Option.bind_eq_some_iff.mp hM
  refine z_getI (pc := 11) (k := 1) C g3 rfl inlX5 (by decide) q_218 (fun _ h9 => h9) dX5_advise_11 ?_
  refine z_icmp_ge (pc := 14) (tgt := 51) C dX5_advise_14 (by decide) hM (fun hc13 hM => ?_) (fun hc13 hM => ?_)
  · refine z_iload_n (k := 1) (pc := 51) C dX5_advise_51 rfl ?_
    cases hM
    exact z_iret (pc := 52) C rfl (Nat.zero_le _) (Nat.zero_le _) dX5_advise_52
  · refine z_aload_n (k := 0) (pc := 17) C dX5_advise_17 rfl ?_
    refine z_iload_n (k := 2) (pc := 18) C dX5_advise_18 rfl ?_
    obtain ⟨_, g4, hM⟩ := Option.bind_eq_some_iff.mp hM
    obtain ⟨r5, g5, hM⟩ := Option.bind_eq_some_iff.mp hM
    refine z_goN (kc := 0) (ks := 0) ([.int r5]) (z_callV (pc := 19) (As := [.int x2_2]) (rest := []) (n := 1) (ci := 6) C (c_X5_isOut l hl G lo t0 h_1 nx a0 x2_2 r5 g5) g4 rfl q_260 q_261 q_262 q_5 q_263 ⟨rfl, by decide +kernel, by decide +kernel, by decide +kernel⟩ ⟨Nat.le_of_ble_eq_true rfl, Nat.le_of_ble_eq_true rfl⟩ rfl (Nat.le_of_ble_eq_true rfl) dX5_advise_19 ⟨(Nat.zero_le _), (Nat.zero_le _)⟩) rfl (Nat.le_of_ble_eq_true rfl) (Nat.le_of_ble_eq_true rfl) ?_
    refine zj1 0 0 45 (fun (x1_6 : Int32) => [(0, .ref a0), (1, .int x1_6), (2, .int x2_2)]) (fun (x1_6 : Int32) => []) (fun (x1_6 : Int32) => h_1) (fun (x1_6 : Int32) => nx) hM (fun x1_6 hM => ?_) (fun J6 iJ6 hM => ?_)
    · refine z_iinc (k := 2) (v := (x2_2 + (1 : Int32))) (lv' := [(2, .int (x2_2 + (1 : Int32))), (0, .ref a0), (1, .int x1_6)]) (pc := 45) C dX5_advise_45 rfl (by first | rfl | decide) (by decide) rfl ?_
      refine z_goto (pc := 48) (tgt := 9) C dX5_advise_48 (by decide) ?_
      exact z_sub [1, 2, 0] rfl (irec2 x1_6 (x2_2 + (1 : Int32)) hM)
    refine z_if_eq (pc := 22) (tgt := 45) C dX5_advise_22 (by decide) hM (fun hc12 hM => ?_) (fun hc12 hM => ?_)
    · exact z_sub [0, 1, 2] rfl (iJ6 x1_2 hM)
    · refine z_iload_n (k := 1) (pc := 25) C dX5_advise_25 rfl ?_
      refine z_iconst (v := (-1 : Int32)) (pc := 26) C dX5_advise_26 (by decide) ?_
      refine zj0 0 0 43 ([(0, .ref a0), (2, .int x2_2)]) ([]) (h_1) (nx) hM (fun  hM => ?_) (fun J7 iJ7 hM => ?_)
      · refine z_iload_n (k := 1) (pc := 43) C dX5_advise_43 rfl ?_
        refine z_istore_n (lv' := [(1, .int x2_2), (0, .ref a0), (2, .int x2_2)]) (pc := 44) C dX5_advise_44 (by decide) rfl ?_
        exact z_sub [1, 0, 2] rfl (iJ6 x2_2 hM)
      refine z_icmp_eq (pc := 27) (tgt := 43) C dX5_advise_27 (by decide) hM (fun hc11 hM => ?_) (fun hc11 hM => ?_)
      · exact z_sub [0, 2] rfl (iJ7 hM)
      · refine z_aload_n (k := 0) (pc := 30) C dX5_advise_30 rfl ?_
        refine z_iload_n (k := 2) (pc := 31) C dX5_advise_31 rfl ?_
        obtain ⟨r8, g8, hM⟩ := Option.bind_eq_some_iff.mp hM
        refine z_goN (kc := 0) (ks := 0) ([.int r8]) (z_callV (pc := 32) (As := [.int x2_2]) (rest := []) (n := 1) (ci := 6) C (c_X5_own l hl G lo t0 h_1 nx a0 x2_2 r8 g8) g4 rfl q_541 q_542 q_543 q_5 q_544 ⟨rfl, by decide +kernel, by decide +kernel, by decide +kernel⟩ ⟨Nat.le_of_ble_eq_true rfl, Nat.le_of_ble_eq_true rfl⟩ rfl (Nat.le_of_ble_eq_true rfl) dX5_advise_32 ⟨(Nat.zero_le _), (Nat.zero_le _)⟩) rfl (Nat.le_of_ble_eq_true rfl) (Nat.le_of_ble_eq_true rfl) ?_
        refine z_aload_n (k := 0) (pc := 35) C dX5_advise_35 rfl ?_
        refine z_iload_n (k := 1) (pc := 36) C dX5_advise_36 rfl ?_
        obtain ⟨r9, g9, hM⟩ := Option.bind_eq_some_iff.mp hM
        refine z_goN (kc := 0) (ks := 0) ([.int r9, .int r8]) (z_callV (pc := 37) (As := [.int x1_2]) (rest := [.int r8]) (n := 1) (ci := 6) C (c_X5_own l hl G lo t0 h_1 nx a0 x1_2 r9 g9) g4 rfl q_541 q_542 q_543 q_5 q_544 ⟨rfl, by decide +kernel, by decide +kernel, by decide +kernel⟩ ⟨Nat.le_of_ble_eq_true rfl, Nat.le_of_ble_eq_true rfl⟩ rfl (Nat.le_of_ble_eq_true rfl) dX5_advise_37 ⟨(Nat.zero_le _), (Nat.zero_le _)⟩) rfl (Nat.le_of_ble_eq_true rfl) (Nat.le_of_ble_eq_true rfl) ?_
        refine z_icmp_ge (pc := 40) (tgt := 45) C dX5_advise_40 (by decide) hM (fun hc10 hM => ?_) (fun hc10 hM => ?_)
        · exact z_sub [0, 1, 2] rfl (iJ6 x1_2 hM)
        · exact z_sub [0, 2] rfl (iJ7 hM)
set_option maxHeartbeats 4000000 in
set_option maxRecDepth 100000 in
theorem c_X5_digest (l : Launch) (hl : l.stackTraces = false) (G : zG) (lo t0 : Nat) (h : zH) (nx : Nat) (a0 : Nat) (o : Int64 × zH × Nat) (hM : M_X5_digest h nx a0 = some o) : z_Met l yX5_digest cX5_digest 6 (some .long) 7 157 G lo t0 [.ref a0] h nx (.inr (some (.long o.1), o.2.1, o.2.2)) 22 572 := by
  refine z_of [(0, .ref a0)] (by decide) (Nat.le_of_ble_eq_true rfl) rfl (fun p e s m below meth c C hin => ?_)
  unfold M_X5_digest at hM
  refine z_aload_n (k := 0) (pc := 0) C dX5_digest_0 rfl ?_
  refine z_iconst (v := (0 : Int32)) (pc := 1) C dX5_digest_1 (by decide) ?_
  obtain ⟨h_1, g1, hM⟩ := Option.bind_eq_some_iff.mp hM
  refine z_put (pc := 2) (k := 0) C g1 rfl inlX5 tyX5 tyX5_ok nmX5 (by decide) q_217 (fun _ h9 => h9) rfl (tyX5_ok 0 (by decide)) rfl rfl dX5_digest_2 ?_
  refine z_ldc2 (V := (1741 : Int64)) (pc := 5) C dX5_digest_5 q_744 ?_
  refine z_lstore_n (lv' := [(1, .long (1741 : Int64)), (0, .ref a0)]) (pc := 8) C dX5_digest_8 (by decide) rfl ?_
  refine z_iconst (v := (0 : Int32)) (pc := 9) C dX5_digest_9 (by decide) ?_
  refine z_istore_n (lv' := [(3, .int (0 : Int32)), (1, .long (1741 : Int64)), (0, .ref a0)]) (pc := 10) C dX5_digest_10 (by decide) rfl ?_
  refine z_iload_n (k := 0) (pc := 11) C dX5_digest_11 rfl ?_
  refine z_bipush (v := (10 : Int32)) (pc := 12) C dX5_digest_12 (by decide) ?_
  refine z_icmp_gt_f (pc := 14) (tgt := 36) C dX5_digest_14 (by decide) (by decide) ?_
  refine z_lload_n (k := 1) (pc := 17) C dX5_digest_17 rfl ?_
  refine z_ldc2 (V := (31 : Int64)) (pc := 18) C dX5_digest_18 q_745 ?_
  refine z_lmul (pc := 21) C dX5_digest_21 ?_
  refine z_aload_n (k := 2) (pc := 22) C dX5_digest_22 rfl ?_
  refine z_iload_n (k := 0) (pc := 23) C dX5_digest_23 rfl ?_
  obtain ⟨_, g2, hM⟩ := Option.bind_eq_some_iff.mp hM
  obtain ⟨r3, g3, hM⟩ := Option.bind_eq_some_iff.mp hM
  refine z_goN (kc := 2) (ks := 52) ([.int r3.1, .long ((1741 : Int64) * (31 : Int64))]) (z_callV (pc := 24) (As := [.int (0 : Int32)]) (rest := [.long ((1741 : Int64) * (31 : Int64))]) (n := 1) (ci := 6) C (c_X5_counted l hl G lo t0 h_1 nx a0 (0 : Int32) r3 g3) g2 rfl q_287 q_288 q_289 q_5 q_290 ⟨rfl, by decide +kernel, by decide +kernel, by decide +kernel⟩ ⟨Nat.le_of_ble_eq_true rfl, Nat.le_of_ble_eq_true rfl⟩ rfl (Nat.le_of_ble_eq_true rfl) dX5_digest_24 ⟨(Nat.le_of_ble_eq_true rfl), (Nat.le_of_ble_eq_true rfl)⟩) rfl (Nat.le_of_ble_eq_true rfl) (Nat.le_of_ble_eq_true rfl) ?_
  refine z_i2l (pc := 27) C dX5_digest_27 ?_
  refine z_ladd (pc := 28) C dX5_digest_28 ?_
  refine z_lstore_n (lv' := [(1, .long (((1741 : Int64) * (31 : Int64)) + ((r3.1).toInt64))), (3, .int (0 : Int32)), (0, .ref a0)]) (pc := 29) C dX5_digest_29 (by decide) rfl ?_
  refine z_iinc (k := 1) (v := (1 : Int32)) (lv' := [(3, .int (1 : Int32)), (1, .long (((1741 : Int64) * (31 : Int64)) + ((r3.1).toInt64))), (0, .ref a0)]) (pc := 30) C dX5_digest_30 rfl (by first | rfl | decide) (by decide) rfl ?_
  refine z_goto (pc := 33) (tgt := 11) C dX5_digest_33 (by decide) ?_
  refine z_iload_n (k := 0) (pc := 11) C dX5_digest_11 rfl ?_
  refine z_bipush (v := (10 : Int32)) (pc := 12) C dX5_digest_12 (by decide) ?_
  refine z_icmp_gt_f (pc := 14) (tgt := 36) C dX5_digest_14 (by decide) (by decide) ?_
  refine z_lload_n (k := 1) (pc := 17) C dX5_digest_17 rfl ?_
  refine z_ldc2 (V := (31 : Int64)) (pc := 18) C dX5_digest_18 q_745 ?_
  refine z_lmul (pc := 21) C dX5_digest_21 ?_
  refine z_aload_n (k := 2) (pc := 22) C dX5_digest_22 rfl ?_
  refine z_iload_n (k := 0) (pc := 23) C dX5_digest_23 rfl ?_
  obtain ⟨_, g4, hM⟩ := Option.bind_eq_some_iff.mp hM
  obtain ⟨r5, g5, hM⟩ := Option.bind_eq_some_iff.mp hM
  refine z_goN (kc := 4) (ks := 104) ([.int r5.1, .long ((((1741 : Int64) * (31 : Int64)) + ((r3.1).toInt64)) * (31 : Int64))]) (z_callV (pc := 24) (As := [.int (1 : Int32)]) (rest := [.long ((((1741 : Int64) * (31 : Int64)) + ((r3.1).toInt64)) * (31 : Int64))]) (n := 1) (ci := 6) C (c_X5_counted l hl G lo t0 r3.2.1 r3.2.2 a0 (1 : Int32) r5 g5) g4 rfl q_287 q_288 q_289 q_5 q_290 ⟨rfl, by decide +kernel, by decide +kernel, by decide +kernel⟩ ⟨Nat.le_of_ble_eq_true rfl, Nat.le_of_ble_eq_true rfl⟩ rfl (Nat.le_of_ble_eq_true rfl) dX5_digest_24 ⟨(Nat.le_of_ble_eq_true rfl), (Nat.le_of_ble_eq_true rfl)⟩) rfl (Nat.le_of_ble_eq_true rfl) (Nat.le_of_ble_eq_true rfl) ?_
  refine z_i2l (pc := 27) C dX5_digest_27 ?_
  refine z_ladd (pc := 28) C dX5_digest_28 ?_
  refine z_lstore_n (lv' := [(1, .long (((((1741 : Int64) * (31 : Int64)) + ((r3.1).toInt64)) * (31 : Int64)) + ((r5.1).toInt64))), (3, .int (1 : Int32)), (0, .ref a0)]) (pc := 29) C dX5_digest_29 (by decide) rfl ?_
  refine z_iinc (k := 1) (v := (2 : Int32)) (lv' := [(3, .int (2 : Int32)), (1, .long (((((1741 : Int64) * (31 : Int64)) + ((r3.1).toInt64)) * (31 : Int64)) + ((r5.1).toInt64))), (0, .ref a0)]) (pc := 30) C dX5_digest_30 rfl (by first | rfl | decide) (by decide) rfl ?_
  refine z_goto (pc := 33) (tgt := 11) C dX5_digest_33 (by decide) ?_
  refine z_iload_n (k := 0) (pc := 11) C dX5_digest_11 rfl ?_
  refine z_bipush (v := (10 : Int32)) (pc := 12) C dX5_digest_12 (by decide) ?_
  refine z_icmp_gt_f (pc := 14) (tgt := 36) C dX5_digest_14 (by decide) (by decide) ?_
  refine z_lload_n (k := 1) (pc := 17) C dX5_digest_17 rfl ?_
  refine z_ldc2 (V := (31 : Int64)) (pc := 18) C dX5_digest_18 q_745 ?_
  refine z_lmul (pc := 21) C dX5_digest_21 ?_
  refine z_aload_n (k := 2) (pc := 22) C dX5_digest_22 rfl ?_
  refine z_iload_n (k := 0) (pc := 23) C dX5_digest_23 rfl ?_
  obtain ⟨_, g6, hM⟩ := Option.bind_eq_some_iff.mp hM
  obtain ⟨r7, g7, hM⟩ := Option.bind_eq_some_iff.mp hM
  refine z_goN (kc := 6) (ks := 156) ([.int r7.1, .long ((((((1741 : Int64) * (31 : Int64)) + ((r3.1).toInt64)) * (31 : Int64)) + ((r5.1).toInt64)) * (31 : Int64))]) (z_callV (pc := 24) (As := [.int (2 : Int32)]) (rest := [.long ((((((1741 : Int64) * (31 : Int64)) + ((r3.1).toInt64)) * (31 : Int64)) + ((r5.1).toInt64)) * (31 : Int64))]) (n := 1) (ci := 6) C (c_X5_counted l hl G lo t0 r5.2.1 r5.2.2 a0 (2 : Int32) r7 g7) g6 rfl q_287 q_288 q_289 q_5 q_290 ⟨rfl, by decide +kernel, by decide +kernel, by decide +kernel⟩ ⟨Nat.le_of_ble_eq_true rfl, Nat.le_of_ble_eq_true rfl⟩ rfl (Nat.le_of_ble_eq_true rfl) dX5_digest_24 ⟨(Nat.le_of_ble_eq_true rfl), (Nat.le_of_ble_eq_true rfl)⟩) rfl (Nat.le_of_ble_eq_true rfl) (Nat.le_of_ble_eq_true rfl) ?_
  refine z_i2l (pc := 27) C dX5_digest_27 ?_
  refine z_ladd (pc := 28) C dX5_digest_28 ?_
  refine z_lstore_n (lv' := [(1, .long (((((((1741 : Int64) * (31 : Int64)) + ((r3.1).toInt64)) * (31 : Int64)) + ((r5.1).toInt64)) * (31 : Int64)) + ((r7.1).toInt64))), (3, .int (2 : Int32)), (0, .ref a0)]) (pc := 29) C dX5_digest_29 (by decide) rfl ?_
  refine z_iinc (k := 1) (v := (3 : Int32)) (lv' := [(3, .int (3 : Int32)), (1, .long (((((((1741 : Int64) * (31 : Int64)) + ((r3.1).toInt64)) * (31 : Int64)) + ((r5.1).toInt64)) * (31 : Int64)) + ((r7.1).toInt64))), (0, .ref a0)]) (pc := 30) C dX5_digest_30 rfl (by first | rfl | decide) (by decide) rfl ?_
  refine z_goto (pc := 33) (tgt := 11) C dX5_digest_33 (by decide) ?_
  refine z_iload_n (k := 0) (pc := 11) C dX5_digest_11 rfl ?_
  refine z_bipush (v := (10 : Int32)) (pc := 12) C dX5_digest_12 (by decide) ?_
  refine z_icmp_gt_f (pc := 14) (tgt := 36) C dX5_digest_14 (by decide) (by decide) ?_
  refine z_lload_n (k := 1) (pc := 17) C dX5_digest_17 rfl ?_
  refine z_ldc2 (V := (31 : Int64)) (pc := 18) C dX5_digest_18 q_745 ?_
  refine z_lmul (pc := 21) C dX5_digest_21 ?_
  refine z_aload_n (k := 2) (pc := 22) C dX5_digest_22 rfl ?_
  refine z_iload_n (k := 0) (pc := 23) C dX5_digest_23 rfl ?_
  obtain ⟨_, g8, hM⟩ := Option.bind_eq_some_iff.mp hM
  obtain ⟨r9, g9, hM⟩ := Option.bind_eq_some_iff.mp hM
  refine z_goN (kc := 8) (ks := 208) ([.int r9.1, .long ((((((((1741 : Int64) * (31 : Int64)) + ((r3.1).toInt64)) * (31 : Int64)) + ((r5.1).toInt64)) * (31 : Int64)) + ((r7.1).toInt64)) * (31 : Int64))]) (z_callV (pc := 24) (As := [.int (3 : Int32)]) (rest := [.long ((((((((1741 : Int64) * (31 : Int64)) + ((r3.1).toInt64)) * (31 : Int64)) + ((r5.1).toInt64)) * (31 : Int64)) + ((r7.1).toInt64)) * (31 : Int64))]) (n := 1) (ci := 6) C (c_X5_counted l hl G lo t0 r7.2.1 r7.2.2 a0 (3 : Int32) r9 g9) g8 rfl q_287 q_288 q_289 q_5 q_290 ⟨rfl, by decide +kernel, by decide +kernel, by decide +kernel⟩ ⟨Nat.le_of_ble_eq_true rfl, Nat.le_of_ble_eq_true rfl⟩ rfl (Nat.le_of_ble_eq_true rfl) dX5_digest_24 ⟨(Nat.le_of_ble_eq_true rfl), (Nat.le_of_ble_eq_true rfl)⟩) rfl (Nat.le_of_ble_eq_true rfl) (Nat.le_of_ble_eq_true rfl) ?_
  refine z_i2l (pc := 27) C dX5_digest_27 ?_
  refine z_ladd (pc := 28) C dX5_digest_28 ?_
  refine z_lstore_n (lv' := [(1, .long (((((((((1741 : Int64) * (31 : Int64)) + ((r3.1).toInt64)) * (31 : Int64)) + ((r5.1).toInt64)) * (31 : Int64)) + ((r7.1).toInt64)) * (31 : Int64)) + ((r9.1).toInt64))), (3, .int (3 : Int32)), (0, .ref a0)]) (pc := 29) C dX5_digest_29 (by decide) rfl ?_
  refine z_iinc (k := 1) (v := (4 : Int32)) (lv' := [(3, .int (4 : Int32)), (1, .long (((((((((1741 : Int64) * (31 : Int64)) + ((r3.1).toInt64)) * (31 : Int64)) + ((r5.1).toInt64)) * (31 : Int64)) + ((r7.1).toInt64)) * (31 : Int64)) + ((r9.1).toInt64))), (0, .ref a0)]) (pc := 30) C dX5_digest_30 rfl (by first | rfl | decide) (by decide) rfl ?_
  refine z_goto (pc := 33) (tgt := 11) C dX5_digest_33 (by decide) ?_
  refine z_iload_n (k := 0) (pc := 11) C dX5_digest_11 rfl ?_
  refine z_bipush (v := (10 : Int32)) (pc := 12) C dX5_digest_12 (by decide) ?_
  refine z_icmp_gt_f (pc := 14) (tgt := 36) C dX5_digest_14 (by decide) (by decide) ?_
  refine z_lload_n (k := 1) (pc := 17) C dX5_digest_17 rfl ?_
  refine z_ldc2 (V := (31 : Int64)) (pc := 18) C dX5_digest_18 q_745 ?_
  refine z_lmul (pc := 21) C dX5_digest_21 ?_
  refine z_aload_n (k := 2) (pc := 22) C dX5_digest_22 rfl ?_
  refine z_iload_n (k := 0) (pc := 23) C dX5_digest_23 rfl ?_
  obtain ⟨_, g10, hM⟩ := Option.bind_eq_some_iff.mp hM
  obtain ⟨r11, g11, hM⟩ := Option.bind_eq_some_iff.mp hM
  refine z_goN (kc := 10) (ks := 260) ([.int r11.1, .long ((((((((((1741 : Int64) * (31 : Int64)) + ((r3.1).toInt64)) * (31 : Int64)) + ((r5.1).toInt64)) * (31 : Int64)) + ((r7.1).toInt64)) * (31 : Int64)) + ((r9.1).toInt64)) * (31 : Int64))]) (z_callV (pc := 24) (As := [.int (4 : Int32)]) (rest := [.long ((((((((((1741 : Int64) * (31 : Int64)) + ((r3.1).toInt64)) * (31 : Int64)) + ((r5.1).toInt64)) * (31 : Int64)) + ((r7.1).toInt64)) * (31 : Int64)) + ((r9.1).toInt64)) * (31 : Int64))]) (n := 1) (ci := 6) C (c_X5_counted l hl G lo t0 r9.2.1 r9.2.2 a0 (4 : Int32) r11 g11) g10 rfl q_287 q_288 q_289 q_5 q_290 ⟨rfl, by decide +kernel, by decide +kernel, by decide +kernel⟩ ⟨Nat.le_of_ble_eq_true rfl, Nat.le_of_ble_eq_true rfl⟩ rfl (Nat.le_of_ble_eq_true rfl) dX5_digest_24 ⟨(Nat.le_of_ble_eq_true rfl), (Nat.le_of_ble_eq_true rfl)⟩) rfl (Nat.le_of_ble_eq_true rfl) (Nat.le_of_ble_eq_true rfl) ?_
  refine z_i2l (pc := 27) C dX5_digest_27 ?_
  refine z_ladd (pc := 28) C dX5_digest_28 ?_
  refine z_lstore_n (lv' := [(1, .long (((((((((((1741 : Int64) * (31 : Int64)) + ((r3.1).toInt64)) * (31 : Int64)) + ((r5.1).toInt64)) * (31 : Int64)) + ((r7.1).toInt64)) * (31 : Int64)) + ((r9.1).toInt64)) * (31 : Int64)) + ((r11.1).toInt64))), (3, .int (4 : Int32)), (0, .ref a0)]) (pc := 29) C dX5_digest_29 (by decide) rfl ?_
  refine z_iinc (k := 1) (v := (5 : Int32)) (lv' := [(3, .int (5 : Int32)), (1, .long (((((((((((1741 : Int64) * (31 : Int64)) + ((r3.1).toInt64)) * (31 : Int64)) + ((r5.1).toInt64)) * (31 : Int64)) + ((r7.1).toInt64)) * (31 : Int64)) + ((r9.1).toInt64)) * (31 : Int64)) + ((r11.1).toInt64))), (0, .ref a0)]) (pc := 30) C dX5_digest_30 rfl (by first | rfl | decide) (by decide) rfl ?_
  refine z_goto (pc := 33) (tgt := 11) C dX5_digest_33 (by decide) ?_
  refine z_iload_n (k := 0) (pc := 11) C dX5_digest_11 rfl ?_
  refine z_bipush (v := (10 : Int32)) (pc := 12) C dX5_digest_12 (by decide) ?_
  refine z_icmp_gt_f (pc := 14) (tgt := 36) C dX5_digest_14 (by decide) (by decide) ?_
  refine z_lload_n (k := 1) (pc := 17) C dX5_digest_17 rfl ?_
  refine z_ldc2 (V := (31 : Int64)) (pc := 18) C dX5_digest_18 q_745 ?_
  refine z_lmul (pc := 21) C dX5_digest_21 ?_
  refine z_aload_n (k := 2) (pc := 22) C dX5_digest_22 rfl ?_
  refine z_iload_n (k := 0) (pc := 23) C dX5_digest_23 rfl ?_
  obtain ⟨_, g12, hM⟩ := Option.bind_eq_some_iff.mp hM
  obtain ⟨r13, g13, hM⟩ := Option.bind_eq_some_iff.mp hM
  refine z_goN (kc := 12) (ks := 312) ([.int r13.1, .long ((((((((((((1741 : Int64) * (31 : Int64)) + ((r3.1).toInt64)) * (31 : Int64)) + ((r5.1).toInt64)) * (31 : Int64)) + ((r7.1).toInt64)) * (31 : Int64)) + ((r9.1).toInt64)) * (31 : Int64)) + ((r11.1).toInt64)) * (31 : Int64))]) (z_callV (pc := 24) (As := [.int (5 : Int32)]) (rest := [.long ((((((((((((1741 : Int64) * (31 : Int64)) + ((r3.1).toInt64)) * (31 : Int64)) + ((r5.1).toInt64)) * (31 : Int64)) + ((r7.1).toInt64)) * (31 : Int64)) + ((r9.1).toInt64)) * (31 : Int64)) + ((r11.1).toInt64)) * (31 : Int64))]) (n := 1) (ci := 6) C (c_X5_counted l hl G lo t0 r11.2.1 r11.2.2 a0 (5 : Int32) r13 g13) g12 rfl q_287 q_288 q_289 q_5 q_290 ⟨rfl, by decide +kernel, by decide +kernel, by decide +kernel⟩ ⟨Nat.le_of_ble_eq_true rfl, Nat.le_of_ble_eq_true rfl⟩ rfl (Nat.le_of_ble_eq_true rfl) dX5_digest_24 ⟨(Nat.le_of_ble_eq_true rfl), (Nat.le_of_ble_eq_true rfl)⟩) rfl (Nat.le_of_ble_eq_true rfl) (Nat.le_of_ble_eq_true rfl) ?_
  refine z_i2l (pc := 27) C dX5_digest_27 ?_
  refine z_ladd (pc := 28) C dX5_digest_28 ?_
  refine z_lstore_n (lv' := [(1, .long (((((((((((((1741 : Int64) * (31 : Int64)) + ((r3.1).toInt64)) * (31 : Int64)) + ((r5.1).toInt64)) * (31 : Int64)) + ((r7.1).toInt64)) * (31 : Int64)) + ((r9.1).toInt64)) * (31 : Int64)) + ((r11.1).toInt64)) * (31 : Int64)) + ((r13.1).toInt64))), (3, .int (5 : Int32)), (0, .ref a0)]) (pc := 29) C dX5_digest_29 (by decide) rfl ?_
  refine z_iinc (k := 1) (v := (6 : Int32)) (lv' := [(3, .int (6 : Int32)), (1, .long (((((((((((((1741 : Int64) * (31 : Int64)) + ((r3.1).toInt64)) * (31 : Int64)) + ((r5.1).toInt64)) * (31 : Int64)) + ((r7.1).toInt64)) * (31 : Int64)) + ((r9.1).toInt64)) * (31 : Int64)) + ((r11.1).toInt64)) * (31 : Int64)) + ((r13.1).toInt64))), (0, .ref a0)]) (pc := 30) C dX5_digest_30 rfl (by first | rfl | decide) (by decide) rfl ?_
  refine z_goto (pc := 33) (tgt := 11) C dX5_digest_33 (by decide) ?_
  refine z_iload_n (k := 0) (pc := 11) C dX5_digest_11 rfl ?_
  refine z_bipush (v := (10 : Int32)) (pc := 12) C dX5_digest_12 (by decide) ?_
  refine z_icmp_gt_f (pc := 14) (tgt := 36) C dX5_digest_14 (by decide) (by decide) ?_
  refine z_lload_n (k := 1) (pc := 17) C dX5_digest_17 rfl ?_
  refine z_ldc2 (V := (31 : Int64)) (pc := 18) C dX5_digest_18 q_745 ?_
  refine z_lmul (pc := 21) C dX5_digest_21 ?_
  refine z_aload_n (k := 2) (pc := 22) C dX5_digest_22 rfl ?_
  refine z_iload_n (k := 0) (pc := 23) C dX5_digest_23 rfl ?_
  obtain ⟨_, g14, hM⟩ := Option.bind_eq_some_iff.mp hM
  obtain ⟨r15, g15, hM⟩ := Option.bind_eq_some_iff.mp hM
  refine z_goN (kc := 14) (ks := 364) ([.int r15.1, .long ((((((((((((((1741 : Int64) * (31 : Int64)) + ((r3.1).toInt64)) * (31 : Int64)) + ((r5.1).toInt64)) * (31 : Int64)) + ((r7.1).toInt64)) * (31 : Int64)) + ((r9.1).toInt64)) * (31 : Int64)) + ((r11.1).toInt64)) * (31 : Int64)) + ((r13.1).toInt64)) * (31 : Int64))]) (z_callV (pc := 24) (As := [.int (6 : Int32)]) (rest := [.long ((((((((((((((1741 : Int64) * (31 : Int64)) + ((r3.1).toInt64)) * (31 : Int64)) + ((r5.1).toInt64)) * (31 : Int64)) + ((r7.1).toInt64)) * (31 : Int64)) + ((r9.1).toInt64)) * (31 : Int64)) + ((r11.1).toInt64)) * (31 : Int64)) + ((r13.1).toInt64)) * (31 : Int64))]) (n := 1) (ci := 6) C (c_X5_counted l hl G lo t0 r13.2.1 r13.2.2 a0 (6 : Int32) r15 g15) g14 rfl q_287 q_288 q_289 q_5 q_290 ⟨rfl, by decide +kernel, by decide +kernel, by decide +kernel⟩ ⟨Nat.le_of_ble_eq_true rfl, Nat.le_of_ble_eq_true rfl⟩ rfl (Nat.le_of_ble_eq_true rfl) dX5_digest_24 ⟨(Nat.le_of_ble_eq_true rfl), (Nat.le_of_ble_eq_true rfl)⟩) rfl (Nat.le_of_ble_eq_true rfl) (Nat.le_of_ble_eq_true rfl) ?_
  refine z_i2l (pc := 27) C dX5_digest_27 ?_
  refine z_ladd (pc := 28) C dX5_digest_28 ?_
  refine z_lstore_n (lv' := [(1, .long (((((((((((((((1741 : Int64) * (31 : Int64)) + ((r3.1).toInt64)) * (31 : Int64)) + ((r5.1).toInt64)) * (31 : Int64)) + ((r7.1).toInt64)) * (31 : Int64)) + ((r9.1).toInt64)) * (31 : Int64)) + ((r11.1).toInt64)) * (31 : Int64)) + ((r13.1).toInt64)) * (31 : Int64)) + ((r15.1).toInt64))), (3, .int (6 : Int32)), (0, .ref a0)]) (pc := 29) C dX5_digest_29 (by decide) rfl ?_
  refine z_iinc (k := 1) (v := (7 : Int32)) (lv' := [(3, .int (7 : Int32)), (1, .long (((((((((((((((1741 : Int64) * (31 : Int64)) + ((r3.1).toInt64)) * (31 : Int64)) + ((r5.1).toInt64)) * (31 : Int64)) + ((r7.1).toInt64)) * (31 : Int64)) + ((r9.1).toInt64)) * (31 : Int64)) + ((r11.1).toInt64)) * (31 : Int64)) + ((r13.1).toInt64)) * (31 : Int64)) + ((r15.1).toInt64))), (0, .ref a0)]) (pc := 30) C dX5_digest_30 rfl (by first | rfl | decide) (by decide) rfl ?_
  refine z_goto (pc := 33) (tgt := 11) C dX5_digest_33 (by decide) ?_
  refine z_iload_n (k := 0) (pc := 11) C dX5_digest_11 rfl ?_
  refine z_bipush (v := (10 : Int32)) (pc := 12) C dX5_digest_12 (by decide) ?_
  refine z_icmp_gt_f (pc := 14) (tgt := 36) C dX5_digest_14 (by decide) (by decide) ?_
  refine z_lload_n (k := 1) (pc := 17) C dX5_digest_17 rfl ?_
  refine z_ldc2 (V := (31 : Int64)) (pc := 18) C dX5_digest_18 q_745 ?_
  refine z_lmul (pc := 21) C dX5_digest_21 ?_
  refine z_aload_n (k := 2) (pc := 22) C dX5_digest_22 rfl ?_
  refine z_iload_n (k := 0) (pc := 23) C dX5_digest_23 rfl ?_
  obtain ⟨_, g16, hM⟩ := Option.bind_eq_some_iff.mp hM
  obtain ⟨r17, g17, hM⟩ := Option.bind_eq_some_iff.mp hM
  refine z_goN (kc := 16) (ks := 416) ([.int r17.1, .long ((((((((((((((((1741 : Int64) * (31 : Int64)) + ((r3.1).toInt64)) * (31 : Int64)) + ((r5.1).toInt64)) * (31 : Int64)) + ((r7.1).toInt64)) * (31 : Int64)) + ((r9.1).toInt64)) * (31 : Int64)) + ((r11.1).toInt64)) * (31 : Int64)) + ((r13.1).toInt64)) * (31 : Int64)) + ((r15.1).toInt64)) * (31 : Int64))]) (z_callV (pc := 24) (As := [.int (7 : Int32)]) (rest := [.long ((((((((((((((((1741 : Int64) * (31 : Int64)) + ((r3.1).toInt64)) * (31 : Int64)) + ((r5.1).toInt64)) * (31 : Int64)) + ((r7.1).toInt64)) * (31 : Int64)) + ((r9.1).toInt64)) * (31 : Int64)) + ((r11.1).toInt64)) * (31 : Int64)) + ((r13.1).toInt64)) * (31 : Int64)) + ((r15.1).toInt64)) * (31 : Int64))]) (n := 1) (ci := 6) C (c_X5_counted l hl G lo t0 r15.2.1 r15.2.2 a0 (7 : Int32) r17 g17) g16 rfl q_287 q_288 q_289 q_5 q_290 ⟨rfl, by decide +kernel, by decide +kernel, by decide +kernel⟩ ⟨Nat.le_of_ble_eq_true rfl, Nat.le_of_ble_eq_true rfl⟩ rfl (Nat.le_of_ble_eq_true rfl) dX5_digest_24 ⟨(Nat.le_of_ble_eq_true rfl), (Nat.le_of_ble_eq_true rfl)⟩) rfl (Nat.le_of_ble_eq_true rfl) (Nat.le_of_ble_eq_true rfl) ?_
  refine z_i2l (pc := 27) C dX5_digest_27 ?_
  refine z_ladd (pc := 28) C dX5_digest_28 ?_
  refine z_lstore_n (lv' := [(1, .long (((((((((((((((((1741 : Int64) * (31 : Int64)) + ((r3.1).toInt64)) * (31 : Int64)) + ((r5.1).toInt64)) * (31 : Int64)) + ((r7.1).toInt64)) * (31 : Int64)) + ((r9.1).toInt64)) * (31 : Int64)) + ((r11.1).toInt64)) * (31 : Int64)) + ((r13.1).toInt64)) * (31 : Int64)) + ((r15.1).toInt64)) * (31 : Int64)) + ((r17.1).toInt64))), (3, .int (7 : Int32)), (0, .ref a0)]) (pc := 29) C dX5_digest_29 (by decide) rfl ?_
  refine z_iinc (k := 1) (v := (8 : Int32)) (lv' := [(3, .int (8 : Int32)), (1, .long (((((((((((((((((1741 : Int64) * (31 : Int64)) + ((r3.1).toInt64)) * (31 : Int64)) + ((r5.1).toInt64)) * (31 : Int64)) + ((r7.1).toInt64)) * (31 : Int64)) + ((r9.1).toInt64)) * (31 : Int64)) + ((r11.1).toInt64)) * (31 : Int64)) + ((r13.1).toInt64)) * (31 : Int64)) + ((r15.1).toInt64)) * (31 : Int64)) + ((r17.1).toInt64))), (0, .ref a0)]) (pc := 30) C dX5_digest_30 rfl (by first | rfl | decide) (by decide) rfl ?_
  refine z_goto (pc := 33) (tgt := 11) C dX5_digest_33 (by decide) ?_
  refine z_iload_n (k := 0) (pc := 11) C dX5_digest_11 rfl ?_
  refine z_bipush (v := (10 : Int32)) (pc := 12) C dX5_digest_12 (by decide) ?_
  refine z_icmp_gt_f (pc := 14) (tgt := 36) C dX5_digest_14 (by decide) (by decide) ?_
  refine z_lload_n (k := 1) (pc := 17) C dX5_digest_17 rfl ?_
  refine z_ldc2 (V := (31 : Int64)) (pc := 18) C dX5_digest_18 q_745 ?_
  refine z_lmul (pc := 21) C dX5_digest_21 ?_
  refine z_aload_n (k := 2) (pc := 22) C dX5_digest_22 rfl ?_
  refine z_iload_n (k := 0) (pc := 23) C dX5_digest_23 rfl ?_
  obtain ⟨_, g18, hM⟩ := Option.bind_eq_some_iff.mp hM
  obtain ⟨r19, g19, hM⟩ := Option.bind_eq_some_iff.mp hM
  refine z_goN (kc := 18) (ks := 468) ([.int r19.1, .long ((((((((((((((((((1741 : Int64) * (31 : Int64)) + ((r3.1).toInt64)) * (31 : Int64)) + ((r5.1).toInt64)) * (31 : Int64)) + ((r7.1).toInt64)) * (31 : Int64)) + ((r9.1).toInt64)) * (31 : Int64)) + ((r11.1).toInt64)) * (31 : Int64)) + ((r13.1).toInt64)) * (31 : Int64)) + ((r15.1).toInt64)) * (31 : Int64)) + ((r17.1).toInt64)) * (31 : Int64))]) (z_callV (pc := 24) (As := [.int (8 : Int32)]) (rest := [.long ((((((((((((((((((1741 : Int64) * (31 : Int64)) + ((r3.1).toInt64)) * (31 : Int64)) + ((r5.1).toInt64)) * (31 : Int64)) + ((r7.1).toInt64)) * (31 : Int64)) + ((r9.1).toInt64)) * (31 : Int64)) + ((r11.1).toInt64)) * (31 : Int64)) + ((r13.1).toInt64)) * (31 : Int64)) + ((r15.1).toInt64)) * (31 : Int64)) + ((r17.1).toInt64)) * (31 : Int64))]) (n := 1) (ci := 6) C (c_X5_counted l hl G lo t0 r17.2.1 r17.2.2 a0 (8 : Int32) r19 g19) g18 rfl q_287 q_288 q_289 q_5 q_290 ⟨rfl, by decide +kernel, by decide +kernel, by decide +kernel⟩ ⟨Nat.le_of_ble_eq_true rfl, Nat.le_of_ble_eq_true rfl⟩ rfl (Nat.le_of_ble_eq_true rfl) dX5_digest_24 ⟨(Nat.le_of_ble_eq_true rfl), (Nat.le_of_ble_eq_true rfl)⟩) rfl (Nat.le_of_ble_eq_true rfl) (Nat.le_of_ble_eq_true rfl) ?_
  refine z_i2l (pc := 27) C dX5_digest_27 ?_
  refine z_ladd (pc := 28) C dX5_digest_28 ?_
  refine z_lstore_n (lv' := [(1, .long (((((((((((((((((((1741 : Int64) * (31 : Int64)) + ((r3.1).toInt64)) * (31 : Int64)) + ((r5.1).toInt64)) * (31 : Int64)) + ((r7.1).toInt64)) * (31 : Int64)) + ((r9.1).toInt64)) * (31 : Int64)) + ((r11.1).toInt64)) * (31 : Int64)) + ((r13.1).toInt64)) * (31 : Int64)) + ((r15.1).toInt64)) * (31 : Int64)) + ((r17.1).toInt64)) * (31 : Int64)) + ((r19.1).toInt64))), (3, .int (8 : Int32)), (0, .ref a0)]) (pc := 29) C dX5_digest_29 (by decide) rfl ?_
  refine z_iinc (k := 1) (v := (9 : Int32)) (lv' := [(3, .int (9 : Int32)), (1, .long (((((((((((((((((((1741 : Int64) * (31 : Int64)) + ((r3.1).toInt64)) * (31 : Int64)) + ((r5.1).toInt64)) * (31 : Int64)) + ((r7.1).toInt64)) * (31 : Int64)) + ((r9.1).toInt64)) * (31 : Int64)) + ((r11.1).toInt64)) * (31 : Int64)) + ((r13.1).toInt64)) * (31 : Int64)) + ((r15.1).toInt64)) * (31 : Int64)) + ((r17.1).toInt64)) * (31 : Int64)) + ((r19.1).toInt64))), (0, .ref a0)]) (pc := 30) C dX5_digest_30 rfl (by first | rfl | decide) (by decide) rfl ?_
  refine z_goto (pc := 33) (tgt := 11) C dX5_digest_33 (by decide) ?_
  refine z_iload_n (k := 0) (pc := 11) C dX5_digest_11 rfl ?_
  refine z_bipush (v := (10 : Int32)) (pc := 12) C dX5_digest_12 (by decide) ?_
  refine z_icmp_gt_f (pc := 14) (tgt := 36) C dX5_digest_14 (by decide) (by decide) ?_
  refine z_lload_n (k := 1) (pc := 17) C dX5_digest_17 rfl ?_
  refine z_ldc2 (V := (31 : Int64)) (pc := 18) C dX5_digest_18 q_745 ?_
  refine z_lmul (pc := 21) C dX5_digest_21 ?_
  refine z_aload_n (k := 2) (pc := 22) C dX5_digest_22 rfl ?_
  refine z_iload_n (k := 0) (pc := 23) C dX5_digest_23 rfl ?_
  obtain ⟨_, g20, hM⟩ := Option.bind_eq_some_iff.mp hM
  obtain ⟨r21, g21, hM⟩ := Option.bind_eq_some_iff.mp hM
  refine z_goN (kc := 20) (ks := 520) ([.int r21.1, .long ((((((((((((((((((((1741 : Int64) * (31 : Int64)) + ((r3.1).toInt64)) * (31 : Int64)) + ((r5.1).toInt64)) * (31 : Int64)) + ((r7.1).toInt64)) * (31 : Int64)) + ((r9.1).toInt64)) * (31 : Int64)) + ((r11.1).toInt64)) * (31 : Int64)) + ((r13.1).toInt64)) * (31 : Int64)) + ((r15.1).toInt64)) * (31 : Int64)) + ((r17.1).toInt64)) * (31 : Int64)) + ((r19.1).toInt64)) * (31 : Int64))]) (z_callV (pc := 24) (As := [.int (9 : Int32)]) (rest := [.long ((((((((((((((((((((1741 : Int64) * (31 : Int64)) + ((r3.1).toInt64)) * (31 : Int64)) + ((r5.1).toInt64)) * (31 : Int64)) + ((r7.1).toInt64)) * (31 : Int64)) + ((r9.1).toInt64)) * (31 : Int64)) + ((r11.1).toInt64)) * (31 : Int64)) + ((r13.1).toInt64)) * (31 : Int64)) + ((r15.1).toInt64)) * (31 : Int64)) + ((r17.1).toInt64)) * (31 : Int64)) + ((r19.1).toInt64)) * (31 : Int64))]) (n := 1) (ci := 6) C (c_X5_counted l hl G lo t0 r19.2.1 r19.2.2 a0 (9 : Int32) r21 g21) g20 rfl q_287 q_288 q_289 q_5 q_290 ⟨rfl, by decide +kernel, by decide +kernel, by decide +kernel⟩ ⟨Nat.le_of_ble_eq_true rfl, Nat.le_of_ble_eq_true rfl⟩ rfl (Nat.le_of_ble_eq_true rfl) dX5_digest_24 ⟨(Nat.le_of_ble_eq_true rfl), (Nat.le_of_ble_eq_true rfl)⟩) rfl (Nat.le_of_ble_eq_true rfl) (Nat.le_of_ble_eq_true rfl) ?_
  refine z_i2l (pc := 27) C dX5_digest_27 ?_
  refine z_ladd (pc := 28) C dX5_digest_28 ?_
  refine z_lstore_n (lv' := [(1, .long (((((((((((((((((((((1741 : Int64) * (31 : Int64)) + ((r3.1).toInt64)) * (31 : Int64)) + ((r5.1).toInt64)) * (31 : Int64)) + ((r7.1).toInt64)) * (31 : Int64)) + ((r9.1).toInt64)) * (31 : Int64)) + ((r11.1).toInt64)) * (31 : Int64)) + ((r13.1).toInt64)) * (31 : Int64)) + ((r15.1).toInt64)) * (31 : Int64)) + ((r17.1).toInt64)) * (31 : Int64)) + ((r19.1).toInt64)) * (31 : Int64)) + ((r21.1).toInt64))), (3, .int (9 : Int32)), (0, .ref a0)]) (pc := 29) C dX5_digest_29 (by decide) rfl ?_
  refine z_iinc (k := 1) (v := (10 : Int32)) (lv' := [(3, .int (10 : Int32)), (1, .long (((((((((((((((((((((1741 : Int64) * (31 : Int64)) + ((r3.1).toInt64)) * (31 : Int64)) + ((r5.1).toInt64)) * (31 : Int64)) + ((r7.1).toInt64)) * (31 : Int64)) + ((r9.1).toInt64)) * (31 : Int64)) + ((r11.1).toInt64)) * (31 : Int64)) + ((r13.1).toInt64)) * (31 : Int64)) + ((r15.1).toInt64)) * (31 : Int64)) + ((r17.1).toInt64)) * (31 : Int64)) + ((r19.1).toInt64)) * (31 : Int64)) + ((r21.1).toInt64))), (0, .ref a0)]) (pc := 30) C dX5_digest_30 rfl (by first | rfl | decide) (by decide) rfl ?_
  refine z_goto (pc := 33) (tgt := 11) C dX5_digest_33 (by decide) ?_
  refine z_iload_n (k := 0) (pc := 11) C dX5_digest_11 rfl ?_
  refine z_bipush (v := (10 : Int32)) (pc := 12) C dX5_digest_12 (by decide) ?_
  refine z_icmp_gt_f (pc := 14) (tgt := 36) C dX5_digest_14 (by decide) (by decide) ?_
  refine z_lload_n (k := 1) (pc := 17) C dX5_digest_17 rfl ?_
  refine z_ldc2 (V := (31 : Int64)) (pc := 18) C dX5_digest_18 q_745 ?_
  refine z_lmul (pc := 21) C dX5_digest_21 ?_
  refine z_aload_n (k := 2) (pc := 22) C dX5_digest_22 rfl ?_
  refine z_iload_n (k := 0) (pc := 23) C dX5_digest_23 rfl ?_
  obtain ⟨_, g22, hM⟩ := Option.bind_eq_some_iff.mp hM
  obtain ⟨r23, g23, hM⟩ := Option.bind_eq_some_iff.mp hM
  refine z_goN (kc := 22) (ks := 572) ([.int r23.1, .long ((((((((((((((((((((((1741 : Int64) * (31 : Int64)) + ((r3.1).toInt64)) * (31 : Int64)) + ((r5.1).toInt64)) * (31 : Int64)) + ((r7.1).toInt64)) * (31 : Int64)) + ((r9.1).toInt64)) * (31 : Int64)) + ((r11.1).toInt64)) * (31 : Int64)) + ((r13.1).toInt64)) * (31 : Int64)) + ((r15.1).toInt64)) * (31 : Int64)) + ((r17.1).toInt64)) * (31 : Int64)) + ((r19.1).toInt64)) * (31 : Int64)) + ((r21.1).toInt64)) * (31 : Int64))]) (z_callV (pc := 24) (As := [.int (10 : Int32)]) (rest := [.long ((((((((((((((((((((((1741 : Int64) * (31 : Int64)) + ((r3.1).toInt64)) * (31 : Int64)) + ((r5.1).toInt64)) * (31 : Int64)) + ((r7.1).toInt64)) * (31 : Int64)) + ((r9.1).toInt64)) * (31 : Int64)) + ((r11.1).toInt64)) * (31 : Int64)) + ((r13.1).toInt64)) * (31 : Int64)) + ((r15.1).toInt64)) * (31 : Int64)) + ((r17.1).toInt64)) * (31 : Int64)) + ((r19.1).toInt64)) * (31 : Int64)) + ((r21.1).toInt64)) * (31 : Int64))]) (n := 1) (ci := 6) C (c_X5_counted l hl G lo t0 r21.2.1 r21.2.2 a0 (10 : Int32) r23 g23) g22 rfl q_287 q_288 q_289 q_5 q_290 ⟨rfl, by decide +kernel, by decide +kernel, by decide +kernel⟩ ⟨Nat.le_of_ble_eq_true rfl, Nat.le_of_ble_eq_true rfl⟩ rfl (Nat.le_of_ble_eq_true rfl) dX5_digest_24 ⟨(Nat.le_of_ble_eq_true rfl), (Nat.le_of_ble_eq_true rfl)⟩) rfl (Nat.le_of_ble_eq_true rfl) (Nat.le_of_ble_eq_true rfl) ?_
  refine z_i2l (pc := 27) C dX5_digest_27 ?_
  refine z_ladd (pc := 28) C dX5_digest_28 ?_
  refine z_lstore_n (lv' := [(1, .long (((((((((((((((((((((((1741 : Int64) * (31 : Int64)) + ((r3.1).toInt64)) * (31 : Int64)) + ((r5.1).toInt64)) * (31 : Int64)) + ((r7.1).toInt64)) * (31 : Int64)) + ((r9.1).toInt64)) * (31 : Int64)) + ((r11.1).toInt64)) * (31 : Int64)) + ((r13.1).toInt64)) * (31 : Int64)) + ((r15.1).toInt64)) * (31 : Int64)) + ((r17.1).toInt64)) * (31 : Int64)) + ((r19.1).toInt64)) * (31 : Int64)) + ((r21.1).toInt64)) * (31 : Int64)) + ((r23.1).toInt64))), (3, .int (10 : Int32)), (0, .ref a0)]) (pc := 29) C dX5_digest_29 (by decide) rfl ?_
  refine z_iinc (k := 1) (v := (11 : Int32)) (lv' := [(3, .int (11 : Int32)), (1, .long (((((((((((((((((((((((1741 : Int64) * (31 : Int64)) + ((r3.1).toInt64)) * (31 : Int64)) + ((r5.1).toInt64)) * (31 : Int64)) + ((r7.1).toInt64)) * (31 : Int64)) + ((r9.1).toInt64)) * (31 : Int64)) + ((r11.1).toInt64)) * (31 : Int64)) + ((r13.1).toInt64)) * (31 : Int64)) + ((r15.1).toInt64)) * (31 : Int64)) + ((r17.1).toInt64)) * (31 : Int64)) + ((r19.1).toInt64)) * (31 : Int64)) + ((r21.1).toInt64)) * (31 : Int64)) + ((r23.1).toInt64))), (0, .ref a0)]) (pc := 30) C dX5_digest_30 rfl (by first | rfl | decide) (by decide) rfl ?_
  refine z_goto (pc := 33) (tgt := 11) C dX5_digest_33 (by decide) ?_
  refine z_iload_n (k := 0) (pc := 11) C dX5_digest_11 rfl ?_
  refine z_bipush (v := (10 : Int32)) (pc := 12) C dX5_digest_12 (by decide) ?_
  refine z_icmp_gt_t (pc := 14) (tgt := 36) C dX5_digest_14 (by decide) (by decide) ?_
  refine z_iconst (v := (0 : Int32)) (pc := 36) C dX5_digest_36 (by decide) ?_
  refine z_istore_n (lv' := [(3, .int (0 : Int32)), (1, .long (((((((((((((((((((((((1741 : Int64) * (31 : Int64)) + ((r3.1).toInt64)) * (31 : Int64)) + ((r5.1).toInt64)) * (31 : Int64)) + ((r7.1).toInt64)) * (31 : Int64)) + ((r9.1).toInt64)) * (31 : Int64)) + ((r11.1).toInt64)) * (31 : Int64)) + ((r13.1).toInt64)) * (31 : Int64)) + ((r15.1).toInt64)) * (31 : Int64)) + ((r17.1).toInt64)) * (31 : Int64)) + ((r19.1).toInt64)) * (31 : Int64)) + ((r21.1).toInt64)) * (31 : Int64)) + ((r23.1).toInt64))), (0, .ref a0)]) (pc := 37) C dX5_digest_37 (by decide) rfl ?_
  refine z_sub [2, 1, 0] rfl (zl2 (fun (X1_24 : Int64) (x3_24 : Int32) => [(0, .ref a0), (1, .long X1_24), (3, .int x3_24)]) (fun (X1_24 : Int64) (x3_24 : Int32) => r23.2.1) (fun (X1_24 : Int64) (x3_24 : Int32) => r23.2.2) hM (fun rec24 irec24 X1_24 x3_24 hM => ?_))
  refine z_iload_n (k := 2) (pc := 38) C dX5_digest_38 rfl ?_
  refine z_aload_n (k := 0) (pc := 39) C dX5_digest_39 rfl ?_
  obtain ⟨r25, g25, hM⟩ := Option.bind_eq_some_iff.mp hM
  refine z_getI (pc := 40) (k := 1) C g25 rfl inlX5 (by decide) q_218 (fun _ h9 => h9) dX5_digest_40 ?_
  refine z_icmp_ge (pc := 43) (tgt := 83) C dX5_digest_43 (by decide) hM (fun hc49 hM => ?_) (fun hc49 hM => ?_)
  · refine z_iconst (v := (0 : Int32)) (pc := 83) C dX5_digest_83 (by decide) ?_
    refine z_istore_n (lv' := [(3, .int (0 : Int32)), (0, .ref a0), (1, .long X1_24)]) (pc := 84) C dX5_digest_84 (by decide) rfl ?_
    refine z_sub [1, 2, 0] rfl (zl2 (fun (X1_26 : Int64) (x3_26 : Int32) => [(0, .ref a0), (1, .long X1_26), (3, .int x3_26)]) (fun (X1_26 : Int64) (x3_26 : Int32) => r23.2.1) (fun (X1_26 : Int64) (x3_26 : Int32) => r23.2.2) hM (fun rec26 irec26 X1_26 x3_26 hM => ?_))
    refine z_iload_n (k := 2) (pc := 85) C dX5_digest_85 rfl ?_
    refine z_aload_n (k := 0) (pc := 86) C dX5_digest_86 rfl ?_
    obtain ⟨r27, g27, hM⟩ := Option.bind_eq_some_iff.mp hM
    refine z_getI (pc := 87) (k := 3) C g27 rfl inlX5 (by decide) q_291 (fun _ h9 => h9) dX5_digest_87 ?_
    refine z_icmp_ge (pc := 90) (tgt := 129) C dX5_digest_90 (by decide) hM (fun hc44 hM => ?_) (fun hc44 hM => ?_)
    · refine z_iconst (v := (0 : Int32)) (pc := 129) C dX5_digest_129 (by decide) ?_
      refine z_istore_n (lv' := [(3, .int (0 : Int32)), (0, .ref a0), (1, .long X1_26)]) (pc := 130) C dX5_digest_130 (by decide) rfl ?_
      refine z_sub [1, 2, 0] rfl (zl2 (fun (X1_28 : Int64) (x3_28 : Int32) => [(0, .ref a0), (1, .long X1_28), (3, .int x3_28)]) (fun (X1_28 : Int64) (x3_28 : Int32) => r23.2.1) (fun (X1_28 : Int64) (x3_28 : Int32) => r23.2.2) hM (fun rec28 irec28 X1_28 x3_28 hM => ?_))
      refine z_iload_n (k := 2) (pc := 131) C dX5_digest_131 rfl ?_
      refine z_bipush (v := (24 : Int32)) (pc := 132) C dX5_digest_132 (by decide) ?_
      refine z_icmp_ge (pc := 134) (tgt := 221) C dX5_digest_134 (by decide) hM (fun hc39 hM => ?_) (fun hc39 hM => ?_)
      · refine z_lload_n (k := 1) (pc := 221) C dX5_digest_221 rfl ?_
        cases hM
        exact z_lret (pc := 222) C rfl (Nat.le_of_ble_eq_true rfl) (Nat.le_of_ble_eq_true rfl) dX5_digest_222
      · refine z_iconst (v := (0 : Int32)) (pc := 137) C dX5_digest_137 (by decide) ?_
        refine z_istore (lv' := [(4, .int (0 : Int32)), (0, .ref a0), (1, .long X1_28), (3, .int x3_28)]) (pc := 138) C dX5_digest_138 (by decide) rfl ?_
        refine z_sub [1, 2, 3, 0] rfl (zl2 (fun (X1_29 : Int64) (x4_29 : Int32) => [(0, .ref a0), (1, .long X1_29), (3, .int x3_28), (4, .int x4_29)]) (fun (X1_29 : Int64) (x4_29 : Int32) => r23.2.1) (fun (X1_29 : Int64) (x4_29 : Int32) => r23.2.2) hM (fun rec29 irec29 X1_29 x4_29 hM => ?_))
        refine z_iload (k := 3) (pc := 140) C dX5_digest_140 rfl ?_
        refine z_iconst (v := (3 : Int32)) (pc := 142) C dX5_digest_142 (by decide) ?_
        refine z_icmp_gt (pc := 143) (tgt := 167) C dX5_digest_143 (by decide) hM (fun hc38 hM => ?_) (fun hc38 hM => ?_)
        · refine z_iconst (v := (0 : Int32)) (pc := 167) C dX5_digest_167 (by decide) ?_
          refine z_istore (lv' := [(4, .int (0 : Int32)), (0, .ref a0), (1, .long X1_29), (3, .int x3_28)]) (pc := 168) C dX5_digest_168 (by decide) rfl ?_
          refine z_sub [1, 2, 3, 0] rfl (zl2 (fun (X1_30 : Int64) (x4_30 : Int32) => [(0, .ref a0), (1, .long X1_30), (3, .int x3_28), (4, .int x4_30)]) (fun (X1_30 : Int64) (x4_30 : Int32) => r23.2.1) (fun (X1_30 : Int64) (x4_30 : Int32) => r23.2.2) hM (fun rec30 irec30 X1_30 x4_30 hM => ?_))
          refine z_iload (k := 3) (pc := 170) C dX5_digest_170 rfl ?_
          refine z_bipush (v := (24 : Int32)) (pc := 172) C dX5_digest_172 (by decide) ?_
          refine z_icmp_ge (pc := 174) (tgt := 215) C dX5_digest_174 (by decide) hM (fun hc35 hM => ?_) (fun hc35 hM => ?_)
          · refine z_iinc (k := 2) (v := (x3_28 + (1 : Int32))) (lv' := [(3, .int (x3_28 + (1 : Int32))), (0, .ref a0), (1, .long X1_30), (4, .int x4_30)]) (pc := 215) C dX5_digest_215 rfl (by first | rfl | decide) (by decide) rfl ?_
            refine z_goto (pc := 218) (tgt := 131) C dX5_digest_218 (by decide) ?_
            exact z_sub [1, 2, 0] rfl (irec28 X1_30 (x3_28 + (1 : Int32)) hM)
          · refine z_iconst (v := (0 : Int32)) (pc := 177) C dX5_digest_177 (by decide) ?_
            refine z_istore (lv' := [(5, .int (0 : Int32)), (0, .ref a0), (1, .long X1_30), (3, .int x3_28), (4, .int x4_30)]) (pc := 178) C dX5_digest_178 (by decide) rfl ?_
            refine z_sub [1, 2, 3, 4, 0] rfl (zl2 (fun (X1_31 : Int64) (x5_31 : Int32) => [(0, .ref a0), (1, .long X1_31), (3, .int x3_28), (4, .int x4_30), (5, .int x5_31)]) (fun (X1_31 : Int64) (x5_31 : Int32) => r23.2.1) (fun (X1_31 : Int64) (x5_31 : Int32) => r23.2.2) hM (fun rec31 irec31 X1_31 x5_31 hM => ?_))
            refine z_iload (k := 4) (pc := 180) C dX5_digest_180 rfl ?_
            refine z_iconst (v := (2 : Int32)) (pc := 182) C dX5_digest_182 (by decide) ?_
            refine z_icmp_gt (pc := 183) (tgt := 209) C dX5_digest_183 (by decide) hM (fun hc34 hM => ?_) (fun hc34 hM => ?_)
            · refine z_iinc (k := 3) (v := (x4_30 + (1 : Int32))) (lv' := [(4, .int (x4_30 + (1 : Int32))), (0, .ref a0), (1, .long X1_31), (3, .int x3_28), (5, .int x5_31)]) (pc := 209) C dX5_digest_209 rfl (by first | rfl | decide) (by decide) rfl ?_
              refine z_goto (pc := 212) (tgt := 170) C dX5_digest_212 (by decide) ?_
              exact z_sub [1, 2, 3, 0] rfl (irec30 X1_31 (x4_30 + (1 : Int32)) hM)
            · refine z_lload_n (k := 1) (pc := 186) C dX5_digest_186 rfl ?_
              refine z_ldc2 (V := (31 : Int64)) (pc := 187) C dX5_digest_187 q_745 ?_
              refine z_lmul (pc := 190) C dX5_digest_190 ?_
              refine z_aload_n (k := 0) (pc := 191) C dX5_digest_191 rfl ?_
              refine z_iload_n (k := 2) (pc := 192) C dX5_digest_192 rfl ?_
              refine z_iload (k := 3) (pc := 193) C dX5_digest_193 rfl ?_
              refine z_iload (k := 4) (pc := 195) C dX5_digest_195 rfl ?_
              obtain ⟨_, g32, hM⟩ := Option.bind_eq_some_iff.mp hM
              obtain ⟨r33, g33, hM⟩ := Option.bind_eq_some_iff.mp hM
              refine z_goN (kc := 22) (ks := 572) ([.int r33, .long (X1_31 * (31 : Int64))]) (z_callV (pc := 197) (As := [.int x3_28, .int x4_30, .int x5_31]) (rest := [.long (X1_31 * (31 : Int64))]) (n := 3) (ci := 6) C (c_X5_cellTold l hl G lo t0 r23.2.1 r23.2.2 a0 x3_28 x4_30 x5_31 r33 g33) g32 rfl q_558 q_559 q_560 q_5 q_561 ⟨rfl, by decide +kernel, by decide +kernel, by decide +kernel⟩ ⟨Nat.le_of_ble_eq_true rfl, Nat.le_of_ble_eq_true rfl⟩ rfl (Nat.le_of_ble_eq_true rfl) dX5_digest_197 ⟨(Nat.le_of_ble_eq_true rfl), (Nat.le_of_ble_eq_true rfl)⟩) rfl (Nat.le_of_ble_eq_true rfl) (Nat.le_of_ble_eq_true rfl) ?_
              refine z_i2l (pc := 200) C dX5_digest_200 ?_
              refine z_ladd (pc := 201) C dX5_digest_201 ?_
              refine z_lstore_n (lv' := [(1, .long ((X1_31 * (31 : Int64)) + r33.toInt64)), (0, .ref a0), (3, .int x3_28), (4, .int x4_30), (5, .int x5_31)]) (pc := 202) C dX5_digest_202 (by decide) rfl ?_
              refine z_iinc (k := 4) (v := (x5_31 + (1 : Int32))) (lv' := [(5, .int (x5_31 + (1 : Int32))), (1, .long ((X1_31 * (31 : Int64)) + r33.toInt64)), (0, .ref a0), (3, .int x3_28), (4, .int x4_30)]) (pc := 203) C dX5_digest_203 rfl (by first | rfl | decide) (by decide) rfl ?_
              refine z_goto (pc := 206) (tgt := 180) C dX5_digest_206 (by decide) ?_
              exact z_sub [2, 1, 3, 4, 0] rfl (irec31 ((X1_31 * (31 : Int64)) + r33.toInt64) (x5_31 + (1 : Int32)) hM)
        · refine z_lload_n (k := 1) (pc := 146) C dX5_digest_146 rfl ?_
          refine z_ldc2 (V := (31 : Int64)) (pc := 147) C dX5_digest_147 q_745 ?_
          refine z_lmul (pc := 150) C dX5_digest_150 ?_
          refine z_aload_n (k := 0) (pc := 151) C dX5_digest_151 rfl ?_
          refine z_iload_n (k := 2) (pc := 152) C dX5_digest_152 rfl ?_
          refine z_iload (k := 3) (pc := 153) C dX5_digest_153 rfl ?_
          obtain ⟨_, g36, hM⟩ := Option.bind_eq_some_iff.mp hM
          obtain ⟨r37, g37, hM⟩ := Option.bind_eq_some_iff.mp hM
          refine z_goN (kc := 22) (ks := 572) ([.int r37, .long (X1_29 * (31 : Int64))]) (z_callV (pc := 155) (As := [.int x3_28, .int x4_29]) (rest := [.long (X1_29 * (31 : Int64))]) (n := 2) (ci := 6) C (c_X5_cordTold l hl G lo t0 r23.2.1 r23.2.2 a0 x3_28 x4_29 r37 g37) g36 rfl q_590 q_591 q_592 q_5 q_593 ⟨rfl, by decide +kernel, by decide +kernel, by decide +kernel⟩ ⟨Nat.le_of_ble_eq_true rfl, Nat.le_of_ble_eq_true rfl⟩ rfl (Nat.le_of_ble_eq_true rfl) dX5_digest_155 ⟨(Nat.le_of_ble_eq_true rfl), (Nat.le_of_ble_eq_true rfl)⟩) rfl (Nat.le_of_ble_eq_true rfl) (Nat.le_of_ble_eq_true rfl) ?_
          refine z_i2l (pc := 158) C dX5_digest_158 ?_
          refine z_ladd (pc := 159) C dX5_digest_159 ?_
          refine z_lstore_n (lv' := [(1, .long ((X1_29 * (31 : Int64)) + r37.toInt64)), (0, .ref a0), (3, .int x3_28), (4, .int x4_29)]) (pc := 160) C dX5_digest_160 (by decide) rfl ?_
          refine z_iinc (k := 3) (v := (x4_29 + (1 : Int32))) (lv' := [(4, .int (x4_29 + (1 : Int32))), (1, .long ((X1_29 * (31 : Int64)) + r37.toInt64)), (0, .ref a0), (3, .int x3_28)]) (pc := 161) C dX5_digest_161 rfl (by first | rfl | decide) (by decide) rfl ?_
          refine z_goto (pc := 164) (tgt := 140) C dX5_digest_164 (by decide) ?_
          exact z_sub [2, 1, 3, 0] rfl (irec29 ((X1_29 * (31 : Int64)) + r37.toInt64) (x4_29 + (1 : Int32)) hM)
    · refine z_iconst (v := (0 : Int32)) (pc := 93) C dX5_digest_93 (by decide) ?_
      refine z_istore (lv' := [(4, .int (0 : Int32)), (0, .ref a0), (1, .long X1_26), (3, .int x3_26)]) (pc := 94) C dX5_digest_94 (by decide) rfl ?_
      refine z_sub [1, 2, 3, 0] rfl (zl2 (fun (X1_40 : Int64) (x4_40 : Int32) => [(0, .ref a0), (1, .long X1_40), (3, .int x3_26), (4, .int x4_40)]) (fun (X1_40 : Int64) (x4_40 : Int32) => r23.2.1) (fun (X1_40 : Int64) (x4_40 : Int32) => r23.2.2) hM (fun rec40 irec40 X1_40 x4_40 hM => ?_))
      refine z_iload (k := 3) (pc := 96) C dX5_digest_96 rfl ?_
      refine z_iconst (v := (3 : Int32)) (pc := 98) C dX5_digest_98 (by decide) ?_
      refine z_icmp_gt (pc := 99) (tgt := 123) C dX5_digest_99 (by decide) hM (fun hc43 hM => ?_) (fun hc43 hM => ?_)
      · refine z_iinc (k := 2) (v := (x3_26 + (1 : Int32))) (lv' := [(3, .int (x3_26 + (1 : Int32))), (0, .ref a0), (1, .long X1_40), (4, .int x4_40)]) (pc := 123) C dX5_digest_123 rfl (by first | rfl | decide) (by decide) rfl ?_
        refine z_goto (pc := 126) (tgt := 85) C dX5_digest_126 (by decide) ?_
        exact z_sub [1, 2, 0] rfl (irec26 X1_40 (x3_26 + (1 : Int32)) hM)
      · refine z_lload_n (k := 1) (pc := 102) C dX5_digest_102 rfl ?_
        refine z_ldc2 (V := (31 : Int64)) (pc := 103) C dX5_digest_103 q_745 ?_
        refine z_lmul (pc := 106) C dX5_digest_106 ?_
        refine z_aload_n (k := 0) (pc := 107) C dX5_digest_107 rfl ?_
        refine z_iload_n (k := 2) (pc := 108) C dX5_digest_108 rfl ?_
        refine z_iload (k := 3) (pc := 109) C dX5_digest_109 rfl ?_
        obtain ⟨_, g41, hM⟩ := Option.bind_eq_some_iff.mp hM
        obtain ⟨r42, g42, hM⟩ := Option.bind_eq_some_iff.mp hM
        refine z_goN (kc := 22) (ks := 572) ([.int r42, .long (X1_40 * (31 : Int64))]) (z_callV (pc := 111) (As := [.int x3_26, .int x4_40]) (rest := [.long (X1_40 * (31 : Int64))]) (n := 2) (ci := 6) C (c_X5_stallTold l hl G lo t0 r23.2.1 r23.2.2 a0 x3_26 x4_40 r42 g42) g41 rfl q_331 q_332 q_333 q_5 q_334 ⟨rfl, by decide +kernel, by decide +kernel, by decide +kernel⟩ ⟨Nat.le_of_ble_eq_true rfl, Nat.le_of_ble_eq_true rfl⟩ rfl (Nat.le_of_ble_eq_true rfl) dX5_digest_111 ⟨(Nat.le_of_ble_eq_true rfl), (Nat.le_of_ble_eq_true rfl)⟩) rfl (Nat.le_of_ble_eq_true rfl) (Nat.le_of_ble_eq_true rfl) ?_
        refine z_i2l (pc := 114) C dX5_digest_114 ?_
        refine z_ladd (pc := 115) C dX5_digest_115 ?_
        refine z_lstore_n (lv' := [(1, .long ((X1_40 * (31 : Int64)) + r42.toInt64)), (0, .ref a0), (3, .int x3_26), (4, .int x4_40)]) (pc := 116) C dX5_digest_116 (by decide) rfl ?_
        refine z_iinc (k := 3) (v := (x4_40 + (1 : Int32))) (lv' := [(4, .int (x4_40 + (1 : Int32))), (1, .long ((X1_40 * (31 : Int64)) + r42.toInt64)), (0, .ref a0), (3, .int x3_26)]) (pc := 117) C dX5_digest_117 rfl (by first | rfl | decide) (by decide) rfl ?_
        refine z_goto (pc := 120) (tgt := 96) C dX5_digest_120 (by decide) ?_
        exact z_sub [2, 1, 3, 0] rfl (irec40 ((X1_40 * (31 : Int64)) + r42.toInt64) (x4_40 + (1 : Int32)) hM)
  · refine z_iconst (v := (0 : Int32)) (pc := 46) C dX5_digest_46 (by decide) ?_
    refine z_istore (lv' := [(4, .int (0 : Int32)), (0, .ref a0), (1, .long X1_24), (3, .int x3_24)]) (pc := 47) C dX5_digest_47 (by decide) rfl ?_
    refine z_sub [1, 2, 3, 0] rfl (zl2 (fun (X1_45 : Int64) (x4_45 : Int32) => [(0, .ref a0), (1, .long X1_45), (3, .int x3_24), (4, .int x4_45)]) (fun (X1_45 : Int64) (x4_45 : Int32) => r23.2.1) (fun (X1_45 : Int64) (x4_45 : Int32) => r23.2.2) hM (fun rec45 irec45 X1_45 x4_45 hM => ?_))
    refine z_iload (k := 3) (pc := 49) C dX5_digest_49 rfl ?_
    refine z_bipush (v := (8 : Int32)) (pc := 51) C dX5_digest_51 (by decide) ?_
    refine z_icmp_gt (pc := 53) (tgt := 77) C dX5_digest_53 (by decide) hM (fun hc48 hM => ?_) (fun hc48 hM => ?_)
    · refine z_iinc (k := 2) (v := (x3_24 + (1 : Int32))) (lv' := [(3, .int (x3_24 + (1 : Int32))), (0, .ref a0), (1, .long X1_45), (4, .int x4_45)]) (pc := 77) C dX5_digest_77 rfl (by first | rfl | decide) (by decide) rfl ?_
      refine z_goto (pc := 80) (tgt := 38) C dX5_digest_80 (by decide) ?_
      exact z_sub [1, 2, 0] rfl (irec24 X1_45 (x3_24 + (1 : Int32)) hM)
    · refine z_lload_n (k := 1) (pc := 56) C dX5_digest_56 rfl ?_
      refine z_ldc2 (V := (31 : Int64)) (pc := 57) C dX5_digest_57 q_745 ?_
      refine z_lmul (pc := 60) C dX5_digest_60 ?_
      refine z_aload_n (k := 0) (pc := 61) C dX5_digest_61 rfl ?_
      refine z_iload_n (k := 2) (pc := 62) C dX5_digest_62 rfl ?_
      refine z_iload (k := 3) (pc := 63) C dX5_digest_63 rfl ?_
      obtain ⟨_, g46, hM⟩ := Option.bind_eq_some_iff.mp hM
      obtain ⟨r47, g47, hM⟩ := Option.bind_eq_some_iff.mp hM
      refine z_goN (kc := 22) (ks := 572) ([.int r47, .long (X1_45 * (31 : Int64))]) (z_callV (pc := 65) (As := [.int x3_24, .int x4_45]) (rest := [.long (X1_45 * (31 : Int64))]) (n := 2) (ci := 6) C (c_X5_awningTold l hl G lo t0 r23.2.1 r23.2.2 a0 x3_24 x4_45 r47 g47) g46 rfl q_537 q_538 q_539 q_5 q_540 ⟨rfl, by decide +kernel, by decide +kernel, by decide +kernel⟩ ⟨Nat.le_of_ble_eq_true rfl, Nat.le_of_ble_eq_true rfl⟩ rfl (Nat.le_of_ble_eq_true rfl) dX5_digest_65 ⟨(Nat.le_of_ble_eq_true rfl), (Nat.le_of_ble_eq_true rfl)⟩) rfl (Nat.le_of_ble_eq_true rfl) (Nat.le_of_ble_eq_true rfl) ?_
      refine z_i2l (pc := 68) C dX5_digest_68 ?_
      refine z_ladd (pc := 69) C dX5_digest_69 ?_
      refine z_lstore_n (lv' := [(1, .long ((X1_45 * (31 : Int64)) + r47.toInt64)), (0, .ref a0), (3, .int x3_24), (4, .int x4_45)]) (pc := 70) C dX5_digest_70 (by decide) rfl ?_
      refine z_iinc (k := 3) (v := (x4_45 + (1 : Int32))) (lv' := [(4, .int (x4_45 + (1 : Int32))), (1, .long ((X1_45 * (31 : Int64)) + r47.toInt64)), (0, .ref a0), (3, .int x3_24)]) (pc := 71) C dX5_digest_71 rfl (by first | rfl | decide) (by decide) rfl ?_
      refine z_goto (pc := 74) (tgt := 49) C dX5_digest_74 (by decide) ?_
      exact z_sub [2, 1, 3, 0] rfl (irec45 ((X1_45 * (31 : Int64)) + r47.toInt64) (x4_45 + (1 : Int32)) hM)
