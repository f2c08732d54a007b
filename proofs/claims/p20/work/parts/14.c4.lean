/-! by program out of the bytecode (wip/whole/gen.py): the mirrors, then the walks -/
noncomputable def M_X4_init (h : zH) (nx : Nat) (t0 : Nat) (a0 : Nat) : Option (zH × Nat) := (M_X1_init (z_up h nx (zO 2 [.null, .null, .null, .null, .int 0])) (nx + 1) t0 nx).bind fun r1 => (z_pV r1.1 a0 5 0 (.ref nx)).bind fun h_2 => (z_gR (z_up h_2 r1.2 (zO 3 [.null, .null, .null, .int 0, .int 0])) a0 5 0).bind fun r3 => (M_X2_init (z_up h_2 r1.2 (zO 3 [.null, .null, .null, .int 0, .int 0])) (r1.2 + 1) r1.2 r3).bind fun r4 => (z_pV r4.1 a0 5 1 (.ref r1.2)).bind fun h_5 => (M_Jx4a65c_init_da8c8 (z_up h_5 r4.2 (zO 0 [.int 0, .null, .int 0])) t0 r4.2).bind fun r6 => (z_pV r6 a0 5 2 (.ref r4.2)).bind fun h_7 => (z_pV (z_up h_7 (r4.2 + 1) (zI 576 (fun _ => 0))) a0 5 3 (.ref (r4.2 + 1))).bind fun h_8 => (z_pV h_8 a0 5 4 (.int (0 : Int32))).bind fun h_9 => (z_pV h_9 a0 5 5 (.int (0 : Int32))).bind fun h_10 => (z_pV h_10 a0 5 6 (.int (0 : Int32))).bind fun h_11 => (some (h_11, ((r4.2 + 1) + 1)))
noncomputable def M_X4_requireExtent (x0 : Int32) (x1 : Int32) : Option (String ⊕ (Unit)) := (if x0 < (1 : Int32) then (some (.inl "java/lang/IllegalArgumentException")) else (if (24 : Int32) < x0 then (some (.inl "java/lang/IllegalArgumentException")) else (if x1 < (1 : Int32) then (some (.inl "java/lang/IllegalArgumentException")) else (if x1 ≤ (24 : Int32) then (some (.inr ())) else (some (.inl "java/lang/IllegalArgumentException"))))))
noncomputable def M_X4_requireRoomInSquare (x0 : Int32) (x1 : Int32) (x2 : Int32) (x3 : Int32) : Option (String ⊕ (Unit)) := (if x0 < 0 then (some (.inl "java/lang/IndexOutOfBoundsException")) else (if x1 < 0 then (some (.inl "java/lang/IndexOutOfBoundsException")) else (if ((24 : Int32) - x2) < x0 then (some (.inl "java/lang/IndexOutOfBoundsException")) else (if x1 ≤ ((24 : Int32) - x3) then (some (.inr ())) else (some (.inl "java/lang/IndexOutOfBoundsException"))))))
noncomputable def M_X4_hang (h : zH) (nx : Nat) (t0 : Nat) (a0 : Nat) (x1 : Int32) (x2 : Int32) (x3 : Int32) (x4 : Int32) (x5 : Int32) (x6 : Int32) : Option (String ⊕ (Int32 × zH × Nat)) := z_tb (M_X4_requireExtent x3 x4) fun r1 => (if x5 < (1 : Int32) then (some (.inl "java/lang/IllegalArgumentException")) else (if x5 ≤ (9 : Int32) then (if x6 < 0 then (some (.inl "java/lang/IllegalArgumentException")) else (if x6 ≤ (3 : Int32) then z_tb (M_X4_requireRoomInSquare x1 x2 x3 x4) fun r2 => (z_gR h a0 5 0).bind fun r3 => (z_ck h r3 2).bind fun _ => (M_X1_size h r3).bind fun r5 => (if r5 < (10 : Int32) then (z_gR h a0 5 0).bind fun r6 => (M_X0_init (z_up h nx (zO 1 [.int 0, .int 0, .int 0, .int 0, .int 0, .int 0, .int 0, .int 0])) nx x1 x2 x3 x4 x5 x6).bind fun r7 => (z_ck r7 r6 2).bind fun _ => (M_X1_append r7 (nx + 1) t0 r6 nx).bind fun r9 => (z_gR r9.1 a0 5 0).bind fun r10 => (z_ck r9.1 r10 2).bind fun _ => (M_X1_size r9.1 r10).bind fun r12 => (some (.inr ((r12 - (1 : Int32)), r9.1, r9.2))) else (some (.inl "java/lang/IllegalStateException"))) else (some (.inl "java/lang/IllegalArgumentException")))) else (some (.inl "java/lang/IllegalArgumentException"))))
noncomputable def M_X4_roll (h : zH) (a0 : Nat) (x1 : Int32) : Option (String ⊕ (Int32 × zH)) := (z_gR h a0 5 0).bind fun r1 => (z_ck h r1 2).bind fun _ => z_tb (M_X1_numbered h r1 x1) fun r3 => (z_gI h r3 1 6).bind fun r4 => jn2 (fun (b0_5 : Nat) (s1_5 : Int32) => (if s1_5 = 0 ∨ s1_5 = 1 then (z_pV h b0_5 1 6 (.int s1_5)).bind fun h_7 => (z_gR h_7 a0 5 0).bind fun r8 => (z_ck h_7 r8 2).bind fun _ => (M_X1_layOut h_7 r8).bind fun r10 => (z_gI r10 r3 1 6).bind fun r11 => (if r11 = 0 ∨ r11 = 1 then (some (.inr (r11, r10))) else none) else none)) fun J5 => (if r4 = 0 then (J5 r3 (1 : Int32)) else (J5 r3 (0 : Int32)))
noncomputable def M_X4_move (h : zH) (a0 : Nat) (x1 : Int32) (x2 : Int32) (x3 : Int32) : Option (String ⊕ (Int32 × zH)) := (z_gR h a0 5 0).bind fun r1 => (z_ck h r1 2).bind fun _ => z_tb (M_X1_numbered h r1 x1) fun r3 => (z_gI h r3 1 2).bind fun r4 => (z_gI h r3 1 3).bind fun r5 => z_tb (M_X4_requireRoomInSquare x2 x3 r4 r5) fun r6 => (z_pV h r3 1 0 (.int x2)).bind fun h_7 => (z_pV h_7 r3 1 1 (.int x3)).bind fun h_8 => (z_gR h_8 a0 5 0).bind fun r9 => (z_ck h_8 r9 2).bind fun _ => (M_X1_layOut h_8 r9).bind fun r11 => (z_gR r11 a0 5 0).bind fun r12 => (z_ck r11 r12 2).bind fun _ => (M_X1_covered r11 r12).bind fun r14 => (some (.inr (r14, r11)))
noncomputable def M_X4_take (h : zH) (a0 : Nat) (x1 : Int32) : Option (String ⊕ (Int32 × zH)) := (z_gR h a0 5 0).bind fun r1 => (z_ck h r1 2).bind fun _ => z_tb (M_X1_drop h r1 x1) fun r3 => (z_gR r3 a0 5 0).bind fun r4 => (z_ck r3 r4 2).bind fun _ => (M_X1_size r3 r4).bind fun r6 => (some (.inr (r6, r3)))
noncomputable def M_X4_requireCell (x0 : Int32) (x1 : Int32) : Option (String ⊕ (Unit)) := (M_X4_isCell x0 x1).bind fun r1 => (if r1 = 0 then (some (.inl "java/lang/IndexOutOfBoundsException")) else (some (.inr ())))
noncomputable def M_X4_hasStallAt (h : zH) (a0 : Nat) (x1 : Int32) (x2 : Int32) : Option (Int32) := wl1 (fun rec1 (x3_1 : Int32) => (z_gR h a0 5 2).bind fun r2 => (z_ck h r2 0).bind fun _ => (M_Jx4a65c_size_8abf5 h r2).bind fun r4 => (if r4 ≤ x3_1 then (some (0 : Int32)) else (z_gR h a0 5 2).bind fun r5 => (z_ck h r5 0).bind fun _ => (M_Jx4a65c_get_915e3 h r5 x3_1).bind fun r7 => (z_ck h r7 4).bind fun _ => (z_gI h r7 4 0).bind fun r9 => jn0 ((rec1 (x3_1 + (1 : Int32)))) fun J10 => (if r9 = x1 then (z_gI h r7 4 1).bind fun r11 => (if r11 = x2 then (some (1 : Int32)) else J10) else J10))) 700 (0 : Int32)
noncomputable def M_X4_groundAt (h : zH) (a0 : Nat) (x1 : Int32) (x2 : Int32) : Option (Int32) := (M_X4_isCell x1 x2).bind fun r1 => (if r1 = 0 then (some (0 : Int32)) else (z_gR h a0 5 3).bind fun r2 => (z_aI h r2 ((x2 * (24 : Int32)) + x1)).bind fun r3 => (some r3))
noncomputable def M_X4_stall (h : zH) (nx : Nat) (t0 : Nat) (a0 : Nat) (x1 : Int32) (x2 : Int32) : Option (String ⊕ (Int32 × zH × Nat)) := z_tb (M_X4_requireCell x1 x2) fun r1 => (z_gR h a0 5 2).bind fun r2 => (z_ck h r2 0).bind fun _ => (M_Jx4a65c_size_8abf5 h r2).bind fun r4 => (if r4 < (8 : Int32) then (z_ck h a0 5).bind fun _ => (M_X4_hasStallAt h a0 x1 x2).bind fun r6 => (if r6 = 0 then (z_gR h a0 5 2).bind fun r7 => (z_ck (z_up h nx (zO 4 [.int 0, .int 0, .int 0])) a0 5).bind fun _ => (M_X4_groundAt (z_up h nx (zO 4 [.int 0, .int 0, .int 0])) a0 x1 x2).bind fun r9 => (M_X3_init (z_up h nx (zO 4 [.int 0, .int 0, .int 0])) nx x1 x2 r9).bind fun r10 => (z_ck r10 r7 0).bind fun _ => (M_Jx4a65c_add_9ea2d r10 (nx + 1) t0 r7 nx).bind fun r12 => (z_gR r12.2.1 a0 5 2).bind fun r13 => (z_ck r12.2.1 r13 0).bind fun _ => (M_Jx4a65c_size_8abf5 r12.2.1 r13).bind fun r15 => (some (.inr ((r15 - (1 : Int32)), r12.2.1, r12.2.2))) else (some (.inl "java/lang/IllegalStateException"))) else (some (.inl "java/lang/IllegalStateException")))
noncomputable def M_X4_requireDrops (x0 : Int32) : Option (String ⊕ (Unit)) := (if x0 < (1 : Int32) then (some (.inl "java/lang/IllegalArgumentException")) else (if x0 ≤ (20 : Int32) then (some (.inr ())) else (some (.inl "java/lang/IllegalArgumentException"))))
noncomputable def M_X4_rain (h : zH) (a0 : Nat) (x1 : Int32) : Option (String ⊕ (Int32 × zH)) := z_tb (M_X4_requireDrops x1) fun r1 => (z_gR h a0 5 1).bind fun r2 => (z_ck h r2 3).bind fun _ => (M_X2_pour h r2 x1).bind fun r4 => wl2 (fun rec5 (x2_5 : Int32) (h_5 : zH) => (if (24 : Int32) ≤ x2_5 then wl2 (fun rec6 (x2_6 : Int32) (h_6 : zH) => (z_gR h_6 a0 5 0).bind fun r7 => (z_ck h_6 r7 2).bind fun _ => (M_X1_size h_6 r7).bind fun r9 => (if r9 ≤ x2_6 then (z_gI h_6 a0 5 4).bind fun r10 => (z_pV h_6 a0 5 4 (.int (r10 + (1 : Int32)))).bind fun h_11 => (z_gI h_11 a0 5 5).bind fun r12 => (z_gR h_11 a0 5 1).bind fun r13 => (z_gI h_11 r13 3 3).bind fun r14 => (z_pV h_11 a0 5 5 (.int (r12 + r14))).bind fun h_15 => (z_gI h_15 a0 5 6).bind fun r16 => (z_gR h_15 a0 5 1).bind fun r17 => (z_gI h_15 r17 3 4).bind fun r18 => (z_pV h_15 a0 5 6 (.int (r16 + r18))).bind fun h_19 => (z_gR h_19 a0 5 1).bind fun r20 => (z_gI h_19 r20 3 3).bind fun r21 => (some (.inr (r21, h_19))) else (z_gR h_6 a0 5 0).bind fun r22 => (z_ck h_6 r22 2).bind fun _ => z_tn (M_X1_numbered h_6 r22 x2_6) fun r24 => (z_gI h_6 r24 1 7).bind fun r25 => (z_gR h_6 a0 5 1).bind fun r26 => (z_ck h_6 r26 3).bind fun _ => (M_X2_caughtBy h_6 r26 x2_6).bind fun r28 => (z_pV h_6 r24 1 7 (.int (r25 + r28))).bind fun h_29 => (rec6 (x2_6 + (1 : Int32)) h_29))) 700 (0 : Int32) h_5 else wl2 (fun rec31 (x3_31 : Int32) (h_31 : zH) => (if (24 : Int32) ≤ x3_31 then (rec5 (x2_5 + (1 : Int32)) h_31) else (z_gR h_31 a0 5 3).bind fun r32 => (z_aI h_31 r32 ((x2_5 * (24 : Int32)) + x3_31)).bind fun r33 => (z_gR h_31 a0 5 1).bind fun r34 => (z_ck h_31 r34 3).bind fun _ => (M_X2_fallenAt h_31 r34 x3_31 x2_5).bind fun r36 => (z_sI h_31 r32 ((x2_5 * (24 : Int32)) + x3_31) (r33 + r36)).bind fun h_37 => (rec31 (x3_31 + (1 : Int32)) h_37))) 700 (0 : Int32) h_5)) 700 (0 : Int32) r4
noncomputable def M_X4_requireWhat (x0 : Int32) (x1 : Int32) : Option (String ⊕ (Unit)) := (if x0 < 0 then (some (.inl "java/lang/IndexOutOfBoundsException")) else (if x0 ≤ x1 then (some (.inr ())) else (some (.inl "java/lang/IndexOutOfBoundsException"))))
noncomputable def M_X4_about (h : zH) (a0 : Nat) (x1 : Int32) (x2 : Int32) : Option (String ⊕ (Int32)) := (z_gR h a0 5 0).bind fun r1 => (z_ck h r1 2).bind fun _ => z_tb (M_X1_numbered h r1 x1) fun r3 => z_tb (M_X4_requireWhat x2 (8 : Int32)) fun r4 => (if x2 = 0 then (z_gI h r3 1 0).bind fun r6 => (some (.inr r6)) else (if x2 = 1 then (z_gI h r3 1 1).bind fun r8 => (some (.inr r8)) else (if x2 = 2 then (z_gI h r3 1 2).bind fun r10 => (some (.inr r10)) else (if x2 = 3 then (z_gI h r3 1 3).bind fun r12 => (some (.inr r12)) else (if x2 = 4 then (z_gI h r3 1 4).bind fun r14 => (some (.inr r14)) else (if x2 = 5 then (z_gI h r3 1 5).bind fun r16 => (some (.inr r16)) else (if x2 = 6 then (z_gI h r3 1 6).bind fun r18 => (if r18 = 0 then (some (.inr (0 : Int32))) else (some (.inr (1 : Int32)))) else (if x2 = 7 then (z_gR h a0 5 0).bind fun r21 => (z_ck h r21 2).bind fun _ => (M_X1_coveredOnlyBy h r21 r3).bind fun r23 => (some (.inr r23)) else (z_gI h r3 1 7).bind fun r24 => (some (.inr r24))))))))))
noncomputable def M_X4_cell (h : zH) (a0 : Nat) (x1 : Int32) (x2 : Int32) (x3 : Int32) : Option (String ⊕ (Int32)) := z_tb (M_X4_requireCell x1 x2) fun r1 => z_tb (M_X4_requireWhat x3 (2 : Int32)) fun r2 => (if x3 = 0 then (z_gR h a0 5 0).bind fun r4 => (z_ck h r4 2).bind fun _ => (M_X1_layersAt h r4 x1 x2).bind fun r6 => (some (.inr r6)) else (if x3 = 1 then (z_gR h a0 5 0).bind fun r8 => (z_ck h r8 2).bind fun _ => (M_X1_highestBelow h r8 (10 : Int32) x1 x2).bind fun r10 => (some (.inr r10)) else (z_ck h a0 5).bind fun _ => (M_X4_groundAt h a0 x1 x2).bind fun r12 => (some (.inr r12))))
noncomputable def M_X4_cord (h : zH) (a0 : Nat) (x1 : Int32) (x2 : Int32) : Option (String ⊕ (Int32)) := (if x1 < 0 then (some (.inl "java/lang/IndexOutOfBoundsException")) else (if x1 < (24 : Int32) then z_tb (M_X4_requireWhat x2 (3 : Int32)) fun r1 => (if x2 = 0 then (z_gR h a0 5 0).bind fun r3 => (z_ck h r3 2).bind fun _ => (M_X1_coveredInColumn h r3 x1).bind fun r5 => (some (.inr r5)) else (if x2 = 1 then (z_gR h a0 5 0).bind fun r7 => (z_ck h r7 2).bind fun _ => (M_X1_runsInColumn h r7 x1).bind fun r9 => (some (.inr r9)) else (if x2 = 2 then (z_gR h a0 5 0).bind fun r11 => (z_ck h r11 2).bind fun _ => (M_X1_longestRunInColumn h r11 x1).bind fun r13 => (some (.inr r13)) else (z_gR h a0 5 0).bind fun r14 => (z_ck h r14 2).bind fun _ => (M_X1_mostLayersInColumn h r14 x1).bind fun r16 => (some (.inr r16))))) else (some (.inl "java/lang/IndexOutOfBoundsException"))))
noncomputable def M_X4_numberedStall (h : zH) (a0 : Nat) (x1 : Int32) : Option (String ⊕ (Nat)) := (if x1 < 0 then (some (.inl "java/lang/IndexOutOfBoundsException")) else (z_gR h a0 5 2).bind fun r1 => (z_ck h r1 0).bind fun _ => (M_Jx4a65c_size_8abf5 h r1).bind fun r3 => (if x1 < r3 then (z_gR h a0 5 2).bind fun r4 => (z_ck h r4 0).bind fun _ => (M_Jx4a65c_get_915e3 h r4 x1).bind fun r6 => (z_ck h r6 4).bind fun _ => (some (.inr r6)) else (some (.inl "java/lang/IndexOutOfBoundsException"))))
noncomputable def M_X4_gotBy (h : zH) (a0 : Nat) (a1 : Nat) : Option (Int32) := (z_gI h a1 4 0).bind fun r1 => (z_gI h a1 4 1).bind fun r2 => (z_ck h a0 5).bind fun _ => (M_X4_groundAt h a0 r1 r2).bind fun r4 => (z_gI h a1 4 2).bind fun r5 => (some (r4 - r5))
noncomputable def M_X4_told (h : zH) (a0 : Nat) (x1 : Int32) (x2 : Int32) : Option (String ⊕ (Int32)) := (z_ck h a0 5).bind fun _ => z_tb (M_X4_numberedStall h a0 x1) fun r2 => z_tb (M_X4_requireWhat x2 (3 : Int32)) fun r3 => (if x2 = 0 then (z_gI h r2 4 0).bind fun r5 => (some (.inr r5)) else (if x2 = 1 then (z_gI h r2 4 1).bind fun r7 => (some (.inr r7)) else (if x2 = 2 then (M_X4_gotBy h a0 r2).bind fun r9 => (some (.inr r9)) else (z_gR h a0 5 0).bind fun r10 => (z_gI h r2 4 0).bind fun r11 => (z_gI h r2 4 1).bind fun r12 => (z_ck h r10 2).bind fun _ => (M_X1_layersAt h r10 r11 r12).bind fun r14 => (some (.inr r14)))))
noncomputable def M_X4_share (h : zH) (a0 : Nat) (x1 : Int32) (x2 : Int32) : Option (String ⊕ (Int32)) := (z_gR h a0 5 0).bind fun r1 => (z_ck h r1 2).bind fun _ => z_tb (M_X1_numbered h r1 x1) fun r3 => (z_gR h a0 5 0).bind fun r4 => (z_ck h r4 2).bind fun _ => z_tb (M_X1_numbered h r4 x2) fun r6 => (z_gI h r3 1 6).bind fun r7 => (if r7 = 0 then (some (.inr (0 : Int32))) else (z_gI h r6 1 6).bind fun r8 => (if r8 = 0 then (some (.inr (0 : Int32))) else (z_gI h r3 1 0).bind fun r9 => (z_gI h r3 1 2).bind fun r10 => (z_gI h r6 1 0).bind fun r11 => (z_gI h r6 1 2).bind fun r12 => (z_gI h r3 1 0).bind fun r13 => (z_gI h r6 1 0).bind fun r14 => (z_gI h r3 1 1).bind fun r15 => (z_gI h r3 1 3).bind fun r16 => (z_gI h r6 1 1).bind fun r17 => (z_gI h r6 1 3).bind fun r18 => (z_gI h r3 1 1).bind fun r19 => (z_gI h r6 1 1).bind fun r20 => jn0 ((some (.inr (0 : Int32)))) fun J21 => (if ((if (r11 + r12) < (r9 + r10) then (r11 + r12) else (r9 + r10)) - (if r13 < r14 then r14 else r13)) ≤ 0 then J21 else (if ((if (r17 + r18) < (r15 + r16) then (r17 + r18) else (r15 + r16)) - (if r19 < r20 then r20 else r19)) ≤ 0 then J21 else (some (.inr (((if (r11 + r12) < (r9 + r10) then (r11 + r12) else (r9 + r10)) - (if r13 < r14 then r14 else r13)) * ((if (r17 + r18) < (r15 + r16) then (r17 + r18) else (r15 + r16)) - (if r19 < r20 then r20 else r19)))))))))
noncomputable def M_X4_stallsNotCovered (h : zH) (a0 : Nat) : Option (Int32) := wl2 (fun rec1 (x1_1 : Int32) (x2_1 : Int32) => (z_gR h a0 5 2).bind fun r2 => (z_ck h r2 0).bind fun _ => (M_Jx4a65c_size_8abf5 h r2).bind fun r4 => (if r4 ≤ x2_1 then (some x1_1) else (z_gR h a0 5 2).bind fun r5 => (z_ck h r5 0).bind fun _ => (M_Jx4a65c_get_915e3 h r5 x2_1).bind fun r7 => (z_ck h r7 4).bind fun _ => (z_gR h a0 5 0).bind fun r9 => (z_gI h r7 4 0).bind fun r10 => (z_gI h r7 4 1).bind fun r11 => (z_ck h r9 2).bind fun _ => (M_X1_layersAt h r9 r10 r11).bind fun r13 => jn1 (fun (x1_14 : Int32) => (rec1 x1_14 (x2_1 + (1 : Int32)))) fun J14 => (if r13 = 0 then (J14 (x1_1 + (1 : Int32))) else (J14 x1_1)))) 700 (0 : Int32) (0 : Int32)
noncomputable def M_X4_count (h : zH) (a0 : Nat) (x1 : Int32) : Option (String ⊕ (Int32 × zH)) := z_tb (M_X4_requireWhat x1 (10 : Int32)) fun r1 => (if x1 = 0 then (z_gR h a0 5 0).bind fun r3 => (z_ck h r3 2).bind fun _ => (M_X1_size h r3).bind fun r5 => (some (.inr (r5, h))) else (if x1 = 1 then (z_gR h a0 5 0).bind fun r7 => (z_ck h r7 2).bind fun _ => (M_X1_sizeOut h r7).bind fun r9 => (some (.inr (r9, h))) else (if x1 = 2 then (z_gR h a0 5 2).bind fun r11 => (z_ck h r11 0).bind fun _ => (M_Jx4a65c_size_8abf5 h r11).bind fun r13 => (some (.inr (r13, h))) else (if x1 = 3 then (z_gR h a0 5 0).bind fun r15 => (z_ck h r15 2).bind fun _ => (M_X1_covered h r15).bind fun r17 => (some (.inr (r17, h))) else (if x1 = 4 then (z_gR h a0 5 0).bind fun r19 => (z_ck h r19 2).bind fun _ => (M_X1_outline h r19).bind fun r21 => (some (.inr (r21, h))) else (if x1 = 5 then (z_gR h a0 5 0).bind fun r23 => (z_ck h r23 2).bind fun _ => (M_X1_parts h r23).bind fun r25 => (some (.inr (r25.1, r25.2))) else (if x1 = 6 then (z_gR h a0 5 0).bind fun r27 => (z_ck h r27 2).bind fun _ => (M_X1_cellsWithLayers h r27 (2 : Int32)).bind fun r29 => (some (.inr (r29, h))) else (if x1 = 7 then (z_gI h a0 5 4).bind fun r31 => (some (.inr (r31, h))) else (if x1 = 8 then (z_gI h a0 5 5).bind fun r33 => (some (.inr (r33, h))) else (if x1 = 9 then (z_gI h a0 5 6).bind fun r35 => (some (.inr (r35, h))) else (z_ck h a0 5).bind fun _ => (M_X4_stallsNotCovered h a0).bind fun r37 => (some (.inr (r37, h)))))))))))))
noncomputable def M_X4_advise (h : zH) (a0 : Nat) : Option (Int32) := wl3 (fun rec1 (x1_1 : Int32) (x2_1 : Int32) (x3_1 : Int32) => (z_gR h a0 5 0).bind fun r2 => (z_ck h r2 2).bind fun _ => (M_X1_size h r2).bind fun r4 => (if r4 ≤ x3_1 then (some x1_1) else (z_gR h a0 5 0).bind fun r5 => (z_ck h r5 2).bind fun _ => z_tn (M_X1_numbered h r5 x3_1) fun r7 => (z_gI h r7 1 6).bind fun r8 => jn2 (fun (x1_9 : Int32) (x2_9 : Int32) => (rec1 x1_9 x2_9 (x3_1 + (1 : Int32)))) fun J9 => (if r8 = 0 then (J9 x1_1 x2_1) else (z_gR h a0 5 0).bind fun r10 => (z_ck h r10 2).bind fun _ => (M_X1_coveredOnlyBy h r10 r7).bind fun r12 => (if x2_1 ≤ r12 then (J9 x1_1 x2_1) else (J9 x3_1 r12))))) 700 (-1 : Int32) (577 : Int32) (0 : Int32)
noncomputable def M_X4_digestOfColumn (h : zH) (a0 : Nat) (X1 : Int64) (x3 : Int32) : Option (Int64) := wl2 (fun rec1 (X4_1 : Int64) (x6_1 : Int32) => (if (3 : Int32) < x6_1 then wl2 (fun rec2 (X4_2 : Int64) (x6_2 : Int32) => (if (24 : Int32) ≤ x6_2 then (some X4_2) else wl2 (fun rec3 (X4_3 : Int64) (x7_3 : Int32) => (if (2 : Int32) < x7_3 then (rec2 X4_3 (x6_2 + (1 : Int32))) else (z_ck h a0 5).bind fun _ => z_tn (M_X4_cell h a0 x3 x6_2 x7_3) fun r5 => (rec3 ((X4_3 * (31 : Int64)) + r5.toInt64) (x7_3 + (1 : Int32))))) 700 X4_2 (0 : Int32))) 700 X4_1 (0 : Int32) else (z_ck h a0 5).bind fun _ => z_tn (M_X4_cord h a0 x3 x6_1) fun r9 => (rec1 ((X4_1 * (31 : Int64)) + r9.toInt64) (x6_1 + (1 : Int32))))) 700 X1 (0 : Int32)
noncomputable def M_X4_digest (h : zH) (a0 : Nat) : Option (Int64 × zH) := wl3 (fun rec1 (X1_1 : Int64) (x3_1 : Int32) (h_1 : zH) => (if (10 : Int32) < x3_1 then wl2 (fun rec2 (X1_2 : Int64) (x3_2 : Int32) => (z_gR h_1 a0 5 0).bind fun r3 => (z_ck h_1 r3 2).bind fun _ => (M_X1_size h_1 r3).bind fun r5 => (if r5 ≤ x3_2 then wl2 (fun rec6 (X1_6 : Int64) (x3_6 : Int32) => (z_gR h_1 a0 5 2).bind fun r7 => (z_ck h_1 r7 0).bind fun _ => (M_Jx4a65c_size_8abf5 h_1 r7).bind fun r9 => (if r9 ≤ x3_6 then wl2 (fun rec10 (X1_10 : Int64) (x3_10 : Int32) => (if (24 : Int32) ≤ x3_10 then (some (X1_10, h_1)) else (z_ck h_1 a0 5).bind fun _ => (M_X4_digestOfColumn h_1 a0 X1_10 x3_10).bind fun r12 => (rec10 r12 (x3_10 + (1 : Int32))))) 700 X1_6 (0 : Int32) else wl2 (fun rec14 (X1_14 : Int64) (x4_14 : Int32) => (if (3 : Int32) < x4_14 then (rec6 X1_14 (x3_6 + (1 : Int32))) else (z_ck h_1 a0 5).bind fun _ => z_tn (M_X4_told h_1 a0 x3_6 x4_14) fun r16 => (rec14 ((X1_14 * (31 : Int64)) + r16.toInt64) (x4_14 + (1 : Int32))))) 700 X1_6 (0 : Int32))) 700 X1_2 (0 : Int32) else wl2 (fun rec19 (X1_19 : Int64) (x4_19 : Int32) => (if (8 : Int32) < x4_19 then (rec2 X1_19 (x3_2 + (1 : Int32))) else (z_ck h_1 a0 5).bind fun _ => z_tn (M_X4_about h_1 a0 x3_2 x4_19) fun r21 => (rec19 ((X1_19 * (31 : Int64)) + r21.toInt64) (x4_19 + (1 : Int32))))) 700 X1_2 (0 : Int32))) 700 X1_1 (0 : Int32) else (z_ck h_1 a0 5).bind fun _ => z_tn (M_X4_count h_1 a0 x3_1) fun r25 => (rec1 ((X1_1 * (31 : Int64)) + ((r25.1).toInt64)) (x3_1 + (1 : Int32)) r25.2))) 700 (1741 : Int64) (0 : Int32) h
set_option maxHeartbeats 4000000 in
set_option maxRecDepth 100000 in
theorem c_X4_init (l : Launch) (hl : l.stackTraces = false) (G : zG) (lo t0 : Nat) (h : zH) (nx : Nat) (a0 : Nat) (o : zH × Nat) (hM : M_X4_init h nx t0 a0 = some o) : z_Met l yX4_init cX4_init 1 none 5 102 G lo t0 [.ref a0] h nx (.inr (none, o.1, o.2)) 10 2906 := by
  refine z_of [(0, .ref a0)] (by decide) (Nat.le_of_ble_eq_true rfl) rfl (fun p e s m below meth c C hin => ?_)
  unfold M_X4_init at hM
  refine z_aload_n (k := 0) (pc := 0) C dX4_init_0 rfl ?_
  refine z_obj (pc := 1) C q_10 q_11 q_12 (Nat.le_of_ble_eq_true rfl) (Nat.le_of_ble_eq_true rfl) dX4_init_1 ?_
  refine z_aload_n (k := 0) (pc := 4) C dX4_init_4 rfl ?_
  refine z_new (pc := 5) C [.null, .null, .null, .null, .int 0] (ci := 2) rfl inlX1 tyX1 tyX1_ok q_13 q_14 q_15 (fun j hj => by rcases (show j = 0 ∨ j = 1 ∨ j = 2 ∨ j = 3 ∨ j = 4 by omega) with rfl | rfl | rfl | rfl | rfl <;> rfl) (Nat.le_of_ble_eq_true rfl) (Nat.le_of_ble_eq_true rfl) dX4_init_5 ?_
  refine z_dup (pc := 8) C dX4_init_8 rfl ?_
  obtain ⟨r1, g1, hM⟩ := Option.bind_eq_some_iff.mp hM
  refine z_goN (kc := 5) (ks := 1736) ([.ref nx, .ref a0]) (z_callI (pc := 9) (As := []) (rest := [.ref nx, .ref a0]) (n := 0) C (c_X1_init l hl G lo t0 (z_up h nx (zO 2 [.null, .null, .null, .null, .int 0])) (nx + 1) nx r1 g1) rfl q_30 q_31 q_15 q_32 ⟨by decide +kernel, by decide +kernel, by decide +kernel⟩ ⟨Nat.le_of_ble_eq_true rfl, Nat.le_of_ble_eq_true rfl⟩ rfl (Nat.le_of_ble_eq_true rfl) dX4_init_9 ⟨(Nat.le_of_ble_eq_true rfl), (Nat.le_of_ble_eq_true rfl)⟩) rfl (Nat.le_of_ble_eq_true rfl) (Nat.le_of_ble_eq_true rfl) ?_
  obtain ⟨h_2, g2, hM⟩ := Option.bind_eq_some_iff.mp hM
  refine z_putF (pc := 12) (k := 0) C g2 rfl inlX4 tyX4 tyX4_ok nmX4 (by decide) q_16 (fun _ h9 => h9) rfl hin rfl (tyX4_ok 0 (by decide)) rfl rfl dX4_init_12 ?_
  refine z_aload_n (k := 0) (pc := 15) C dX4_init_15 rfl ?_
  refine z_new (pc := 16) C [.null, .null, .null, .int 0, .int 0] (ci := 3) rfl inlX2 tyX2 tyX2_ok q_17 q_18 q_19 (fun j hj => by rcases (show j = 0 ∨ j = 1 ∨ j = 2 ∨ j = 3 ∨ j = 4 by omega) with rfl | rfl | rfl | rfl | rfl <;> rfl) (Nat.le_of_ble_eq_true rfl) (Nat.le_of_ble_eq_true rfl) dX4_init_16 ?_
  refine z_dup (pc := 19) C dX4_init_19 rfl ?_
  refine z_aload_n (k := 0) (pc := 20) C dX4_init_20 rfl ?_
  obtain ⟨r3, g3, hM⟩ := Option.bind_eq_some_iff.mp hM
  refine z_getR (pc := 21) (k := 0) C g3 rfl inlX4 (by decide) q_16 (fun _ h9 => h9) dX4_init_21 ?_
  obtain ⟨r4, g4, hM⟩ := Option.bind_eq_some_iff.mp hM
  refine z_goN (kc := 8) (ks := 2327) ([.ref r1.2, .ref a0]) (z_callI (pc := 24) (As := [.ref r3]) (rest := [.ref r1.2, .ref a0]) (n := 1) C (c_X2_init l hl G lo t0 (z_up h_2 r1.2 (zO 3 [.null, .null, .null, .int 0, .int 0])) (r1.2 + 1) r1.2 r3 r4 g4) rfl q_55 q_56 q_19 q_57 ⟨by decide +kernel, by decide +kernel, by decide +kernel⟩ ⟨Nat.le_of_ble_eq_true rfl, Nat.le_of_ble_eq_true rfl⟩ rfl (Nat.le_of_ble_eq_true rfl) dX4_init_24 ⟨(Nat.le_of_ble_eq_true rfl), (Nat.le_of_ble_eq_true rfl)⟩) rfl (Nat.le_of_ble_eq_true rfl) (Nat.le_of_ble_eq_true rfl) ?_
  obtain ⟨h_5, g5, hM⟩ := Option.bind_eq_some_iff.mp hM
  refine z_putF (pc := 27) (k := 1) C g5 rfl inlX4 tyX4 tyX4_ok nmX4 (by decide) q_20 (fun _ h9 => h9) rfl hin rfl (tyX4_ok 1 (by decide)) rfl rfl dX4_init_27 ?_
  refine z_aload_n (k := 0) (pc := 30) C dX4_init_30 rfl ?_
  refine z_new (pc := 31) C [.int 0, .null, .int 0] (ci := 0) rfl inlJx4a65c tyJx4a65c tyJx4a65c_ok q_21 q_22 q_23 (fun j hj => by rcases (show j = 0 ∨ j = 1 ∨ j = 2 by omega) with rfl | rfl | rfl <;> rfl) (Nat.le_of_ble_eq_true rfl) (Nat.le_of_ble_eq_true rfl) dX4_init_31 ?_
  refine z_dup (pc := 34) C dX4_init_34 rfl ?_
  obtain ⟨r6, g6, hM⟩ := Option.bind_eq_some_iff.mp hM
  refine z_goN (kc := 9) (ks := 2330) ([.ref r4.2, .ref a0]) (z_callI (pc := 35) (As := []) (rest := [.ref r4.2, .ref a0]) (n := 0) C (c_Jx4a65c_init_da8c8 l hl G lo t0 (z_up h_5 r4.2 (zO 0 [.int 0, .null, .int 0])) (r4.2 + 1) r4.2 r6 g6) rfl q_64 q_41 q_23 q_42 ⟨by decide +kernel, by decide +kernel, by decide +kernel⟩ ⟨Nat.le_of_ble_eq_true rfl, Nat.le_of_ble_eq_true rfl⟩ rfl (Nat.le_of_ble_eq_true rfl) dX4_init_35 ⟨(Nat.le_of_ble_eq_true rfl), (Nat.le_of_ble_eq_true rfl)⟩) rfl (Nat.le_of_ble_eq_true rfl) (Nat.le_of_ble_eq_true rfl) ?_
  obtain ⟨h_7, g7, hM⟩ := Option.bind_eq_some_iff.mp hM
  refine z_putF (pc := 38) (k := 2) C g7 rfl inlX4 tyX4 tyX4_ok nmX4 (by decide) q_24 (fun _ h9 => h9) rfl hin rfl (tyX4_ok 2 (by decide)) rfl rfl dX4_init_38 ?_
  refine z_aload_n (k := 0) (pc := 41) C dX4_init_41 rfl ?_
  refine z_sipush (v := (576 : Int32)) (pc := 42) C dX4_init_42 (by decide) ?_
  refine z_newI (pc := 45) (n' := 576) C q_25 (by decide) (by decide) (by decide) (Nat.le_of_ble_eq_true rfl) (Nat.le_of_ble_eq_true rfl) dX4_init_45 ?_
  obtain ⟨h_8, g8, hM⟩ := Option.bind_eq_some_iff.mp hM
  refine z_putF (pc := 47) (k := 3) C g8 rfl inlX4 tyX4 tyX4_ok nmX4 (by decide) q_26 (fun _ h9 => h9) rfl hin rfl (tyX4_ok 3 (by decide)) rfl rfl dX4_init_47 ?_
  refine z_aload_n (k := 0) (pc := 50) C dX4_init_50 rfl ?_
  refine z_iconst (v := (0 : Int32)) (pc := 51) C dX4_init_51 (by decide) ?_
  obtain ⟨h_9, g9, hM⟩ := Option.bind_eq_some_iff.mp hM
  refine z_put (pc := 52) (k := 4) C g9 rfl inlX4 tyX4 tyX4_ok nmX4 (by decide) q_27 (fun _ h9 => h9) rfl (tyX4_ok 4 (by decide)) rfl rfl dX4_init_52 ?_
  refine z_aload_n (k := 0) (pc := 55) C dX4_init_55 rfl ?_
  refine z_iconst (v := (0 : Int32)) (pc := 56) C dX4_init_56 (by decide) ?_
  obtain ⟨h_10, g10, hM⟩ := Option.bind_eq_some_iff.mp hM
  refine z_put (pc := 57) (k := 5) C g10 rfl inlX4 tyX4 tyX4_ok nmX4 (by decide) q_28 (fun _ h9 => h9) rfl (tyX4_ok 5 (by decide)) rfl rfl dX4_init_57 ?_
  refine z_aload_n (k := 0) (pc := 60) C dX4_init_60 rfl ?_
  refine z_iconst (v := (0 : Int32)) (pc := 61) C dX4_init_61 (by decide) ?_
  obtain ⟨h_11, g11, hM⟩ := Option.bind_eq_some_iff.mp hM
  refine z_put (pc := 62) (k := 6) C g11 rfl inlX4 tyX4 tyX4_ok nmX4 (by decide) q_29 (fun _ h9 => h9) rfl (tyX4_ok 6 (by decide)) rfl rfl dX4_init_62 ?_
  cases hM
  exact z_vret (pc := 65) C rfl (Nat.le_of_ble_eq_true rfl) (Nat.le_of_ble_eq_true rfl) dX4_init_65
set_option maxHeartbeats 4000000 in
set_option maxRecDepth 100000 in
theorem c_X4_requireExtent (l : Launch) (hl : l.stackTraces = false) (G : zG) (lo t0 : Nat) (h : zH) (nx : Nat) (x0 : Int32) (x1 : Int32) (o : String ⊕ (Unit)) (hM : M_X4_requireExtent x0 x1 = some o) : z_Met l yX4_requireExtent cX4_requireExtent 2 none 6 90 G lo t0 [.int x0, .int x1] h nx (z_eo h o (fun z : Unit => (none, h, nx))) (z_mo o 1 0) (z_mo o 6 0) := by
  refine z_of [(0, .int x0), (1, .int x1)] (by decide) (Nat.le_of_ble_eq_true rfl) rfl (fun p e s m below meth c C hin => ?_)
  unfold M_X4_requireExtent at hM
  refine z_iload_n (k := 0) (pc := 0) C dX4_requireExtent_0 rfl ?_
  refine z_iconst (v := (1 : Int32)) (pc := 1) C dX4_requireExtent_1 (by decide) ?_
  refine z_icmp_lt (pc := 2) (tgt := 22) C dX4_requireExtent_2 (by decide) hM (fun hc4 hM => ?_) (fun hc4 hM => ?_)
  · cases hM
    exact z_throwW (pc := 22) (text := "w or h is not 1 to 24") (names := ["java/lang/RuntimeException", "java/lang/Exception"]) C ne_X4 hl (by decide) (by decide) q_101 q_102 (by decide) ax_X4_54 ax_X4_54_b (by decide) ax_X4_54_g dX4_requireExtent_22 dX4_requireExtent_25 dX4_requireExtent_26 dX4_requireExtent_29 dX4_requireExtent_32 (Nat.le_of_ble_eq_true rfl) (Nat.le_of_ble_eq_true rfl) (Nat.le_of_ble_eq_true rfl) (Nat.le_of_ble_eq_true rfl) rfl (Nat.le_of_ble_eq_true rfl) (Nat.le_of_ble_eq_true rfl)
  · refine z_iload_n (k := 0) (pc := 5) C dX4_requireExtent_5 rfl ?_
    refine z_bipush (v := (24 : Int32)) (pc := 6) C dX4_requireExtent_6 (by decide) ?_
    refine z_icmp_gt (pc := 8) (tgt := 22) C dX4_requireExtent_8 (by decide) hM (fun hc3 hM => ?_) (fun hc3 hM => ?_)
    · cases hM
      exact z_throwW (pc := 22) (text := "w or h is not 1 to 24") (names := ["java/lang/RuntimeException", "java/lang/Exception"]) C ne_X4 hl (by decide) (by decide) q_101 q_102 (by decide) ax_X4_54 ax_X4_54_b (by decide) ax_X4_54_g dX4_requireExtent_22 dX4_requireExtent_25 dX4_requireExtent_26 dX4_requireExtent_29 dX4_requireExtent_32 (Nat.le_of_ble_eq_true rfl) (Nat.le_of_ble_eq_true rfl) (Nat.le_of_ble_eq_true rfl) (Nat.le_of_ble_eq_true rfl) rfl (Nat.le_of_ble_eq_true rfl) (Nat.le_of_ble_eq_true rfl)
    · refine z_iload_n (k := 1) (pc := 11) C dX4_requireExtent_11 rfl ?_
      refine z_iconst (v := (1 : Int32)) (pc := 12) C dX4_requireExtent_12 (by decide) ?_
      refine z_icmp_lt (pc := 13) (tgt := 22) C dX4_requireExtent_13 (by decide) hM (fun hc2 hM => ?_) (fun hc2 hM => ?_)
      · cases hM
        exact z_throwW (pc := 22) (text := "w or h is not 1 to 24") (names := ["java/lang/RuntimeException", "java/lang/Exception"]) C ne_X4 hl (by decide) (by decide) q_101 q_102 (by decide) ax_X4_54 ax_X4_54_b (by decide) ax_X4_54_g dX4_requireExtent_22 dX4_requireExtent_25 dX4_requireExtent_26 dX4_requireExtent_29 dX4_requireExtent_32 (Nat.le_of_ble_eq_true rfl) (Nat.le_of_ble_eq_true rfl) (Nat.le_of_ble_eq_true rfl) (Nat.le_of_ble_eq_true rfl) rfl (Nat.le_of_ble_eq_true rfl) (Nat.le_of_ble_eq_true rfl)
      · refine z_iload_n (k := 1) (pc := 16) C dX4_requireExtent_16 rfl ?_
        refine z_bipush (v := (24 : Int32)) (pc := 17) C dX4_requireExtent_17 (by decide) ?_
        refine z_icmp_le (pc := 19) (tgt := 33) C dX4_requireExtent_19 (by decide) hM (fun hc1 hM => ?_) (fun hc1 hM => ?_)
        · cases hM
          exact z_vret (pc := 33) C rfl (Nat.zero_le _) (Nat.zero_le _) dX4_requireExtent_33
        · cases hM
          exact z_throwW (pc := 22) (text := "w or h is not 1 to 24") (names := ["java/lang/RuntimeException", "java/lang/Exception"]) C ne_X4 hl (by decide) (by decide) q_101 q_102 (by decide) ax_X4_54 ax_X4_54_b (by decide) ax_X4_54_g dX4_requireExtent_22 dX4_requireExtent_25 dX4_requireExtent_26 dX4_requireExtent_29 dX4_requireExtent_32 (Nat.le_of_ble_eq_true rfl) (Nat.le_of_ble_eq_true rfl) (Nat.le_of_ble_eq_true rfl) (Nat.le_of_ble_eq_true rfl) rfl (Nat.le_of_ble_eq_true rfl) (Nat.le_of_ble_eq_true rfl)
set_option maxHeartbeats 4000000 in
set_option maxRecDepth 100000 in
theorem c_X4_requireRoomInSquare (l : Launch) (hl : l.stackTraces = false) (G : zG) (lo t0 : Nat) (h : zH) (nx : Nat) (x0 : Int32) (x1 : Int32) (x2 : Int32) (x3 : Int32) (o : String ⊕ (Unit)) (hM : M_X4_requireRoomInSquare x0 x1 x2 x3 = some o) : z_Met l yX4_requireRoomInSquare cX4_requireRoomInSquare 4 none 6 90 G lo t0 [.int x0, .int x1, .int x2, .int x3] h nx (z_eo h o (fun z : Unit => (none, h, nx))) (z_mo o 1 0) (z_mo o 6 0) := by
  refine z_of [(0, .int x0), (1, .int x1), (2, .int x2), (3, .int x3)] (by decide) (Nat.le_of_ble_eq_true rfl) rfl (fun p e s m below meth c C hin => ?_)
  unfold M_X4_requireRoomInSquare at hM
  refine z_iload_n (k := 0) (pc := 0) C dX4_requireRoomInSquare_0 rfl ?_
  refine z_if_lt (pc := 1) (tgt := 24) C dX4_requireRoomInSquare_1 (by decide) hM (fun hc4 hM => ?_) (fun hc4 hM => ?_)
  · cases hM
    exact z_throwW (pc := 24) (text := "some cell of it is not in the square") (names := ["java/lang/RuntimeException", "java/lang/Exception"]) C ne_X4 hl (by decide) (by decide) q_114 q_115 (by decide) ax_X4_182 ax_X4_182_b (by decide) ax_X4_182_g dX4_requireRoomInSquare_24 dX4_requireRoomInSquare_27 dX4_requireRoomInSquare_28 dX4_requireRoomInSquare_31 dX4_requireRoomInSquare_34 (Nat.le_of_ble_eq_true rfl) (Nat.le_of_ble_eq_true rfl) (Nat.le_of_ble_eq_true rfl) (Nat.le_of_ble_eq_true rfl) rfl (Nat.le_of_ble_eq_true rfl) (Nat.le_of_ble_eq_true rfl)
  · refine z_iload_n (k := 1) (pc := 4) C dX4_requireRoomInSquare_4 rfl ?_
    refine z_if_lt (pc := 5) (tgt := 24) C dX4_requireRoomInSquare_5 (by decide) hM (fun hc3 hM => ?_) (fun hc3 hM => ?_)
    · cases hM
      exact z_throwW (pc := 24) (text := "some cell of it is not in the square") (names := ["java/lang/RuntimeException", "java/lang/Exception"]) C ne_X4 hl (by decide) (by decide) q_114 q_115 (by decide) ax_X4_182 ax_X4_182_b (by decide) ax_X4_182_g dX4_requireRoomInSquare_24 dX4_requireRoomInSquare_27 dX4_requireRoomInSquare_28 dX4_requireRoomInSquare_31 dX4_requireRoomInSquare_34 (Nat.le_of_ble_eq_true rfl) (Nat.le_of_ble_eq_true rfl) (Nat.le_of_ble_eq_true rfl) (Nat.le_of_ble_eq_true rfl) rfl (Nat.le_of_ble_eq_true rfl) (Nat.le_of_ble_eq_true rfl)
    · refine z_iload_n (k := 0) (pc := 8) C dX4_requireRoomInSquare_8 rfl ?_
      refine z_bipush (v := (24 : Int32)) (pc := 9) C dX4_requireRoomInSquare_9 (by decide) ?_
      refine z_iload_n (k := 2) (pc := 11) C dX4_requireRoomInSquare_11 rfl ?_
      refine z_isub (pc := 12) C dX4_requireRoomInSquare_12 ?_
      refine z_icmp_gt (pc := 13) (tgt := 24) C dX4_requireRoomInSquare_13 (by decide) hM (fun hc2 hM => ?_) (fun hc2 hM => ?_)
      · cases hM
        exact z_throwW (pc := 24) (text := "some cell of it is not in the square") (names := ["java/lang/RuntimeException", "java/lang/Exception"]) C ne_X4 hl (by decide) (by decide) q_114 q_115 (by decide) ax_X4_182 ax_X4_182_b (by decide) ax_X4_182_g dX4_requireRoomInSquare_24 dX4_requireRoomInSquare_27 dX4_requireRoomInSquare_28 dX4_requireRoomInSquare_31 dX4_requireRoomInSquare_34 (Nat.le_of_ble_eq_true rfl) (Nat.le_of_ble_eq_true rfl) (Nat.le_of_ble_eq_true rfl) (Nat.le_of_ble_eq_true rfl) rfl (Nat.le_of_ble_eq_true rfl) (Nat.le_of_ble_eq_true rfl)
      · refine z_iload_n (k := 1) (pc := 16) C dX4_requireRoomInSquare_16 rfl ?_
        refine z_bipush (v := (24 : Int32)) (pc := 17) C dX4_requireRoomInSquare_17 (by decide) ?_
        refine z_iload_n (k := 3) (pc := 19) C dX4_requireRoomInSquare_19 rfl ?_
        refine z_isub (pc := 20) C dX4_requireRoomInSquare_20 ?_
        refine z_icmp_le (pc := 21) (tgt := 35) C dX4_requireRoomInSquare_21 (by decide) hM (fun hc1 hM => ?_) (fun hc1 hM => ?_)
        · cases hM
          exact z_vret (pc := 35) C rfl (Nat.zero_le _) (Nat.zero_le _) dX4_requireRoomInSquare_35
        · cases hM
          exact z_throwW (pc := 24) (text := "some cell of it is not in the square") (names := ["java/lang/RuntimeException", "java/lang/Exception"]) C ne_X4 hl (by decide) (by decide) q_114 q_115 (by decide) ax_X4_182 ax_X4_182_b (by decide) ax_X4_182_g dX4_requireRoomInSquare_24 dX4_requireRoomInSquare_27 dX4_requireRoomInSquare_28 dX4_requireRoomInSquare_31 dX4_requireRoomInSquare_34 (Nat.le_of_ble_eq_true rfl) (Nat.le_of_ble_eq_true rfl) (Nat.le_of_ble_eq_true rfl) (Nat.le_of_ble_eq_true rfl) rfl (Nat.le_of_ble_eq_true rfl) (Nat.le_of_ble_eq_true rfl)
set_option maxHeartbeats 4000000 in
set_option maxRecDepth 100000 in
theorem c_X4_hang (l : Launch) (hl : l.stackTraces = false) (G : zG) (lo t0 : Nat) (h : zH) (nx : Nat) (a0 : Nat) (x1 : Int32) (x2 : Int32) (x3 : Int32) (x4 : Int32) (x5 : Int32) (x6 : Int32) (o : String ⊕ (Int32 × zH × Nat)) (hM : M_X4_hang h nx t0 a0 x1 x2 x3 x4 x5 x6 = some o) : z_Met l yX4_hang cX4_hang 7 (some .int) 7 130 G lo t0 [.ref a0, .int x1, .int x2, .int x3, .int x4, .int x5, .int x6] h nx (z_eo h o (fun z : Int32 × zH × Nat => (some (.int z.1), z.2.1, z.2.2))) 2 18 := by
  refine z_of [(0, .ref a0), (1, .int x1), (2, .int x2), (3, .int x3), (4, .int x4), (5, .int x5), (6, .int x6)] (by decide) (Nat.le_of_ble_eq_true rfl) rfl (fun p e s m below meth c C hin => ?_)
  unfold M_X4_hang at hM
  refine z_iload_n (k := 3) (pc := 0) C dX4_hang_0 rfl ?_
  refine z_iload (k := 4) (pc := 1) C dX4_hang_1 rfl ?_
  rcases z_tb_c hM with ⟨Er1, g1, rfl⟩ | ⟨r1, g1, hM⟩
  · exact z_goX C ne_X4 (z_callS (pc := 3) (As := [.int x3, .int x4]) (rest := []) (n := 2) C (c_X4_requireExtent l hl G lo t0 h nx x3 x4 (.inl Er1) g1) q_108 q_109 q_2 q_110 ⟨by decide +kernel, by decide +kernel, by decide +kernel⟩ ⟨Nat.le_of_ble_eq_true rfl, Nat.le_of_ble_eq_true rfl⟩ rfl (Nat.le_of_ble_eq_true rfl) dX4_hang_3 ⟨Nat.le_of_ble_eq_true rfl, Nat.le_of_ble_eq_true rfl⟩) (Nat.le_of_ble_eq_true rfl) (Nat.le_of_ble_eq_true rfl)
  refine z_goN (kc := 0) (ks := 0) ([]) (z_callS (pc := 3) (As := [.int x3, .int x4]) (rest := []) (n := 2) C (c_X4_requireExtent l hl G lo t0 h nx x3 x4 (.inr r1) g1) q_108 q_109 q_2 q_110 ⟨by decide +kernel, by decide +kernel, by decide +kernel⟩ ⟨Nat.le_of_ble_eq_true rfl, Nat.le_of_ble_eq_true rfl⟩ rfl (Nat.le_of_ble_eq_true rfl) dX4_hang_3 ⟨(Nat.zero_le _), (Nat.zero_le _)⟩) rfl (Nat.le_of_ble_eq_true rfl) (Nat.le_of_ble_eq_true rfl) ?_
  refine z_iload (k := 5) (pc := 6) C dX4_hang_6 rfl ?_
  refine z_iconst (v := (1 : Int32)) (pc := 8) C dX4_hang_8 (by decide) ?_
  refine z_icmp_lt (pc := 9) (tgt := 19) C dX4_hang_9 (by decide) hM (fun hc17 hM => ?_) (fun hc17 hM => ?_)
  · cases hM
    exact z_throw (pc := 19) (text := "level is not 1 to 9") (names := ["java/lang/RuntimeException", "java/lang/Exception"]) C ne_X4 hl (by decide) (by decide) q_101 q_102 (by decide) ax_X4_54 ax_X4_54_b (by decide) ax_X4_54_g dX4_hang_19 dX4_hang_22 dX4_hang_23 dX4_hang_25 dX4_hang_28 (Nat.le_of_ble_eq_true rfl) (Nat.le_of_ble_eq_true rfl) (Nat.le_of_ble_eq_true rfl) (Nat.le_of_ble_eq_true rfl) rfl (Nat.le_of_ble_eq_true rfl) (Nat.le_of_ble_eq_true rfl)
  · refine z_iload (k := 5) (pc := 12) C dX4_hang_12 rfl ?_
    refine z_bipush (v := (9 : Int32)) (pc := 14) C dX4_hang_14 (by decide) ?_
    refine z_icmp_le (pc := 16) (tgt := 29) C dX4_hang_16 (by decide) hM (fun hc16 hM => ?_) (fun hc16 hM => ?_)
    · refine z_iload (k := 6) (pc := 29) C dX4_hang_29 rfl ?_
      refine z_if_lt (pc := 31) (tgt := 40) C dX4_hang_31 (by decide) hM (fun hc15 hM => ?_) (fun hc15 hM => ?_)
      · cases hM
        exact z_throw (pc := 40) (text := "side is not 0 to 3") (names := ["java/lang/RuntimeException", "java/lang/Exception"]) C ne_X4 hl (by decide) (by decide) q_101 q_102 (by decide) ax_X4_54 ax_X4_54_b (by decide) ax_X4_54_g dX4_hang_40 dX4_hang_43 dX4_hang_44 dX4_hang_46 dX4_hang_49 (Nat.le_of_ble_eq_true rfl) (Nat.le_of_ble_eq_true rfl) (Nat.le_of_ble_eq_true rfl) (Nat.le_of_ble_eq_true rfl) rfl (Nat.le_of_ble_eq_true rfl) (Nat.le_of_ble_eq_true rfl)
      · refine z_iload (k := 6) (pc := 34) C dX4_hang_34 rfl ?_
        refine z_iconst (v := (3 : Int32)) (pc := 36) C dX4_hang_36 (by decide) ?_
        refine z_icmp_le (pc := 37) (tgt := 50) C dX4_hang_37 (by decide) hM (fun hc14 hM => ?_) (fun hc14 hM => ?_)
        · refine z_iload_n (k := 1) (pc := 50) C dX4_hang_50 rfl ?_
          refine z_iload_n (k := 2) (pc := 51) C dX4_hang_51 rfl ?_
          refine z_iload_n (k := 3) (pc := 52) C dX4_hang_52 rfl ?_
          refine z_iload (k := 4) (pc := 53) C dX4_hang_53 rfl ?_
          rcases z_tb_c hM with ⟨Er2, g2, rfl⟩ | ⟨r2, g2, hM⟩
          · exact z_goX C ne_X4 (z_callS (pc := 55) (As := [.int x1, .int x2, .int x3, .int x4]) (rest := []) (n := 4) C (c_X4_requireRoomInSquare l hl G lo t0 h nx x1 x2 x3 x4 (.inl Er2) g2) q_111 q_112 q_2 q_113 ⟨by decide +kernel, by decide +kernel, by decide +kernel⟩ ⟨Nat.le_of_ble_eq_true rfl, Nat.le_of_ble_eq_true rfl⟩ rfl (Nat.le_of_ble_eq_true rfl) dX4_hang_55 ⟨Nat.le_of_ble_eq_true rfl, Nat.le_of_ble_eq_true rfl⟩) (Nat.le_of_ble_eq_true rfl) (Nat.le_of_ble_eq_true rfl)
          refine z_goN (kc := 0) (ks := 0) ([]) (z_callS (pc := 55) (As := [.int x1, .int x2, .int x3, .int x4]) (rest := []) (n := 4) C (c_X4_requireRoomInSquare l hl G lo t0 h nx x1 x2 x3 x4 (.inr r2) g2) q_111 q_112 q_2 q_113 ⟨by decide +kernel, by decide +kernel, by decide +kernel⟩ ⟨Nat.le_of_ble_eq_true rfl, Nat.le_of_ble_eq_true rfl⟩ rfl (Nat.le_of_ble_eq_true rfl) dX4_hang_55 ⟨(Nat.zero_le _), (Nat.zero_le _)⟩) rfl (Nat.le_of_ble_eq_true rfl) (Nat.le_of_ble_eq_true rfl) ?_
          refine z_aload_n (k := 0) (pc := 58) C dX4_hang_58 rfl ?_
          obtain ⟨r3, g3, hM⟩ := Option.bind_eq_some_iff.mp hM
          refine z_getR (pc := 59) (k := 0) C g3 rfl inlX4 (by decide) q_16 (fun _ h9 => h9) dX4_hang_59 ?_
          obtain ⟨_, g4, hM⟩ := Option.bind_eq_some_iff.mp hM
          obtain ⟨r5, g5, hM⟩ := Option.bind_eq_some_iff.mp hM
          refine z_goN (kc := 0) (ks := 0) ([.int r5]) (z_callV (pc := 62) (As := []) (rest := []) (n := 0) (ci := 2) C (c_X1_size l hl G lo t0 h nx r3 r5 g5) g4 rfl q_116 q_117 q_118 q_15 q_119 ⟨rfl, by decide +kernel, by decide +kernel, by decide +kernel⟩ ⟨Nat.le_of_ble_eq_true rfl, Nat.le_of_ble_eq_true rfl⟩ rfl (Nat.le_of_ble_eq_true rfl) dX4_hang_62 ⟨(Nat.zero_le _), (Nat.zero_le _)⟩) rfl (Nat.le_of_ble_eq_true rfl) (Nat.le_of_ble_eq_true rfl) ?_
          refine z_bipush (v := (10 : Int32)) (pc := 65) C dX4_hang_65 (by decide) ?_
          refine z_icmp_lt (pc := 67) (tgt := 80) C dX4_hang_67 (by decide) hM (fun hc13 hM => ?_) (fun hc13 hM => ?_)
          · refine z_aload_n (k := 0) (pc := 80) C dX4_hang_80 rfl ?_
            obtain ⟨r6, g6, hM⟩ := Option.bind_eq_some_iff.mp hM
            refine z_getR (pc := 81) (k := 0) C g6 rfl inlX4 (by decide) q_16 (fun _ h9 => h9) dX4_hang_81 ?_
            refine z_new (pc := 84) C [.int 0, .int 0, .int 0, .int 0, .int 0, .int 0, .int 0, .int 0] (ci := 1) rfl inlX0 tyX0 tyX0_ok q_105 q_106 q_107 (fun j hj => by rcases (show j = 0 ∨ j = 1 ∨ j = 2 ∨ j = 3 ∨ j = 4 ∨ j = 5 ∨ j = 6 ∨ j = 7 by omega) with rfl | rfl | rfl | rfl | rfl | rfl | rfl | rfl <;> rfl) (Nat.le_of_ble_eq_true rfl) (Nat.le_of_ble_eq_true rfl) dX4_hang_84 ?_
            refine z_dup (pc := 87) C dX4_hang_87 rfl ?_
            refine z_iload_n (k := 1) (pc := 88) C dX4_hang_88 rfl ?_
            refine z_iload_n (k := 2) (pc := 89) C dX4_hang_89 rfl ?_
            refine z_iload_n (k := 3) (pc := 90) C dX4_hang_90 rfl ?_
            refine z_iload (k := 4) (pc := 91) C dX4_hang_91 rfl ?_
            refine z_iload (k := 5) (pc := 93) C dX4_hang_93 rfl ?_
            refine z_iload (k := 6) (pc := 95) C dX4_hang_95 rfl ?_
            obtain ⟨r7, g7, hM⟩ := Option.bind_eq_some_iff.mp hM
            refine z_goN (kc := 1) (ks := 8) ([.ref nx, .ref r6]) (z_callI (pc := 97) (As := [.int x1, .int x2, .int x3, .int x4, .int x5, .int x6]) (rest := [.ref nx, .ref r6]) (n := 6) C (c_X0_init l hl G lo t0 (z_up h nx (zO 1 [.int 0, .int 0, .int 0, .int 0, .int 0, .int 0, .int 0, .int 0])) (nx + 1) nx x1 x2 x3 x4 x5 x6 r7 g7) rfl q_125 q_126 q_107 q_127 ⟨by decide +kernel, by decide +kernel, by decide +kernel⟩ ⟨Nat.le_of_ble_eq_true rfl, Nat.le_of_ble_eq_true rfl⟩ rfl (Nat.le_of_ble_eq_true rfl) dX4_hang_97 ⟨(Nat.le_of_ble_eq_true rfl), (Nat.le_of_ble_eq_true rfl)⟩) rfl (Nat.le_of_ble_eq_true rfl) (Nat.le_of_ble_eq_true rfl) ?_
            obtain ⟨_, g8, hM⟩ := Option.bind_eq_some_iff.mp hM
            obtain ⟨r9, g9, hM⟩ := Option.bind_eq_some_iff.mp hM
            refine z_goN (kc := 2) (ks := 18) ([]) (z_callV (pc := 100) (As := [.ref nx]) (rest := []) (n := 1) (ci := 2) C (c_X1_append l hl G lo t0 r7 (nx + 1) r6 nx r9 g9) g8 rfl q_137 q_138 q_139 q_15 q_140 ⟨rfl, by decide +kernel, by decide +kernel, by decide +kernel⟩ ⟨Nat.le_of_ble_eq_true rfl, Nat.le_of_ble_eq_true rfl⟩ rfl (Nat.le_of_ble_eq_true rfl) dX4_hang_100 ⟨(Nat.le_of_ble_eq_true rfl), (Nat.le_of_ble_eq_true rfl)⟩) rfl (Nat.le_of_ble_eq_true rfl) (Nat.le_of_ble_eq_true rfl) ?_
            refine z_aload_n (k := 0) (pc := 103) C dX4_hang_103 rfl ?_
            obtain ⟨r10, g10, hM⟩ := Option.bind_eq_some_iff.mp hM
            refine z_getR (pc := 104) (k := 0) C g10 rfl inlX4 (by decide) q_16 (fun _ h9 => h9) dX4_hang_104 ?_
            obtain ⟨_, g11, hM⟩ := Option.bind_eq_some_iff.mp hM
            obtain ⟨r12, g12, hM⟩ := Option.bind_eq_some_iff.mp hM
            refine z_goN (kc := 2) (ks := 18) ([.int r12]) (z_callV (pc := 107) (As := []) (rest := []) (n := 0) (ci := 2) C (c_X1_size l hl G lo t0 r9.1 r9.2 r10 r12 g12) g11 rfl q_116 q_117 q_118 q_15 q_119 ⟨rfl, by decide +kernel, by decide +kernel, by decide +kernel⟩ ⟨Nat.le_of_ble_eq_true rfl, Nat.le_of_ble_eq_true rfl⟩ rfl (Nat.le_of_ble_eq_true rfl) dX4_hang_107 ⟨(Nat.le_of_ble_eq_true rfl), (Nat.le_of_ble_eq_true rfl)⟩) rfl (Nat.le_of_ble_eq_true rfl) (Nat.le_of_ble_eq_true rfl) ?_
            refine z_iconst (v := (1 : Int32)) (pc := 110) C dX4_hang_110 (by decide) ?_
            refine z_isub (pc := 111) C dX4_hang_111 ?_
            cases hM
            exact z_iret (pc := 112) C rfl (Nat.le_of_ble_eq_true rfl) (Nat.le_of_ble_eq_true rfl) dX4_hang_112
          · cases hM
            exact z_throw (pc := 70) (text := "there are 10 awnings") (names := ["java/lang/RuntimeException", "java/lang/Exception"]) C ne_X4 hl (by decide) (by decide) q_103 q_104 (by decide) ax_X4_71 ax_X4_71_b (by decide) ax_X4_71_g dX4_hang_70 dX4_hang_73 dX4_hang_74 dX4_hang_76 dX4_hang_79 (Nat.le_of_ble_eq_true rfl) (Nat.le_of_ble_eq_true rfl) (Nat.le_of_ble_eq_true rfl) (Nat.le_of_ble_eq_true rfl) rfl (Nat.le_of_ble_eq_true rfl) (Nat.le_of_ble_eq_true rfl)
        · cases hM
          exact z_throw (pc := 40) (text := "side is not 0 to 3") (names := ["java/lang/RuntimeException", "java/lang/Exception"]) C ne_X4 hl (by decide) (by decide) q_101 q_102 (by decide) ax_X4_54 ax_X4_54_b (by decide) ax_X4_54_g dX4_hang_40 dX4_hang_43 dX4_hang_44 dX4_hang_46 dX4_hang_49 (Nat.le_of_ble_eq_true rfl) (Nat.le_of_ble_eq_true rfl) (Nat.le_of_ble_eq_true rfl) (Nat.le_of_ble_eq_true rfl) rfl (Nat.le_of_ble_eq_true rfl) (Nat.le_of_ble_eq_true rfl)
    · cases hM
      exact z_throw (pc := 19) (text := "level is not 1 to 9") (names := ["java/lang/RuntimeException", "java/lang/Exception"]) C ne_X4 hl (by decide) (by decide) q_101 q_102 (by decide) ax_X4_54 ax_X4_54_b (by decide) ax_X4_54_g dX4_hang_19 dX4_hang_22 dX4_hang_23 dX4_hang_25 dX4_hang_28 (Nat.le_of_ble_eq_true rfl) (Nat.le_of_ble_eq_true rfl) (Nat.le_of_ble_eq_true rfl) (Nat.le_of_ble_eq_true rfl) rfl (Nat.le_of_ble_eq_true rfl) (Nat.le_of_ble_eq_true rfl)
set_option maxHeartbeats 4000000 in
set_option maxRecDepth 100000 in
theorem c_X4_roll (l : Launch) (hl : l.stackTraces = false) (G : zG) (lo t0 : Nat) (h : zH) (nx : Nat) (a0 : Nat) (x1 : Int32) (o : String ⊕ (Int32 × zH)) (hM : M_X4_roll h a0 x1 = some o) : z_Met l yX4_roll cX4_roll 3 (some .boolean) 7 111 G lo t0 [.ref a0, .int x1] h nx (z_eo h o (fun z : Int32 × zH => (some (.int z.1), z.2, nx))) (z_mo o 1 0) (z_mo o 6 0) := by
  refine z_of [(0, .ref a0), (1, .int x1)] (by decide) (Nat.le_of_ble_eq_true rfl) rfl (fun p e s m below meth c C hin => ?_)
  unfold M_X4_roll at hM
  refine z_aload_n (k := 0) (pc := 0) C dX4_roll_0 rfl ?_
  obtain ⟨r1, g1, hM⟩ := Option.bind_eq_some_iff.mp hM
  refine z_getR (pc := 1) (k := 0) C g1 rfl inlX4 (by decide) q_16 (fun _ h9 => h9) dX4_roll_1 ?_
  refine z_iload_n (k := 1) (pc := 4) C dX4_roll_4 rfl ?_
  obtain ⟨_, g2, hM⟩ := Option.bind_eq_some_iff.mp hM
  rcases z_tb_c hM with ⟨Er3, g3, rfl⟩ | ⟨r3, g3, hM⟩
  · exact z_goX C ne_X4 (z_callV (pc := 5) (As := [.int x1]) (rest := []) (n := 1) (ci := 2) C (c_X1_numbered l hl G lo t0 h nx r1 x1 (.inl Er3) g3) g2 rfl q_230 q_231 q_232 q_15 q_233 ⟨rfl, by decide +kernel, by decide +kernel, by decide +kernel⟩ ⟨Nat.le_of_ble_eq_true rfl, Nat.le_of_ble_eq_true rfl⟩ rfl (Nat.le_of_ble_eq_true rfl) dX4_roll_5 ⟨Nat.le_of_ble_eq_true rfl, Nat.le_of_ble_eq_true rfl⟩) (Nat.le_of_ble_eq_true rfl) (Nat.le_of_ble_eq_true rfl)
  refine z_goN (kc := 0) (ks := 0) ([.ref r3]) (z_callV (pc := 5) (As := [.int x1]) (rest := []) (n := 1) (ci := 2) C (c_X1_numbered l hl G lo t0 h nx r1 x1 (.inr r3) g3) g2 rfl q_230 q_231 q_232 q_15 q_233 ⟨rfl, by decide +kernel, by decide +kernel, by decide +kernel⟩ ⟨Nat.le_of_ble_eq_true rfl, Nat.le_of_ble_eq_true rfl⟩ rfl (Nat.le_of_ble_eq_true rfl) dX4_roll_5 ⟨(Nat.zero_le _), (Nat.zero_le _)⟩) rfl (Nat.le_of_ble_eq_true rfl) (Nat.le_of_ble_eq_true rfl) ?_
  refine z_astore_n (lv' := [(2, .ref r3), (0, .ref a0), (1, .int x1)]) (pc := 8) C dX4_roll_8 (by decide) rfl ?_
  refine z_aload_n (k := 0) (pc := 9) C dX4_roll_9 rfl ?_
  refine z_aload_n (k := 0) (pc := 10) C dX4_roll_10 rfl ?_
  obtain ⟨r4, g4, hM⟩ := Option.bind_eq_some_iff.mp hM
  refine z_getI (pc := 11) (k := 6) C g4 rfl inlX0 (by decide) q_229 (fun _ h9 => h9) dX4_roll_11 ?_
  refine zj2 0 0 22 (fun (b0_5 : Nat) (s1_5 : Int32) => [(0, .ref a0), (2, .ref r3)]) (fun (b0_5 : Nat) (s1_5 : Int32) => [.int s1_5, .ref b0_5]) (fun (b0_5 : Nat) (s1_5 : Int32) => h) (fun (b0_5 : Nat) (s1_5 : Int32) => nx) hM (fun b0_5 s1_5 hM => ?_) (fun J5 iJ5 hM => ?_)
  · obtain ⟨hc6, hM⟩ := z_gy hM
    obtain ⟨h_7, g7, hM⟩ := Option.bind_eq_some_iff.mp hM
    refine z_put (pc := 22) (k := 6) C g7 rfl inlX0 tyX0 tyX0_ok nmX0 (by decide) q_229 (fun _ h9 => h9) rfl (tyX0_ok 6 (by decide)) (by rcases hc6 with h | h <;> rw [h] <;> rfl) (by rcases hc6 with h | h <;> rw [h] <;> rfl) dX4_roll_22 ?_
    refine z_aload_n (k := 0) (pc := 25) C dX4_roll_25 rfl ?_
    obtain ⟨r8, g8, hM⟩ := Option.bind_eq_some_iff.mp hM
    refine z_getR (pc := 26) (k := 0) C g8 rfl inlX4 (by decide) q_16 (fun _ h9 => h9) dX4_roll_26 ?_
    obtain ⟨_, g9, hM⟩ := Option.bind_eq_some_iff.mp hM
    obtain ⟨r10, g10, hM⟩ := Option.bind_eq_some_iff.mp hM
    refine z_goN (kc := 0) (ks := 0) ([]) (z_callV (pc := 29) (As := []) (rest := []) (n := 0) (ci := 2) C (c_X1_layOut l hl G lo t0 h_7 nx r8 r10 g10) g9 rfl q_235 q_191 q_192 q_15 q_193 ⟨rfl, by decide +kernel, by decide +kernel, by decide +kernel⟩ ⟨Nat.le_of_ble_eq_true rfl, Nat.le_of_ble_eq_true rfl⟩ rfl (Nat.le_of_ble_eq_true rfl) dX4_roll_29 ⟨(Nat.zero_le _), (Nat.zero_le _)⟩) rfl (Nat.le_of_ble_eq_true rfl) (Nat.le_of_ble_eq_true rfl) ?_
    refine z_aload_n (k := 1) (pc := 32) C dX4_roll_32 rfl ?_
    obtain ⟨r11, g11, hM⟩ := Option.bind_eq_some_iff.mp hM
    refine z_getI (pc := 33) (k := 6) C g11 rfl inlX0 (by decide) q_229 (fun _ h9 => h9) dX4_roll_33 ?_
    obtain ⟨hc12, hM⟩ := z_gy hM
    cases hM
    exact z_zret (pc := 36) C hc12 rfl (Nat.zero_le _) (Nat.zero_le _) dX4_roll_36
  refine z_if_ne (pc := 14) (tgt := 21) C dX4_roll_14 (by decide) hM (fun hc13 hM => ?_) (fun hc13 hM => ?_)
  · refine z_iconst (v := (1 : Int32)) (pc := 17) C dX4_roll_17 (by decide) ?_
    refine z_goto (pc := 18) (tgt := 22) C dX4_roll_18 (by decide) ?_
    exact z_sub [1, 0] rfl (iJ5 r3 (1 : Int32) hM)
  · refine z_iconst (v := (0 : Int32)) (pc := 21) C dX4_roll_21 (by decide) ?_
    exact z_sub [1, 0] rfl (iJ5 r3 (0 : Int32) hM)
set_option maxHeartbeats 4000000 in
set_option maxRecDepth 100000 in
theorem c_X4_move (l : Launch) (hl : l.stackTraces = false) (G : zG) (lo t0 : Nat) (h : zH) (nx : Nat) (a0 : Nat) (x1 : Int32) (x2 : Int32) (x3 : Int32) (o : String ⊕ (Int32 × zH)) (hM : M_X4_move h a0 x1 x2 x3 = some o) : z_Met l yX4_move cX4_move 5 (some .int) 7 113 G lo t0 [.ref a0, .int x1, .int x2, .int x3] h nx (z_eo h o (fun z : Int32 × zH => (some (.int z.1), z.2, nx))) (z_mo o 1 0) (z_mo o 6 0) := by
  refine z_of [(0, .ref a0), (1, .int x1), (2, .int x2), (3, .int x3)] (by decide) (Nat.le_of_ble_eq_true rfl) rfl (fun p e s m below meth c C hin => ?_)
  unfold M_X4_move at hM
  refine z_aload_n (k := 0) (pc := 0) C dX4_move_0 rfl ?_
  obtain ⟨r1, g1, hM⟩ := Option.bind_eq_some_iff.mp hM
  refine z_getR (pc := 1) (k := 0) C g1 rfl inlX4 (by decide) q_16 (fun _ h9 => h9) dX4_move_1 ?_
  refine z_iload_n (k := 1) (pc := 4) C dX4_move_4 rfl ?_
  obtain ⟨_, g2, hM⟩ := Option.bind_eq_some_iff.mp hM
  rcases z_tb_c hM with ⟨Er3, g3, rfl⟩ | ⟨r3, g3, hM⟩
  · exact z_goX C ne_X4 (z_callV (pc := 5) (As := [.int x1]) (rest := []) (n := 1) (ci := 2) C (c_X1_numbered l hl G lo t0 h nx r1 x1 (.inl Er3) g3) g2 rfl q_230 q_231 q_232 q_15 q_233 ⟨rfl, by decide +kernel, by decide +kernel, by decide +kernel⟩ ⟨Nat.le_of_ble_eq_true rfl, Nat.le_of_ble_eq_true rfl⟩ rfl (Nat.le_of_ble_eq_true rfl) dX4_move_5 ⟨Nat.le_of_ble_eq_true rfl, Nat.le_of_ble_eq_true rfl⟩) (Nat.le_of_ble_eq_true rfl) (Nat.le_of_ble_eq_true rfl)
  refine z_goN (kc := 0) (ks := 0) ([.ref r3]) (z_callV (pc := 5) (As := [.int x1]) (rest := []) (n := 1) (ci := 2) C (c_X1_numbered l hl G lo t0 h nx r1 x1 (.inr r3) g3) g2 rfl q_230 q_231 q_232 q_15 q_233 ⟨rfl, by decide +kernel, by decide +kernel, by decide +kernel⟩ ⟨Nat.le_of_ble_eq_true rfl, Nat.le_of_ble_eq_true rfl⟩ rfl (Nat.le_of_ble_eq_true rfl) dX4_move_5 ⟨(Nat.zero_le _), (Nat.zero_le _)⟩) rfl (Nat.le_of_ble_eq_true rfl) (Nat.le_of_ble_eq_true rfl) ?_
  refine z_astore (lv' := [(4, .ref r3), (0, .ref a0), (1, .int x1), (2, .int x2), (3, .int x3)]) (pc := 8) C dX4_move_8 (by decide) rfl ?_
  refine z_iload_n (k := 3) (pc := 10) C dX4_move_10 rfl ?_
  refine z_iload_n (k := 4) (pc := 11) C dX4_move_11 rfl ?_
  refine z_aload (k := 0) (pc := 12) C dX4_move_12 rfl ?_
  obtain ⟨r4, g4, hM⟩ := Option.bind_eq_some_iff.mp hM
  refine z_getI (pc := 14) (k := 2) C g4 rfl inlX0 (by decide) q_240 (fun _ h9 => h9) dX4_move_14 ?_
  refine z_aload (k := 0) (pc := 17) C dX4_move_17 rfl ?_
  obtain ⟨r5, g5, hM⟩ := Option.bind_eq_some_iff.mp hM
  refine z_getI (pc := 19) (k := 3) C g5 rfl inlX0 (by decide) q_241 (fun _ h9 => h9) dX4_move_19 ?_
  rcases z_tb_c hM with ⟨Er6, g6, rfl⟩ | ⟨r6, g6, hM⟩
  · exact z_goX C ne_X4 (z_callS (pc := 22) (As := [.int x2, .int x3, .int r4, .int r5]) (rest := []) (n := 4) C (c_X4_requireRoomInSquare l hl G lo t0 h nx x2 x3 r4 r5 (.inl Er6) g6) q_111 q_112 q_2 q_113 ⟨by decide +kernel, by decide +kernel, by decide +kernel⟩ ⟨Nat.le_of_ble_eq_true rfl, Nat.le_of_ble_eq_true rfl⟩ rfl (Nat.le_of_ble_eq_true rfl) dX4_move_22 ⟨Nat.le_of_ble_eq_true rfl, Nat.le_of_ble_eq_true rfl⟩) (Nat.le_of_ble_eq_true rfl) (Nat.le_of_ble_eq_true rfl)
  refine z_goN (kc := 0) (ks := 0) ([]) (z_callS (pc := 22) (As := [.int x2, .int x3, .int r4, .int r5]) (rest := []) (n := 4) C (c_X4_requireRoomInSquare l hl G lo t0 h nx x2 x3 r4 r5 (.inr r6) g6) q_111 q_112 q_2 q_113 ⟨by decide +kernel, by decide +kernel, by decide +kernel⟩ ⟨Nat.le_of_ble_eq_true rfl, Nat.le_of_ble_eq_true rfl⟩ rfl (Nat.le_of_ble_eq_true rfl) dX4_move_22 ⟨(Nat.zero_le _), (Nat.zero_le _)⟩) rfl (Nat.le_of_ble_eq_true rfl) (Nat.le_of_ble_eq_true rfl) ?_
  refine z_aload (k := 0) (pc := 25) C dX4_move_25 rfl ?_
  refine z_iload_n (k := 3) (pc := 27) C dX4_move_27 rfl ?_
  obtain ⟨h_7, g7, hM⟩ := Option.bind_eq_some_iff.mp hM
  refine z_put (pc := 28) (k := 0) C g7 rfl inlX0 tyX0 tyX0_ok nmX0 (by decide) q_242 (fun _ h9 => h9) rfl (tyX0_ok 0 (by decide)) rfl rfl dX4_move_28 ?_
  refine z_aload (k := 0) (pc := 31) C dX4_move_31 rfl ?_
  refine z_iload_n (k := 4) (pc := 33) C dX4_move_33 rfl ?_
  obtain ⟨h_8, g8, hM⟩ := Option.bind_eq_some_iff.mp hM
  refine z_put (pc := 34) (k := 1) C g8 rfl inlX0 tyX0 tyX0_ok nmX0 (by decide) q_243 (fun _ h9 => h9) rfl (tyX0_ok 1 (by decide)) rfl rfl dX4_move_34 ?_
  refine z_aload_n (k := 1) (pc := 37) C dX4_move_37 rfl ?_
  obtain ⟨r9, g9, hM⟩ := Option.bind_eq_some_iff.mp hM
  refine z_getR (pc := 38) (k := 0) C g9 rfl inlX4 (by decide) q_16 (fun _ h9 => h9) dX4_move_38 ?_
  obtain ⟨_, g10, hM⟩ := Option.bind_eq_some_iff.mp hM
  obtain ⟨r11, g11, hM⟩ := Option.bind_eq_some_iff.mp hM
  refine z_goN (kc := 0) (ks := 0) ([]) (z_callV (pc := 41) (As := []) (rest := []) (n := 0) (ci := 2) C (c_X1_layOut l hl G lo t0 h_8 nx r9 r11 g11) g10 rfl q_235 q_191 q_192 q_15 q_193 ⟨rfl, by decide +kernel, by decide +kernel, by decide +kernel⟩ ⟨Nat.le_of_ble_eq_true rfl, Nat.le_of_ble_eq_true rfl⟩ rfl (Nat.le_of_ble_eq_true rfl) dX4_move_41 ⟨(Nat.zero_le _), (Nat.zero_le _)⟩) rfl (Nat.le_of_ble_eq_true rfl) (Nat.le_of_ble_eq_true rfl) ?_
  refine z_aload_n (k := 1) (pc := 44) C dX4_move_44 rfl ?_
  obtain ⟨r12, g12, hM⟩ := Option.bind_eq_some_iff.mp hM
  refine z_getR (pc := 45) (k := 0) C g12 rfl inlX4 (by decide) q_16 (fun _ h9 => h9) dX4_move_45 ?_
  obtain ⟨_, g13, hM⟩ := Option.bind_eq_some_iff.mp hM
  obtain ⟨r14, g14, hM⟩ := Option.bind_eq_some_iff.mp hM
  refine z_goN (kc := 0) (ks := 0) ([.int r14]) (z_callV (pc := 48) (As := []) (rest := []) (n := 0) (ci := 2) C (c_X1_covered l hl G lo t0 r11 nx r12 r14 g14) g13 rfl q_244 q_245 q_246 q_15 q_247 ⟨rfl, by decide +kernel, by decide +kernel, by decide +kernel⟩ ⟨Nat.le_of_ble_eq_true rfl, Nat.le_of_ble_eq_true rfl⟩ rfl (Nat.le_of_ble_eq_true rfl) dX4_move_48 ⟨(Nat.zero_le _), (Nat.zero_le _)⟩) rfl (Nat.le_of_ble_eq_true rfl) (Nat.le_of_ble_eq_true rfl) ?_
  cases hM
  exact z_iret (pc := 51) C rfl (Nat.zero_le _) (Nat.zero_le _) dX4_move_51
set_option maxHeartbeats 4000000 in
set_option maxRecDepth 100000 in
theorem c_X4_take (l : Launch) (hl : l.stackTraces = false) (G : zG) (lo t0 : Nat) (h : zH) (nx : Nat) (a0 : Nat) (x1 : Int32) (o : String ⊕ (Int32 × zH)) (hM : M_X4_take h a0 x1 = some o) : z_Met l yX4_take cX4_take 2 (some .int) 7 127 G lo t0 [.ref a0, .int x1] h nx (z_eo h o (fun z : Int32 × zH => (some (.int z.1), z.2, nx))) (z_mo o 1 0) (z_mo o 6 0) := by
  refine z_of [(0, .ref a0), (1, .int x1)] (by decide) (Nat.le_of_ble_eq_true rfl) rfl (fun p e s m below meth c C hin => ?_)
  unfold M_X4_take at hM
  refine z_aload_n (k := 0) (pc := 0) C dX4_take_0 rfl ?_
  obtain ⟨r1, g1, hM⟩ := Option.bind_eq_some_iff.mp hM
  refine z_getR (pc := 1) (k := 0) C g1 rfl inlX4 (by decide) q_16 (fun _ h9 => h9) dX4_take_1 ?_
  refine z_iload_n (k := 1) (pc := 4) C dX4_take_4 rfl ?_
  obtain ⟨_, g2, hM⟩ := Option.bind_eq_some_iff.mp hM
  rcases z_tb_c hM with ⟨Er3, g3, rfl⟩ | ⟨r3, g3, hM⟩
  · exact z_goX C ne_X4 (z_callV (pc := 5) (As := [.int x1]) (rest := []) (n := 1) (ci := 2) C (c_X1_drop l hl G lo t0 h nx r1 x1 (.inl Er3) g3) g2 rfl q_275 q_276 q_277 q_15 q_278 ⟨rfl, by decide +kernel, by decide +kernel, by decide +kernel⟩ ⟨Nat.le_of_ble_eq_true rfl, Nat.le_of_ble_eq_true rfl⟩ rfl (Nat.le_of_ble_eq_true rfl) dX4_take_5 ⟨Nat.le_of_ble_eq_true rfl, Nat.le_of_ble_eq_true rfl⟩) (Nat.le_of_ble_eq_true rfl) (Nat.le_of_ble_eq_true rfl)
  refine z_goN (kc := 0) (ks := 0) ([]) (z_callV (pc := 5) (As := [.int x1]) (rest := []) (n := 1) (ci := 2) C (c_X1_drop l hl G lo t0 h nx r1 x1 (.inr r3) g3) g2 rfl q_275 q_276 q_277 q_15 q_278 ⟨rfl, by decide +kernel, by decide +kernel, by decide +kernel⟩ ⟨Nat.le_of_ble_eq_true rfl, Nat.le_of_ble_eq_true rfl⟩ rfl (Nat.le_of_ble_eq_true rfl) dX4_take_5 ⟨(Nat.zero_le _), (Nat.zero_le _)⟩) rfl (Nat.le_of_ble_eq_true rfl) (Nat.le_of_ble_eq_true rfl) ?_
  refine z_aload_n (k := 0) (pc := 8) C dX4_take_8 rfl ?_
  obtain ⟨r4, g4, hM⟩ := Option.bind_eq_some_iff.mp hM
  refine z_getR (pc := 9) (k := 0) C g4 rfl inlX4 (by decide) q_16 (fun _ h9 => h9) dX4_take_9 ?_
  obtain ⟨_, g5, hM⟩ := Option.bind_eq_some_iff.mp hM
  obtain ⟨r6, g6, hM⟩ := Option.bind_eq_some_iff.mp hM
  refine z_goN (kc := 0) (ks := 0) ([.int r6]) (z_callV (pc := 12) (As := []) (rest := []) (n := 0) (ci := 2) C (c_X1_size l hl G lo t0 r3 nx r4 r6 g6) g5 rfl q_116 q_117 q_118 q_15 q_119 ⟨rfl, by decide +kernel, by decide +kernel, by decide +kernel⟩ ⟨Nat.le_of_ble_eq_true rfl, Nat.le_of_ble_eq_true rfl⟩ rfl (Nat.le_of_ble_eq_true rfl) dX4_take_12 ⟨(Nat.zero_le _), (Nat.zero_le _)⟩) rfl (Nat.le_of_ble_eq_true rfl) (Nat.le_of_ble_eq_true rfl) ?_
  cases hM
  exact z_iret (pc := 15) C rfl (Nat.zero_le _) (Nat.zero_le _) dX4_take_15
set_option maxHeartbeats 4000000 in
set_option maxRecDepth 100000 in
theorem c_X4_requireCell (l : Launch) (hl : l.stackTraces = false) (G : zG) (lo t0 : Nat) (h : zH) (nx : Nat) (x0 : Int32) (x1 : Int32) (o : String ⊕ (Unit)) (hM : M_X4_requireCell x0 x1 = some o) : z_Met l yX4_requireCell cX4_requireCell 2 none 6 90 G lo t0 [.int x0, .int x1] h nx (z_eo h o (fun z : Unit => (none, h, nx))) (z_mo o 1 0) (z_mo o 6 0) := by
  refine z_of [(0, .int x0), (1, .int x1)] (by decide) (Nat.le_of_ble_eq_true rfl) rfl (fun p e s m below meth c C hin => ?_)
  unfold M_X4_requireCell at hM
  refine z_iload_n (k := 0) (pc := 0) C dX4_requireCell_0 rfl ?_
  refine z_iload_n (k := 1) (pc := 1) C dX4_requireCell_1 rfl ?_
  obtain ⟨r1, g1, hM⟩ := Option.bind_eq_some_iff.mp hM
  refine z_goN (kc := 0) (ks := 0) ([.int r1]) (z_callS (pc := 2) (As := [.int x0, .int x1]) (rest := []) (n := 2) C (c_X4_isCell l hl G lo t0 h nx x0 x1 r1 g1) q_298 q_223 q_2 q_224 ⟨by decide +kernel, by decide +kernel, by decide +kernel⟩ ⟨Nat.le_of_ble_eq_true rfl, Nat.le_of_ble_eq_true rfl⟩ rfl (Nat.le_of_ble_eq_true rfl) dX4_requireCell_2 ⟨(Nat.zero_le _), (Nat.zero_le _)⟩) rfl (Nat.le_of_ble_eq_true rfl) (Nat.le_of_ble_eq_true rfl) ?_
  refine z_if_ne (pc := 5) (tgt := 19) C dX4_requireCell_5 (by decide) hM (fun hc2 hM => ?_) (fun hc2 hM => ?_)
  · cases hM
    exact z_throwW (pc := 8) (text := "x or y is not 0 to 23") (names := ["java/lang/RuntimeException", "java/lang/Exception"]) C ne_X4 hl (by decide) (by decide) q_114 q_115 (by decide) ax_X4_182 ax_X4_182_b (by decide) ax_X4_182_g dX4_requireCell_8 dX4_requireCell_11 dX4_requireCell_12 dX4_requireCell_15 dX4_requireCell_18 (Nat.le_of_ble_eq_true rfl) (Nat.le_of_ble_eq_true rfl) (Nat.le_of_ble_eq_true rfl) (Nat.le_of_ble_eq_true rfl) rfl (Nat.le_of_ble_eq_true rfl) (Nat.le_of_ble_eq_true rfl)
  · cases hM
    exact z_vret (pc := 19) C rfl (Nat.zero_le _) (Nat.zero_le _) dX4_requireCell_19
set_option maxHeartbeats 4000000 in
set_option maxRecDepth 100000 in
theorem c_X4_hasStallAt (l : Launch) (hl : l.stackTraces = false) (G : zG) (lo t0 : Nat) (h : zH) (nx : Nat) (a0 : Nat) (x1 : Int32) (x2 : Int32) (o : Int32) (hM : M_X4_hasStallAt h a0 x1 x2 = some o) : z_Met l yX4_hasStallAt cX4_hasStallAt 5 (some .boolean) 3 64 G lo t0 [.ref a0, .int x1, .int x2] h nx (.inr (some (.int o), h, nx)) 0 0 := by
  refine z_of [(0, .ref a0), (1, .int x1), (2, .int x2)] (by decide) (Nat.le_of_ble_eq_true rfl) rfl (fun p e s m below meth c C hin => ?_)
  unfold M_X4_hasStallAt at hM
  refine z_iconst (v := (0 : Int32)) (pc := 0) C dX4_hasStallAt_0 (by decide) ?_
  refine z_istore_n (lv' := [(3, .int (0 : Int32)), (0, .ref a0), (1, .int x1), (2, .int x2)]) (pc := 1) C dX4_hasStallAt_1 (by decide) rfl ?_
  refine z_sub [1, 2, 3, 0] rfl (zl1 (fun (x3_1 : Int32) => [(0, .ref a0), (1, .int x1), (2, .int x2), (3, .int x3_1)]) (fun (x3_1 : Int32) => h) (fun (x3_1 : Int32) => nx) hM (fun rec1 irec1 x3_1 hM => ?_))
  refine z_iload_n (k := 3) (pc := 2) C dX4_hasStallAt_2 rfl ?_
  refine z_aload_n (k := 0) (pc := 3) C dX4_hasStallAt_3 rfl ?_
  obtain ⟨r2, g2, hM⟩ := Option.bind_eq_some_iff.mp hM
  refine z_getR (pc := 4) (k := 2) C g2 rfl inlX4 (by decide) q_24 (fun _ h9 => h9) dX4_hasStallAt_4 ?_
  obtain ⟨_, g3, hM⟩ := Option.bind_eq_some_iff.mp hM
  obtain ⟨r4, g4, hM⟩ := Option.bind_eq_some_iff.mp hM
  refine z_goN (kc := 0) (ks := 0) ([.int r4, .int x3_1]) (z_callV (pc := 7) (As := []) (rest := [.int x3_1]) (n := 0) (ci := 0) C (c_Jx4a65c_size_8abf5 l hl G lo t0 h nx r2 r4 g4) g3 rfl q_299 q_121 q_122 q_23 q_123 ⟨rfl, by decide +kernel, by decide +kernel, by decide +kernel⟩ ⟨Nat.le_of_ble_eq_true rfl, Nat.le_of_ble_eq_true rfl⟩ rfl (Nat.le_of_ble_eq_true rfl) dX4_hasStallAt_7 ⟨(Nat.zero_le _), (Nat.zero_le _)⟩) rfl (Nat.le_of_ble_eq_true rfl) (Nat.le_of_ble_eq_true rfl) ?_
  refine z_icmp_ge (pc := 10) (tgt := 52) C dX4_hasStallAt_10 (by decide) hM (fun hc14 hM => ?_) (fun hc14 hM => ?_)
  · refine z_iconst (v := (0 : Int32)) (pc := 52) C dX4_hasStallAt_52 (by decide) ?_
    cases hM
    exact z_zret (pc := 53) C (Or.inl rfl) rfl (Nat.zero_le _) (Nat.zero_le _) dX4_hasStallAt_53
  · refine z_aload_n (k := 0) (pc := 13) C dX4_hasStallAt_13 rfl ?_
    obtain ⟨r5, g5, hM⟩ := Option.bind_eq_some_iff.mp hM
    refine z_getR (pc := 14) (k := 2) C g5 rfl inlX4 (by decide) q_24 (fun _ h9 => h9) dX4_hasStallAt_14 ?_
    refine z_iload_n (k := 3) (pc := 17) C dX4_hasStallAt_17 rfl ?_
    obtain ⟨_, g6, hM⟩ := Option.bind_eq_some_iff.mp hM
    obtain ⟨r7, g7, hM⟩ := Option.bind_eq_some_iff.mp hM
    refine z_goN (kc := 0) (ks := 0) ([.ref r7]) (z_callV (pc := 18) (As := [.int x3_1]) (rest := []) (n := 1) (ci := 0) C (c_Jx4a65c_get_915e3 l hl G lo t0 h nx r5 x3_1 r7 g7) g6 rfl q_307 q_200 q_201 q_23 q_202 ⟨rfl, by decide +kernel, by decide +kernel, by decide +kernel⟩ ⟨Nat.le_of_ble_eq_true rfl, Nat.le_of_ble_eq_true rfl⟩ rfl (Nat.le_of_ble_eq_true rfl) dX4_hasStallAt_18 ⟨(Nat.zero_le _), (Nat.zero_le _)⟩) rfl (Nat.le_of_ble_eq_true rfl) (Nat.le_of_ble_eq_true rfl) ?_
    obtain ⟨_, g8, hM⟩ := Option.bind_eq_some_iff.mp hM
    refine z_cast (pc := 21) C g8 (ci := 4) rfl q_304 dX4_hasStallAt_21 ?_
    refine z_astore (lv' := [(4, .ref r7), (0, .ref a0), (1, .int x1), (2, .int x2), (3, .int x3_1)]) (pc := 24) C dX4_hasStallAt_24 (by decide) rfl ?_
    refine z_aload (k := 0) (pc := 26) C dX4_hasStallAt_26 rfl ?_
    obtain ⟨r9, g9, hM⟩ := Option.bind_eq_some_iff.mp hM
    refine z_getI (pc := 28) (k := 0) C g9 rfl inlX3 (by decide) q_305 (fun _ h9 => h9) dX4_hasStallAt_28 ?_
    refine z_iload_n (k := 2) (pc := 31) C dX4_hasStallAt_31 rfl ?_
    refine zj0 0 0 46 ([(0, .ref a0), (1, .int x1), (2, .int x2), (3, .int x3_1)]) ([]) (h) (nx) hM (fun  hM => ?_) (fun J10 iJ10 hM => ?_)
    · refine z_iinc (k := 3) (v := (x3_1 + (1 : Int32))) (lv' := [(3, .int (x3_1 + (1 : Int32))), (0, .ref a0), (1, .int x1), (2, .int x2)]) (pc := 46) C dX4_hasStallAt_46 rfl (by first | rfl | decide) (by decide) rfl ?_
      refine z_goto (pc := 49) (tgt := 2) C dX4_hasStallAt_49 (by decide) ?_
      exact z_sub [1, 2, 3, 0] rfl (irec1 (x3_1 + (1 : Int32)) hM)
    refine z_icmp_ne (pc := 32) (tgt := 46) C dX4_hasStallAt_32 (by decide) hM (fun hc13 hM => ?_) (fun hc13 hM => ?_)
    · refine z_aload (k := 0) (pc := 35) C dX4_hasStallAt_35 rfl ?_
      obtain ⟨r11, g11, hM⟩ := Option.bind_eq_some_iff.mp hM
      refine z_getI (pc := 37) (k := 1) C g11 rfl inlX3 (by decide) q_306 (fun _ h9 => h9) dX4_hasStallAt_37 ?_
      refine z_iload_n (k := 3) (pc := 40) C dX4_hasStallAt_40 rfl ?_
      refine z_icmp_ne (pc := 41) (tgt := 46) C dX4_hasStallAt_41 (by decide) hM (fun hc12 hM => ?_) (fun hc12 hM => ?_)
      · refine z_iconst (v := (1 : Int32)) (pc := 44) C dX4_hasStallAt_44 (by decide) ?_
        cases hM
        exact z_zret (pc := 45) C (Or.inr rfl) rfl (Nat.zero_le _) (Nat.zero_le _) dX4_hasStallAt_45
      · exact z_sub [1, 2, 3, 4] rfl (iJ10 hM)
    · exact z_sub [1, 2, 3, 4] rfl (iJ10 hM)
set_option maxHeartbeats 4000000 in
set_option maxRecDepth 100000 in
theorem c_X4_groundAt (l : Launch) (hl : l.stackTraces = false) (G : zG) (lo t0 : Nat) (h : zH) (nx : Nat) (a0 : Nat) (x1 : Int32) (x2 : Int32) (o : Int32) (hM : M_X4_groundAt h a0 x1 x2 = some o) : z_Met l yX4_groundAt cX4_groundAt 3 (some .int) 1 21 G lo t0 [.ref a0, .int x1, .int x2] h nx (.inr (some (.int o), h, nx)) 0 0 := by
  refine z_of [(0, .ref a0), (1, .int x1), (2, .int x2)] (by decide) (Nat.le_of_ble_eq_true rfl) rfl (fun p e s m below meth c C hin => ?_)
  unfold M_X4_groundAt at hM
  refine z_iload_n (k := 1) (pc := 0) C dX4_groundAt_0 rfl ?_
  refine z_iload_n (k := 2) (pc := 1) C dX4_groundAt_1 rfl ?_
  obtain ⟨r1, g1, hM⟩ := Option.bind_eq_some_iff.mp hM
  refine z_goN (kc := 0) (ks := 0) ([.int r1]) (z_callS (pc := 2) (As := [.int x1, .int x2]) (rest := []) (n := 2) C (c_X4_isCell l hl G lo t0 h nx x1 x2 r1 g1) q_298 q_223 q_2 q_224 ⟨by decide +kernel, by decide +kernel, by decide +kernel⟩ ⟨Nat.le_of_ble_eq_true rfl, Nat.le_of_ble_eq_true rfl⟩ rfl (Nat.le_of_ble_eq_true rfl) dX4_groundAt_2 ⟨(Nat.zero_le _), (Nat.zero_le _)⟩) rfl (Nat.le_of_ble_eq_true rfl) (Nat.le_of_ble_eq_true rfl) ?_
  refine z_if_eq (pc := 5) (tgt := 22) C dX4_groundAt_5 (by decide) hM (fun hc4 hM => ?_) (fun hc4 hM => ?_)
  · refine z_iconst (v := (0 : Int32)) (pc := 22) C dX4_groundAt_22 (by decide) ?_
    cases hM
    exact z_iret (pc := 23) C rfl (Nat.zero_le _) (Nat.zero_le _) dX4_groundAt_23
  · refine z_aload_n (k := 0) (pc := 8) C dX4_groundAt_8 rfl ?_
    obtain ⟨r2, g2, hM⟩ := Option.bind_eq_some_iff.mp hM
    refine z_getR (pc := 9) (k := 3) C g2 rfl inlX4 (by decide) q_26 (fun _ h9 => h9) dX4_groundAt_9 ?_
    refine z_iload_n (k := 2) (pc := 12) C dX4_groundAt_12 rfl ?_
    refine z_bipush (v := (24 : Int32)) (pc := 13) C dX4_groundAt_13 (by decide) ?_
    refine z_imul (pc := 15) C dX4_groundAt_15 ?_
    refine z_iload_n (k := 1) (pc := 16) C dX4_groundAt_16 rfl ?_
    refine z_iadd (pc := 17) C dX4_groundAt_17 ?_
    obtain ⟨r3, g3, hM⟩ := Option.bind_eq_some_iff.mp hM
    refine z_iald (pc := 18) C g3 dX4_groundAt_18 ?_
    refine z_goto (pc := 19) (tgt := 23) C dX4_groundAt_19 (by decide) ?_
    cases hM
    exact z_iret (pc := 23) C rfl (Nat.zero_le _) (Nat.zero_le _) dX4_groundAt_23
set_option maxHeartbeats 4000000 in
set_option maxRecDepth 100000 in
theorem c_X4_stall (l : Launch) (hl : l.stackTraces = false) (G : zG) (lo t0 : Nat) (h : zH) (nx : Nat) (a0 : Nat) (x1 : Int32) (x2 : Int32) (o : String ⊕ (Int32 × zH × Nat)) (hM : M_X4_stall h nx t0 a0 x1 x2 = some o) : z_Met l yX4_stall cX4_stall 3 (some .int) 7 111 G lo t0 [.ref a0, .int x1, .int x2] h nx (z_eo h o (fun z : Int32 × zH × Nat => (some (.int z.1), z.2.1, z.2.2))) 2 13 := by
  refine z_of [(0, .ref a0), (1, .int x1), (2, .int x2)] (by decide) (Nat.le_of_ble_eq_true rfl) rfl (fun p e s m below meth c C hin => ?_)
  unfold M_X4_stall at hM
  refine z_iload_n (k := 1) (pc := 0) C dX4_stall_0 rfl ?_
  refine z_iload_n (k := 2) (pc := 1) C dX4_stall_1 rfl ?_
  rcases z_tb_c hM with ⟨Er1, g1, rfl⟩ | ⟨r1, g1, hM⟩
  · exact z_goX C ne_X4 (z_callS (pc := 2) (As := [.int x1, .int x2]) (rest := []) (n := 2) C (c_X4_requireCell l hl G lo t0 h nx x1 x2 (.inl Er1) g1) q_295 q_296 q_2 q_297 ⟨by decide +kernel, by decide +kernel, by decide +kernel⟩ ⟨Nat.le_of_ble_eq_true rfl, Nat.le_of_ble_eq_true rfl⟩ rfl (Nat.le_of_ble_eq_true rfl) dX4_stall_2 ⟨Nat.le_of_ble_eq_true rfl, Nat.le_of_ble_eq_true rfl⟩) (Nat.le_of_ble_eq_true rfl) (Nat.le_of_ble_eq_true rfl)
  refine z_goN (kc := 0) (ks := 0) ([]) (z_callS (pc := 2) (As := [.int x1, .int x2]) (rest := []) (n := 2) C (c_X4_requireCell l hl G lo t0 h nx x1 x2 (.inr r1) g1) q_295 q_296 q_2 q_297 ⟨by decide +kernel, by decide +kernel, by decide +kernel⟩ ⟨Nat.le_of_ble_eq_true rfl, Nat.le_of_ble_eq_true rfl⟩ rfl (Nat.le_of_ble_eq_true rfl) dX4_stall_2 ⟨(Nat.zero_le _), (Nat.zero_le _)⟩) rfl (Nat.le_of_ble_eq_true rfl) (Nat.le_of_ble_eq_true rfl) ?_
  refine z_aload_n (k := 0) (pc := 5) C dX4_stall_5 rfl ?_
  obtain ⟨r2, g2, hM⟩ := Option.bind_eq_some_iff.mp hM
  refine z_getR (pc := 6) (k := 2) C g2 rfl inlX4 (by decide) q_24 (fun _ h9 => h9) dX4_stall_6 ?_
  obtain ⟨_, g3, hM⟩ := Option.bind_eq_some_iff.mp hM
  obtain ⟨r4, g4, hM⟩ := Option.bind_eq_some_iff.mp hM
  refine z_goN (kc := 0) (ks := 0) ([.int r4]) (z_callV (pc := 9) (As := []) (rest := []) (n := 0) (ci := 0) C (c_Jx4a65c_size_8abf5 l hl G lo t0 h nx r2 r4 g4) g3 rfl q_299 q_121 q_122 q_23 q_123 ⟨rfl, by decide +kernel, by decide +kernel, by decide +kernel⟩ ⟨Nat.le_of_ble_eq_true rfl, Nat.le_of_ble_eq_true rfl⟩ rfl (Nat.le_of_ble_eq_true rfl) dX4_stall_9 ⟨(Nat.zero_le _), (Nat.zero_le _)⟩) rfl (Nat.le_of_ble_eq_true rfl) (Nat.le_of_ble_eq_true rfl) ?_
  refine z_bipush (v := (8 : Int32)) (pc := 12) C dX4_stall_12 (by decide) ?_
  refine z_icmp_lt (pc := 14) (tgt := 27) C dX4_stall_14 (by decide) hM (fun hc17 hM => ?_) (fun hc17 hM => ?_)
  · refine z_aload_n (k := 0) (pc := 27) C dX4_stall_27 rfl ?_
    refine z_iload_n (k := 1) (pc := 28) C dX4_stall_28 rfl ?_
    refine z_iload_n (k := 2) (pc := 29) C dX4_stall_29 rfl ?_
    obtain ⟨_, g5, hM⟩ := Option.bind_eq_some_iff.mp hM
    obtain ⟨r6, g6, hM⟩ := Option.bind_eq_some_iff.mp hM
    refine z_goN (kc := 0) (ks := 0) ([.int r6]) (z_callV (pc := 30) (As := [.int x1, .int x2]) (rest := []) (n := 2) (ci := 5) C (c_X4_hasStallAt l hl G lo t0 h nx a0 x1 x2 r6 g6) g5 rfl q_300 q_301 q_302 q_2 q_303 ⟨rfl, by decide +kernel, by decide +kernel, by decide +kernel⟩ ⟨Nat.le_of_ble_eq_true rfl, Nat.le_of_ble_eq_true rfl⟩ rfl (Nat.le_of_ble_eq_true rfl) dX4_stall_30 ⟨(Nat.zero_le _), (Nat.zero_le _)⟩) rfl (Nat.le_of_ble_eq_true rfl) (Nat.le_of_ble_eq_true rfl) ?_
    refine z_if_eq (pc := 33) (tgt := 46) C dX4_stall_33 (by decide) hM (fun hc16 hM => ?_) (fun hc16 hM => ?_)
    · refine z_aload_n (k := 0) (pc := 46) C dX4_stall_46 rfl ?_
      obtain ⟨r7, g7, hM⟩ := Option.bind_eq_some_iff.mp hM
      refine z_getR (pc := 47) (k := 2) C g7 rfl inlX4 (by decide) q_24 (fun _ h9 => h9) dX4_stall_47 ?_
      refine z_new (pc := 50) C [.int 0, .int 0, .int 0] (ci := 4) rfl inlX3 tyX3 tyX3_ok q_304 q_293 q_294 (fun j hj => by rcases (show j = 0 ∨ j = 1 ∨ j = 2 by omega) with rfl | rfl | rfl <;> rfl) (Nat.le_of_ble_eq_true rfl) (Nat.le_of_ble_eq_true rfl) dX4_stall_50 ?_
      refine z_dup (pc := 53) C dX4_stall_53 rfl ?_
      refine z_iload_n (k := 1) (pc := 54) C dX4_stall_54 rfl ?_
      refine z_iload_n (k := 2) (pc := 55) C dX4_stall_55 rfl ?_
      refine z_aload_n (k := 0) (pc := 56) C dX4_stall_56 rfl ?_
      refine z_iload_n (k := 1) (pc := 57) C dX4_stall_57 rfl ?_
      refine z_iload_n (k := 2) (pc := 58) C dX4_stall_58 rfl ?_
      obtain ⟨_, g8, hM⟩ := Option.bind_eq_some_iff.mp hM
      obtain ⟨r9, g9, hM⟩ := Option.bind_eq_some_iff.mp hM
      refine z_goN (kc := 1) (ks := 3) ([.int r9, .int x2, .int x1, .ref nx, .ref nx, .ref r7]) (z_callV (pc := 59) (As := [.int x1, .int x2]) (rest := [.int x2, .int x1, .ref nx, .ref nx, .ref r7]) (n := 2) (ci := 5) C (c_X4_groundAt l hl G lo t0 (z_up h nx (zO 4 [.int 0, .int 0, .int 0])) (nx + 1) a0 x1 x2 r9 g9) g8 rfl q_308 q_309 q_310 q_2 q_311 ⟨rfl, by decide +kernel, by decide +kernel, by decide +kernel⟩ ⟨Nat.le_of_ble_eq_true rfl, Nat.le_of_ble_eq_true rfl⟩ rfl (Nat.le_of_ble_eq_true rfl) dX4_stall_59 ⟨(Nat.le_of_ble_eq_true rfl), (Nat.le_of_ble_eq_true rfl)⟩) rfl (Nat.le_of_ble_eq_true rfl) (Nat.le_of_ble_eq_true rfl) ?_
      obtain ⟨r10, g10, hM⟩ := Option.bind_eq_some_iff.mp hM
      refine z_goN (kc := 1) (ks := 3) ([.ref nx, .ref r7]) (z_callI (pc := 62) (As := [.int x1, .int x2, .int r9]) (rest := [.ref nx, .ref r7]) (n := 3) C (c_X3_init l hl G lo t0 (z_up h nx (zO 4 [.int 0, .int 0, .int 0])) (nx + 1) nx x1 x2 r9 r10 g10) rfl q_312 q_313 q_294 q_314 ⟨by decide +kernel, by decide +kernel, by decide +kernel⟩ ⟨Nat.le_of_ble_eq_true rfl, Nat.le_of_ble_eq_true rfl⟩ rfl (Nat.le_of_ble_eq_true rfl) dX4_stall_62 ⟨(Nat.le_of_ble_eq_true rfl), (Nat.le_of_ble_eq_true rfl)⟩) rfl (Nat.le_of_ble_eq_true rfl) (Nat.le_of_ble_eq_true rfl) ?_
      obtain ⟨_, g11, hM⟩ := Option.bind_eq_some_iff.mp hM
      obtain ⟨r12, g12, hM⟩ := Option.bind_eq_some_iff.mp hM
      refine z_goN (kc := 2) (ks := 13) ([.int r12.1]) (z_callV (pc := 65) (As := [.ref nx]) (rest := []) (n := 1) (ci := 0) C (c_Jx4a65c_add_9ea2d l hl G lo t0 r10 (nx + 1) r7 nx r12 g12) g11 rfl q_319 q_142 q_143 q_23 q_144 ⟨rfl, by decide +kernel, by decide +kernel, by decide +kernel⟩ ⟨Nat.le_of_ble_eq_true rfl, Nat.le_of_ble_eq_true rfl⟩ rfl (Nat.le_of_ble_eq_true rfl) dX4_stall_65 ⟨(Nat.le_of_ble_eq_true rfl), (Nat.le_of_ble_eq_true rfl)⟩) rfl (Nat.le_of_ble_eq_true rfl) (Nat.le_of_ble_eq_true rfl) ?_
      refine z_pop (pc := 68) C dX4_stall_68 rfl ?_
      refine z_aload_n (k := 0) (pc := 69) C dX4_stall_69 rfl ?_
      obtain ⟨r13, g13, hM⟩ := Option.bind_eq_some_iff.mp hM
      refine z_getR (pc := 70) (k := 2) C g13 rfl inlX4 (by decide) q_24 (fun _ h9 => h9) dX4_stall_70 ?_
      obtain ⟨_, g14, hM⟩ := Option.bind_eq_some_iff.mp hM
      obtain ⟨r15, g15, hM⟩ := Option.bind_eq_some_iff.mp hM
      refine z_goN (kc := 2) (ks := 13) ([.int r15]) (z_callV (pc := 73) (As := []) (rest := []) (n := 0) (ci := 0) C (c_Jx4a65c_size_8abf5 l hl G lo t0 r12.2.1 r12.2.2 r13 r15 g15) g14 rfl q_299 q_121 q_122 q_23 q_123 ⟨rfl, by decide +kernel, by decide +kernel, by decide +kernel⟩ ⟨Nat.le_of_ble_eq_true rfl, Nat.le_of_ble_eq_true rfl⟩ rfl (Nat.le_of_ble_eq_true rfl) dX4_stall_73 ⟨(Nat.le_of_ble_eq_true rfl), (Nat.le_of_ble_eq_true rfl)⟩) rfl (Nat.le_of_ble_eq_true rfl) (Nat.le_of_ble_eq_true rfl) ?_
      refine z_iconst (v := (1 : Int32)) (pc := 76) C dX4_stall_76 (by decide) ?_
      refine z_isub (pc := 77) C dX4_stall_77 ?_
      cases hM
      exact z_iret (pc := 78) C rfl (Nat.le_of_ble_eq_true rfl) (Nat.le_of_ble_eq_true rfl) dX4_stall_78
    · cases hM
      exact z_throw (pc := 36) (text := "a stall is there") (names := ["java/lang/RuntimeException", "java/lang/Exception"]) C ne_X4 hl (by decide) (by decide) q_103 q_104 (by decide) ax_X4_71 ax_X4_71_b (by decide) ax_X4_71_g dX4_stall_36 dX4_stall_39 dX4_stall_40 dX4_stall_42 dX4_stall_45 (Nat.le_of_ble_eq_true rfl) (Nat.le_of_ble_eq_true rfl) (Nat.le_of_ble_eq_true rfl) (Nat.le_of_ble_eq_true rfl) rfl (Nat.le_of_ble_eq_true rfl) (Nat.le_of_ble_eq_true rfl)
  · cases hM
    exact z_throw (pc := 17) (text := "there are 8 stalls") (names := ["java/lang/RuntimeException", "java/lang/Exception"]) C ne_X4 hl (by decide) (by decide) q_103 q_104 (by decide) ax_X4_71 ax_X4_71_b (by decide) ax_X4_71_g dX4_stall_17 dX4_stall_20 dX4_stall_21 dX4_stall_23 dX4_stall_26 (Nat.le_of_ble_eq_true rfl) (Nat.le_of_ble_eq_true rfl) (Nat.le_of_ble_eq_true rfl) (Nat.le_of_ble_eq_true rfl) rfl (Nat.le_of_ble_eq_true rfl) (Nat.le_of_ble_eq_true rfl)
set_option maxHeartbeats 4000000 in
set_option maxRecDepth 100000 in
theorem c_X4_requireDrops (l : Launch) (hl : l.stackTraces = false) (G : zG) (lo t0 : Nat) (h : zH) (nx : Nat) (x0 : Int32) (o : String ⊕ (Unit)) (hM : M_X4_requireDrops x0 = some o) : z_Met l yX4_requireDrops cX4_requireDrops 1 none 6 90 G lo t0 [.int x0] h nx (z_eo h o (fun z : Unit => (none, h, nx))) (z_mo o 1 0) (z_mo o 6 0) := by
  refine z_of [(0, .int x0)] (by decide) (Nat.le_of_ble_eq_true rfl) rfl (fun p e s m below meth c C hin => ?_)
  unfold M_X4_requireDrops at hM
  refine z_iload_n (k := 0) (pc := 0) C dX4_requireDrops_0 rfl ?_
  refine z_iconst (v := (1 : Int32)) (pc := 1) C dX4_requireDrops_1 (by decide) ?_
  refine z_icmp_lt (pc := 2) (tgt := 11) C dX4_requireDrops_2 (by decide) hM (fun hc2 hM => ?_) (fun hc2 hM => ?_)
  · cases hM
    exact z_throwW (pc := 11) (text := "drops is not 1 to 20") (names := ["java/lang/RuntimeException", "java/lang/Exception"]) C ne_X4 hl (by decide) (by decide) q_101 q_102 (by decide) ax_X4_54 ax_X4_54_b (by decide) ax_X4_54_g dX4_requireDrops_11 dX4_requireDrops_14 dX4_requireDrops_15 dX4_requireDrops_18 dX4_requireDrops_21 (Nat.le_of_ble_eq_true rfl) (Nat.le_of_ble_eq_true rfl) (Nat.le_of_ble_eq_true rfl) (Nat.le_of_ble_eq_true rfl) rfl (Nat.le_of_ble_eq_true rfl) (Nat.le_of_ble_eq_true rfl)
  · refine z_iload_n (k := 0) (pc := 5) C dX4_requireDrops_5 rfl ?_
    refine z_bipush (v := (20 : Int32)) (pc := 6) C dX4_requireDrops_6 (by decide) ?_
    refine z_icmp_le (pc := 8) (tgt := 22) C dX4_requireDrops_8 (by decide) hM (fun hc1 hM => ?_) (fun hc1 hM => ?_)
    · cases hM
      exact z_vret (pc := 22) C rfl (Nat.zero_le _) (Nat.zero_le _) dX4_requireDrops_22
    · cases hM
      exact z_throwW (pc := 11) (text := "drops is not 1 to 20") (names := ["java/lang/RuntimeException", "java/lang/Exception"]) C ne_X4 hl (by decide) (by decide) q_101 q_102 (by decide) ax_X4_54 ax_X4_54_b (by decide) ax_X4_54_g dX4_requireDrops_11 dX4_requireDrops_14 dX4_requireDrops_15 dX4_requireDrops_18 dX4_requireDrops_21 (Nat.le_of_ble_eq_true rfl) (Nat.le_of_ble_eq_true rfl) (Nat.le_of_ble_eq_true rfl) (Nat.le_of_ble_eq_true rfl) rfl (Nat.le_of_ble_eq_true rfl) (Nat.le_of_ble_eq_true rfl)
set_option maxHeartbeats 4000000 in
set_option maxRecDepth 100000 in
theorem c_X4_rain (l : Launch) (hl : l.stackTraces = false) (G : zG) (lo t0 : Nat) (h : zH) (nx : Nat) (a0 : Nat) (x1 : Int32) (o : String ⊕ (Int32 × zH)) (hM : M_X4_rain h a0 x1 = some o) : z_Met l yX4_rain cX4_rain 4 (some .int) 9 189 G lo t0 [.ref a0, .int x1] h nx (z_eo h o (fun z : Int32 × zH => (some (.int z.1), z.2, nx))) (z_mo o 1 0) (z_mo o 6 0) := by
  refine z_of [(0, .ref a0), (1, .int x1)] (by decide) (Nat.le_of_ble_eq_true rfl) rfl (fun p e s m below meth c C hin => ?_)
  unfold M_X4_rain at hM
  refine z_iload_n (k := 1) (pc := 0) C dX4_rain_0 rfl ?_
  rcases z_tb_c hM with ⟨Er1, g1, rfl⟩ | ⟨r1, g1, hM⟩
  · exact z_goX C ne_X4 (z_callS (pc := 1) (As := [.int x1]) (rest := []) (n := 1) C (c_X4_requireDrops l hl G lo t0 h nx x1 (.inl Er1) g1) q_327 q_328 q_2 q_329 ⟨by decide +kernel, by decide +kernel, by decide +kernel⟩ ⟨Nat.le_of_ble_eq_true rfl, Nat.le_of_ble_eq_true rfl⟩ rfl (Nat.le_of_ble_eq_true rfl) dX4_rain_1 ⟨Nat.le_of_ble_eq_true rfl, Nat.le_of_ble_eq_true rfl⟩) (Nat.le_of_ble_eq_true rfl) (Nat.le_of_ble_eq_true rfl)
  refine z_goN (kc := 0) (ks := 0) ([]) (z_callS (pc := 1) (As := [.int x1]) (rest := []) (n := 1) C (c_X4_requireDrops l hl G lo t0 h nx x1 (.inr r1) g1) q_327 q_328 q_2 q_329 ⟨by decide +kernel, by decide +kernel, by decide +kernel⟩ ⟨Nat.le_of_ble_eq_true rfl, Nat.le_of_ble_eq_true rfl⟩ rfl (Nat.le_of_ble_eq_true rfl) dX4_rain_1 ⟨(Nat.zero_le _), (Nat.zero_le _)⟩) rfl (Nat.le_of_ble_eq_true rfl) (Nat.le_of_ble_eq_true rfl) ?_
  refine z_aload_n (k := 0) (pc := 4) C dX4_rain_4 rfl ?_
  obtain ⟨r2, g2, hM⟩ := Option.bind_eq_some_iff.mp hM
  refine z_getR (pc := 5) (k := 1) C g2 rfl inlX4 (by decide) q_20 (fun _ h9 => h9) dX4_rain_5 ?_
  refine z_iload_n (k := 1) (pc := 8) C dX4_rain_8 rfl ?_
  obtain ⟨_, g3, hM⟩ := Option.bind_eq_some_iff.mp hM
  obtain ⟨r4, g4, hM⟩ := Option.bind_eq_some_iff.mp hM
  refine z_goN (kc := 0) (ks := 0) ([]) (z_callV (pc := 9) (As := [.int x1]) (rest := []) (n := 1) (ci := 3) C (c_X2_pour l hl G lo t0 h nx r2 x1 r4 g4) g3 rfl q_330 q_331 q_332 q_19 q_333 ⟨rfl, by decide +kernel, by decide +kernel, by decide +kernel⟩ ⟨Nat.le_of_ble_eq_true rfl, Nat.le_of_ble_eq_true rfl⟩ rfl (Nat.le_of_ble_eq_true rfl) dX4_rain_9 ⟨(Nat.zero_le _), (Nat.zero_le _)⟩) rfl (Nat.le_of_ble_eq_true rfl) (Nat.le_of_ble_eq_true rfl) ?_
  refine z_iconst (v := (0 : Int32)) (pc := 12) C dX4_rain_12 (by decide) ?_
  refine z_istore_n (lv' := [(2, .int (0 : Int32)), (0, .ref a0), (1, .int x1)]) (pc := 13) C dX4_rain_13 (by decide) rfl ?_
  refine z_sub [1, 0] rfl (zl2 (fun (x2_5 : Int32) (h_5 : zH) => [(0, .ref a0), (2, .int x2_5)]) (fun (x2_5 : Int32) (h_5 : zH) => h_5) (fun (x2_5 : Int32) (h_5 : zH) => nx) hM (fun rec5 irec5 x2_5 h_5 hM => ?_))
  refine z_iload_n (k := 1) (pc := 14) C dX4_rain_14 rfl ?_
  refine z_bipush (v := (24 : Int32)) (pc := 15) C dX4_rain_15 (by decide) ?_
  refine z_icmp_ge (pc := 17) (tgt := 63) C dX4_rain_17 (by decide) hM (fun hc39 hM => ?_) (fun hc39 hM => ?_)
  · refine z_iconst (v := (0 : Int32)) (pc := 63) C dX4_rain_63 (by decide) ?_
    refine z_istore_n (lv' := [(2, .int (0 : Int32)), (0, .ref a0)]) (pc := 64) C dX4_rain_64 (by decide) rfl ?_
    refine z_sub [1, 0] rfl (zl2 (fun (x2_6 : Int32) (h_6 : zH) => [(0, .ref a0), (2, .int x2_6)]) (fun (x2_6 : Int32) (h_6 : zH) => h_6) (fun (x2_6 : Int32) (h_6 : zH) => nx) hM (fun rec6 irec6 x2_6 h_6 hM => ?_))
    refine z_iload_n (k := 1) (pc := 65) C dX4_rain_65 rfl ?_
    refine z_aload_n (k := 0) (pc := 66) C dX4_rain_66 rfl ?_
    obtain ⟨r7, g7, hM⟩ := Option.bind_eq_some_iff.mp hM
    refine z_getR (pc := 67) (k := 0) C g7 rfl inlX4 (by decide) q_16 (fun _ h9 => h9) dX4_rain_67 ?_
    obtain ⟨_, g8, hM⟩ := Option.bind_eq_some_iff.mp hM
    obtain ⟨r9, g9, hM⟩ := Option.bind_eq_some_iff.mp hM
    refine z_goN (kc := 0) (ks := 0) ([.int r9, .int x2_6]) (z_callV (pc := 70) (As := []) (rest := [.int x2_6]) (n := 0) (ci := 2) C (c_X1_size l hl G lo t0 h_6 nx r7 r9 g9) g8 rfl q_116 q_117 q_118 q_15 q_119 ⟨rfl, by decide +kernel, by decide +kernel, by decide +kernel⟩ ⟨Nat.le_of_ble_eq_true rfl, Nat.le_of_ble_eq_true rfl⟩ rfl (Nat.le_of_ble_eq_true rfl) dX4_rain_70 ⟨(Nat.zero_le _), (Nat.zero_le _)⟩) rfl (Nat.le_of_ble_eq_true rfl) (Nat.le_of_ble_eq_true rfl) ?_
    refine z_icmp_ge (pc := 73) (tgt := 106) C dX4_rain_73 (by decide) hM (fun hc30 hM => ?_) (fun hc30 hM => ?_)
    · refine z_aload_n (k := 0) (pc := 106) C dX4_rain_106 rfl ?_
      refine z_dup (pc := 107) C dX4_rain_107 rfl ?_
      obtain ⟨r10, g10, hM⟩ := Option.bind_eq_some_iff.mp hM
      refine z_getI (pc := 108) (k := 4) C g10 rfl inlX4 (by decide) q_27 (fun _ h9 => h9) dX4_rain_108 ?_
      refine z_iconst (v := (1 : Int32)) (pc := 111) C dX4_rain_111 (by decide) ?_
      refine z_iadd (pc := 112) C dX4_rain_112 ?_
      obtain ⟨h_11, g11, hM⟩ := Option.bind_eq_some_iff.mp hM
      refine z_put (pc := 113) (k := 4) C g11 rfl inlX4 tyX4 tyX4_ok nmX4 (by decide) q_27 (fun _ h9 => h9) rfl (tyX4_ok 4 (by decide)) rfl rfl dX4_rain_113 ?_
      refine z_aload_n (k := 0) (pc := 116) C dX4_rain_116 rfl ?_
      refine z_dup (pc := 117) C dX4_rain_117 rfl ?_
      obtain ⟨r12, g12, hM⟩ := Option.bind_eq_some_iff.mp hM
      refine z_getI (pc := 118) (k := 5) C g12 rfl inlX4 (by decide) q_28 (fun _ h9 => h9) dX4_rain_118 ?_
      refine z_aload_n (k := 0) (pc := 121) C dX4_rain_121 rfl ?_
      obtain ⟨r13, g13, hM⟩ := Option.bind_eq_some_iff.mp hM
      refine z_getR (pc := 122) (k := 1) C g13 rfl inlX4 (by decide) q_20 (fun _ h9 => h9) dX4_rain_122 ?_
      obtain ⟨r14, g14, hM⟩ := Option.bind_eq_some_iff.mp hM
      refine z_getI (pc := 125) (k := 3) C g14 rfl inlX2 (by decide) q_325 (fun _ h9 => h9) dX4_rain_125 ?_
      refine z_iadd (pc := 128) C dX4_rain_128 ?_
      obtain ⟨h_15, g15, hM⟩ := Option.bind_eq_some_iff.mp hM
      refine z_put (pc := 129) (k := 5) C g15 rfl inlX4 tyX4 tyX4_ok nmX4 (by decide) q_28 (fun _ h9 => h9) rfl (tyX4_ok 5 (by decide)) rfl rfl dX4_rain_129 ?_
      refine z_aload_n (k := 0) (pc := 132) C dX4_rain_132 rfl ?_
      refine z_dup (pc := 133) C dX4_rain_133 rfl ?_
      obtain ⟨r16, g16, hM⟩ := Option.bind_eq_some_iff.mp hM
      refine z_getI (pc := 134) (k := 6) C g16 rfl inlX4 (by decide) q_29 (fun _ h9 => h9) dX4_rain_134 ?_
      refine z_aload_n (k := 0) (pc := 137) C dX4_rain_137 rfl ?_
      obtain ⟨r17, g17, hM⟩ := Option.bind_eq_some_iff.mp hM
      refine z_getR (pc := 138) (k := 1) C g17 rfl inlX4 (by decide) q_20 (fun _ h9 => h9) dX4_rain_138 ?_
      obtain ⟨r18, g18, hM⟩ := Option.bind_eq_some_iff.mp hM
      refine z_getI (pc := 141) (k := 4) C g18 rfl inlX2 (by decide) q_326 (fun _ h9 => h9) dX4_rain_141 ?_
      refine z_iadd (pc := 144) C dX4_rain_144 ?_
      obtain ⟨h_19, g19, hM⟩ := Option.bind_eq_some_iff.mp hM
      refine z_put (pc := 145) (k := 6) C g19 rfl inlX4 tyX4 tyX4_ok nmX4 (by decide) q_29 (fun _ h9 => h9) rfl (tyX4_ok 6 (by decide)) rfl rfl dX4_rain_145 ?_
      refine z_aload_n (k := 0) (pc := 148) C dX4_rain_148 rfl ?_
      obtain ⟨r20, g20, hM⟩ := Option.bind_eq_some_iff.mp hM
      refine z_getR (pc := 149) (k := 1) C g20 rfl inlX4 (by decide) q_20 (fun _ h9 => h9) dX4_rain_149 ?_
      obtain ⟨r21, g21, hM⟩ := Option.bind_eq_some_iff.mp hM
      refine z_getI (pc := 152) (k := 3) C g21 rfl inlX2 (by decide) q_325 (fun _ h9 => h9) dX4_rain_152 ?_
      cases hM
      exact z_iret (pc := 155) C rfl (Nat.zero_le _) (Nat.zero_le _) dX4_rain_155
    · refine z_aload_n (k := 0) (pc := 76) C dX4_rain_76 rfl ?_
      obtain ⟨r22, g22, hM⟩ := Option.bind_eq_some_iff.mp hM
      refine z_getR (pc := 77) (k := 0) C g22 rfl inlX4 (by decide) q_16 (fun _ h9 => h9) dX4_rain_77 ?_
      refine z_iload_n (k := 1) (pc := 80) C dX4_rain_80 rfl ?_
      obtain ⟨_, g23, hM⟩ := Option.bind_eq_some_iff.mp hM
      obtain ⟨r24, g24, hM⟩ := z_tn_c hM
      refine z_goN (kc := 0) (ks := 0) ([.ref r24]) (z_callV (pc := 81) (As := [.int x2_6]) (rest := []) (n := 1) (ci := 2) C (c_X1_numbered l hl G lo t0 h_6 nx r22 x2_6 (.inr r24) g24) g23 rfl q_230 q_231 q_232 q_15 q_233 ⟨rfl, by decide +kernel, by decide +kernel, by decide +kernel⟩ ⟨Nat.le_of_ble_eq_true rfl, Nat.le_of_ble_eq_true rfl⟩ rfl (Nat.le_of_ble_eq_true rfl) dX4_rain_81 ⟨(Nat.zero_le _), (Nat.zero_le _)⟩) rfl (Nat.le_of_ble_eq_true rfl) (Nat.le_of_ble_eq_true rfl) ?_
      refine z_dup (pc := 84) C dX4_rain_84 rfl ?_
      obtain ⟨r25, g25, hM⟩ := Option.bind_eq_some_iff.mp hM
      refine z_getI (pc := 85) (k := 7) C g25 rfl inlX0 (by decide) q_324 (fun _ h9 => h9) dX4_rain_85 ?_
      refine z_aload_n (k := 0) (pc := 88) C dX4_rain_88 rfl ?_
      obtain ⟨r26, g26, hM⟩ := Option.bind_eq_some_iff.mp hM
      refine z_getR (pc := 89) (k := 1) C g26 rfl inlX4 (by decide) q_20 (fun _ h9 => h9) dX4_rain_89 ?_
      refine z_iload_n (k := 1) (pc := 92) C dX4_rain_92 rfl ?_
      obtain ⟨_, g27, hM⟩ := Option.bind_eq_some_iff.mp hM
      obtain ⟨r28, g28, hM⟩ := Option.bind_eq_some_iff.mp hM
      refine z_goN (kc := 0) (ks := 0) ([.int r28, .int r25, .ref r24]) (z_callV (pc := 93) (As := [.int x2_6]) (rest := [.int r25, .ref r24]) (n := 1) (ci := 3) C (c_X2_caughtBy l hl G lo t0 h_6 nx r26 x2_6 r28 g28) g27 rfl q_388 q_361 q_362 q_19 q_363 ⟨rfl, by decide +kernel, by decide +kernel, by decide +kernel⟩ ⟨Nat.le_of_ble_eq_true rfl, Nat.le_of_ble_eq_true rfl⟩ rfl (Nat.le_of_ble_eq_true rfl) dX4_rain_93 ⟨(Nat.zero_le _), (Nat.zero_le _)⟩) rfl (Nat.le_of_ble_eq_true rfl) (Nat.le_of_ble_eq_true rfl) ?_
      refine z_iadd (pc := 96) C dX4_rain_96 ?_
      obtain ⟨h_29, g29, hM⟩ := Option.bind_eq_some_iff.mp hM
      refine z_put (pc := 97) (k := 7) C g29 rfl inlX0 tyX0 tyX0_ok nmX0 (by decide) q_324 (fun _ h9 => h9) rfl (tyX0_ok 7 (by decide)) rfl rfl dX4_rain_97 ?_
      refine z_iinc (k := 1) (v := (x2_6 + (1 : Int32))) (lv' := [(2, .int (x2_6 + (1 : Int32))), (0, .ref a0)]) (pc := 100) C dX4_rain_100 rfl (by first | rfl | decide) (by decide) rfl ?_
      refine z_goto (pc := 103) (tgt := 65) C dX4_rain_103 (by decide) ?_
      exact z_sub [1, 0] rfl (irec6 (x2_6 + (1 : Int32)) h_29 hM)
  · refine z_iconst (v := (0 : Int32)) (pc := 20) C dX4_rain_20 (by decide) ?_
    refine z_istore_n (lv' := [(3, .int (0 : Int32)), (0, .ref a0), (2, .int x2_5)]) (pc := 21) C dX4_rain_21 (by decide) rfl ?_
    refine z_sub [1, 2, 0] rfl (zl2 (fun (x3_31 : Int32) (h_31 : zH) => [(0, .ref a0), (2, .int x2_5), (3, .int x3_31)]) (fun (x3_31 : Int32) (h_31 : zH) => h_31) (fun (x3_31 : Int32) (h_31 : zH) => nx) hM (fun rec31 irec31 x3_31 h_31 hM => ?_))
    refine z_iload_n (k := 2) (pc := 22) C dX4_rain_22 rfl ?_
    refine z_bipush (v := (24 : Int32)) (pc := 23) C dX4_rain_23 (by decide) ?_
    refine z_icmp_ge (pc := 25) (tgt := 57) C dX4_rain_25 (by decide) hM (fun hc38 hM => ?_) (fun hc38 hM => ?_)
    · refine z_iinc (k := 1) (v := (x2_5 + (1 : Int32))) (lv' := [(2, .int (x2_5 + (1 : Int32))), (0, .ref a0), (3, .int x3_31)]) (pc := 57) C dX4_rain_57 rfl (by first | rfl | decide) (by decide) rfl ?_
      refine z_goto (pc := 60) (tgt := 14) C dX4_rain_60 (by decide) ?_
      exact z_sub [1, 0] rfl (irec5 (x2_5 + (1 : Int32)) h_31 hM)
    · refine z_aload_n (k := 0) (pc := 28) C dX4_rain_28 rfl ?_
      obtain ⟨r32, g32, hM⟩ := Option.bind_eq_some_iff.mp hM
      refine z_getR (pc := 29) (k := 3) C g32 rfl inlX4 (by decide) q_26 (fun _ h9 => h9) dX4_rain_29 ?_
      refine z_iload_n (k := 1) (pc := 32) C dX4_rain_32 rfl ?_
      refine z_bipush (v := (24 : Int32)) (pc := 33) C dX4_rain_33 (by decide) ?_
      refine z_imul (pc := 35) C dX4_rain_35 ?_
      refine z_iload_n (k := 2) (pc := 36) C dX4_rain_36 rfl ?_
      refine z_iadd (pc := 37) C dX4_rain_37 ?_
      refine z_dup2 (pc := 38) C dX4_rain_38 rfl rfl ?_
      obtain ⟨r33, g33, hM⟩ := Option.bind_eq_some_iff.mp hM
      refine z_iald (pc := 39) C g33 dX4_rain_39 ?_
      refine z_aload_n (k := 0) (pc := 40) C dX4_rain_40 rfl ?_
      obtain ⟨r34, g34, hM⟩ := Option.bind_eq_some_iff.mp hM
      refine z_getR (pc := 41) (k := 1) C g34 rfl inlX4 (by decide) q_20 (fun _ h9 => h9) dX4_rain_41 ?_
      refine z_iload_n (k := 2) (pc := 44) C dX4_rain_44 rfl ?_
      refine z_iload_n (k := 1) (pc := 45) C dX4_rain_45 rfl ?_
      obtain ⟨_, g35, hM⟩ := Option.bind_eq_some_iff.mp hM
      obtain ⟨r36, g36, hM⟩ := Option.bind_eq_some_iff.mp hM
      refine z_goN (kc := 0) (ks := 0) ([.int r36, .int r33, .int ((x2_5 * (24 : Int32)) + x3_31), .ref r32]) (z_callV (pc := 46) (As := [.int x3_31, .int x2_5]) (rest := [.int r33, .int ((x2_5 * (24 : Int32)) + x3_31), .ref r32]) (n := 2) (ci := 3) C (c_X2_fallenAt l hl G lo t0 h_31 nx r34 x3_31 x2_5 r36 g36) g35 rfl q_384 q_385 q_386 q_19 q_387 ⟨rfl, by decide +kernel, by decide +kernel, by decide +kernel⟩ ⟨Nat.le_of_ble_eq_true rfl, Nat.le_of_ble_eq_true rfl⟩ rfl (Nat.le_of_ble_eq_true rfl) dX4_rain_46 ⟨(Nat.zero_le _), (Nat.zero_le _)⟩) rfl (Nat.le_of_ble_eq_true rfl) (Nat.le_of_ble_eq_true rfl) ?_
      refine z_iadd (pc := 49) C dX4_rain_49 ?_
      obtain ⟨h_37, g37, hM⟩ := Option.bind_eq_some_iff.mp hM
      refine z_iast (pc := 50) C g37 dX4_rain_50 ?_
      refine z_iinc (k := 2) (v := (x3_31 + (1 : Int32))) (lv' := [(3, .int (x3_31 + (1 : Int32))), (0, .ref a0), (2, .int x2_5)]) (pc := 51) C dX4_rain_51 rfl (by first | rfl | decide) (by decide) rfl ?_
      refine z_goto (pc := 54) (tgt := 22) C dX4_rain_54 (by decide) ?_
      exact z_sub [1, 2, 0] rfl (irec31 (x3_31 + (1 : Int32)) h_37 hM)
set_option maxHeartbeats 4000000 in
set_option maxRecDepth 100000 in
theorem c_X4_requireWhat (l : Launch) (hl : l.stackTraces = false) (G : zG) (lo t0 : Nat) (h : zH) (nx : Nat) (x0 : Int32) (x1 : Int32) (o : String ⊕ (Unit)) (hM : M_X4_requireWhat x0 x1 = some o) : z_Met l yX4_requireWhat cX4_requireWhat 2 none 6 90 G lo t0 [.int x0, .int x1] h nx (z_eo h o (fun z : Unit => (none, h, nx))) (z_mo o 1 0) (z_mo o 6 0) := by
  refine z_of [(0, .int x0), (1, .int x1)] (by decide) (Nat.le_of_ble_eq_true rfl) rfl (fun p e s m below meth c C hin => ?_)
  unfold M_X4_requireWhat at hM
  refine z_iload_n (k := 0) (pc := 0) C dX4_requireWhat_0 rfl ?_
  refine z_if_lt (pc := 1) (tgt := 9) C dX4_requireWhat_1 (by decide) hM (fun hc2 hM => ?_) (fun hc2 hM => ?_)
  · cases hM
    exact z_throwW (pc := 9) (text := "there is no such what") (names := ["java/lang/RuntimeException", "java/lang/Exception"]) C ne_X4 hl (by decide) (by decide) q_114 q_115 (by decide) ax_X4_182 ax_X4_182_b (by decide) ax_X4_182_g dX4_requireWhat_9 dX4_requireWhat_12 dX4_requireWhat_13 dX4_requireWhat_16 dX4_requireWhat_19 (Nat.le_of_ble_eq_true rfl) (Nat.le_of_ble_eq_true rfl) (Nat.le_of_ble_eq_true rfl) (Nat.le_of_ble_eq_true rfl) rfl (Nat.le_of_ble_eq_true rfl) (Nat.le_of_ble_eq_true rfl)
  · refine z_iload_n (k := 0) (pc := 4) C dX4_requireWhat_4 rfl ?_
    refine z_iload_n (k := 1) (pc := 5) C dX4_requireWhat_5 rfl ?_
    refine z_icmp_le (pc := 6) (tgt := 20) C dX4_requireWhat_6 (by decide) hM (fun hc1 hM => ?_) (fun hc1 hM => ?_)
    · cases hM
      exact z_vret (pc := 20) C rfl (Nat.zero_le _) (Nat.zero_le _) dX4_requireWhat_20
    · cases hM
      exact z_throwW (pc := 9) (text := "there is no such what") (names := ["java/lang/RuntimeException", "java/lang/Exception"]) C ne_X4 hl (by decide) (by decide) q_114 q_115 (by decide) ax_X4_182 ax_X4_182_b (by decide) ax_X4_182_g dX4_requireWhat_9 dX4_requireWhat_12 dX4_requireWhat_13 dX4_requireWhat_16 dX4_requireWhat_19 (Nat.le_of_ble_eq_true rfl) (Nat.le_of_ble_eq_true rfl) (Nat.le_of_ble_eq_true rfl) (Nat.le_of_ble_eq_true rfl) rfl (Nat.le_of_ble_eq_true rfl) (Nat.le_of_ble_eq_true rfl)
set_option maxHeartbeats 4000000 in
set_option maxRecDepth 100000 in
theorem c_X4_about (l : Launch) (hl : l.stackTraces = false) (G : zG) (lo t0 : Nat) (h : zH) (nx : Nat) (a0 : Nat) (x1 : Int32) (x2 : Int32) (o : String ⊕ (Int32)) (hM : M_X4_about h a0 x1 x2 = some o) : z_Met l yX4_about cX4_about 4 (some .int) 7 111 G lo t0 [.ref a0, .int x1, .int x2] h nx (z_eo h o (fun z : Int32 => (some (.int z), h, nx))) (z_mo o 1 0) (z_mo o 6 0) := by
  refine z_of [(0, .ref a0), (1, .int x1), (2, .int x2)] (by decide) (Nat.le_of_ble_eq_true rfl) rfl (fun p e s m below meth c C hin => ?_)
  unfold M_X4_about at hM
  refine z_aload_n (k := 0) (pc := 0) C dX4_about_0 rfl ?_
  obtain ⟨r1, g1, hM⟩ := Option.bind_eq_some_iff.mp hM
  refine z_getR (pc := 1) (k := 0) C g1 rfl inlX4 (by decide) q_16 (fun _ h9 => h9) dX4_about_1 ?_
  refine z_iload_n (k := 1) (pc := 4) C dX4_about_4 rfl ?_
  obtain ⟨_, g2, hM⟩ := Option.bind_eq_some_iff.mp hM
  rcases z_tb_c hM with ⟨Er3, g3, rfl⟩ | ⟨r3, g3, hM⟩
  · exact z_goX C ne_X4 (z_callV (pc := 5) (As := [.int x1]) (rest := []) (n := 1) (ci := 2) C (c_X1_numbered l hl G lo t0 h nx r1 x1 (.inl Er3) g3) g2 rfl q_230 q_231 q_232 q_15 q_233 ⟨rfl, by decide +kernel, by decide +kernel, by decide +kernel⟩ ⟨Nat.le_of_ble_eq_true rfl, Nat.le_of_ble_eq_true rfl⟩ rfl (Nat.le_of_ble_eq_true rfl) dX4_about_5 ⟨Nat.le_of_ble_eq_true rfl, Nat.le_of_ble_eq_true rfl⟩) (Nat.le_of_ble_eq_true rfl) (Nat.le_of_ble_eq_true rfl)
  refine z_goN (kc := 0) (ks := 0) ([.ref r3]) (z_callV (pc := 5) (As := [.int x1]) (rest := []) (n := 1) (ci := 2) C (c_X1_numbered l hl G lo t0 h nx r1 x1 (.inr r3) g3) g2 rfl q_230 q_231 q_232 q_15 q_233 ⟨rfl, by decide +kernel, by decide +kernel, by decide +kernel⟩ ⟨Nat.le_of_ble_eq_true rfl, Nat.le_of_ble_eq_true rfl⟩ rfl (Nat.le_of_ble_eq_true rfl) dX4_about_5 ⟨(Nat.zero_le _), (Nat.zero_le _)⟩) rfl (Nat.le_of_ble_eq_true rfl) (Nat.le_of_ble_eq_true rfl) ?_
  refine z_astore_n (lv' := [(3, .ref r3), (0, .ref a0), (1, .int x1), (2, .int x2)]) (pc := 8) C dX4_about_8 (by decide) rfl ?_
  refine z_iload_n (k := 3) (pc := 9) C dX4_about_9 rfl ?_
  refine z_bipush (v := (8 : Int32)) (pc := 10) C dX4_about_10 (by decide) ?_
  rcases z_tb_c hM with ⟨Er4, g4, rfl⟩ | ⟨r4, g4, hM⟩
  · exact z_goX C ne_X4 (z_callS (pc := 12) (As := [.int x2, .int (8 : Int32)]) (rest := []) (n := 2) C (c_X4_requireWhat l hl G lo t0 h nx x2 (8 : Int32) (.inl Er4) g4) q_407 q_408 q_2 q_409 ⟨by decide +kernel, by decide +kernel, by decide +kernel⟩ ⟨Nat.le_of_ble_eq_true rfl, Nat.le_of_ble_eq_true rfl⟩ rfl (Nat.le_of_ble_eq_true rfl) dX4_about_12 ⟨Nat.le_of_ble_eq_true rfl, Nat.le_of_ble_eq_true rfl⟩) (Nat.le_of_ble_eq_true rfl) (Nat.le_of_ble_eq_true rfl)
  refine z_goN (kc := 0) (ks := 0) ([]) (z_callS (pc := 12) (As := [.int x2, .int (8 : Int32)]) (rest := []) (n := 2) C (c_X4_requireWhat l hl G lo t0 h nx x2 (8 : Int32) (.inr r4) g4) q_407 q_408 q_2 q_409 ⟨by decide +kernel, by decide +kernel, by decide +kernel⟩ ⟨Nat.le_of_ble_eq_true rfl, Nat.le_of_ble_eq_true rfl⟩ rfl (Nat.le_of_ble_eq_true rfl) dX4_about_12 ⟨(Nat.zero_le _), (Nat.zero_le _)⟩) rfl (Nat.le_of_ble_eq_true rfl) (Nat.le_of_ble_eq_true rfl) ?_
  refine z_iload_n (k := 3) (pc := 15) C dX4_about_15 rfl ?_
  refine z_sw hM (fun hc5 hM => ?_) (fun hc5 hM => ?_)
  · refine z_tableIn (pc := 16) (tgt := 64) C dX4_about_16 (by rw [hc5]; decide) (by rw [hc5]; decide) (by rw [hc5]; rfl) (by decide) ?_
    refine z_aload_n (k := 0) (pc := 64) C dX4_about_64 rfl ?_
    obtain ⟨r6, g6, hM⟩ := Option.bind_eq_some_iff.mp hM
    refine z_getI (pc := 65) (k := 0) C g6 rfl inlX0 (by decide) q_242 (fun _ h9 => h9) dX4_about_65 ?_
    cases hM
    exact z_iret (pc := 68) C rfl (Nat.zero_le _) (Nat.zero_le _) dX4_about_68
  refine z_sw hM (fun hc7 hM => ?_) (fun hc7 hM => ?_)
  · refine z_tableIn (pc := 16) (tgt := 69) C dX4_about_16 (by rw [hc7]; decide) (by rw [hc7]; decide) (by rw [hc7]; rfl) (by decide) ?_
    refine z_aload_n (k := 0) (pc := 69) C dX4_about_69 rfl ?_
    obtain ⟨r8, g8, hM⟩ := Option.bind_eq_some_iff.mp hM
    refine z_getI (pc := 70) (k := 1) C g8 rfl inlX0 (by decide) q_243 (fun _ h9 => h9) dX4_about_70 ?_
    cases hM
    exact z_iret (pc := 73) C rfl (Nat.zero_le _) (Nat.zero_le _) dX4_about_73
  refine z_sw hM (fun hc9 hM => ?_) (fun hc9 hM => ?_)
  · refine z_tableIn (pc := 16) (tgt := 74) C dX4_about_16 (by rw [hc9]; decide) (by rw [hc9]; decide) (by rw [hc9]; rfl) (by decide) ?_
    refine z_aload_n (k := 0) (pc := 74) C dX4_about_74 rfl ?_
    obtain ⟨r10, g10, hM⟩ := Option.bind_eq_some_iff.mp hM
    refine z_getI (pc := 75) (k := 2) C g10 rfl inlX0 (by decide) q_240 (fun _ h9 => h9) dX4_about_75 ?_
    cases hM
    exact z_iret (pc := 78) C rfl (Nat.zero_le _) (Nat.zero_le _) dX4_about_78
  refine z_sw hM (fun hc11 hM => ?_) (fun hc11 hM => ?_)
  · refine z_tableIn (pc := 16) (tgt := 79) C dX4_about_16 (by rw [hc11]; decide) (by rw [hc11]; decide) (by rw [hc11]; rfl) (by decide) ?_
    refine z_aload_n (k := 0) (pc := 79) C dX4_about_79 rfl ?_
    obtain ⟨r12, g12, hM⟩ := Option.bind_eq_some_iff.mp hM
    refine z_getI (pc := 80) (k := 3) C g12 rfl inlX0 (by decide) q_241 (fun _ h9 => h9) dX4_about_80 ?_
    cases hM
    exact z_iret (pc := 83) C rfl (Nat.zero_le _) (Nat.zero_le _) dX4_about_83
  refine z_sw hM (fun hc13 hM => ?_) (fun hc13 hM => ?_)
  · refine z_tableIn (pc := 16) (tgt := 84) C dX4_about_16 (by rw [hc13]; decide) (by rw [hc13]; decide) (by rw [hc13]; rfl) (by decide) ?_
    refine z_aload_n (k := 0) (pc := 84) C dX4_about_84 rfl ?_
    obtain ⟨r14, g14, hM⟩ := Option.bind_eq_some_iff.mp hM
    refine z_getI (pc := 85) (k := 4) C g14 rfl inlX0 (by decide) q_459 (fun _ h9 => h9) dX4_about_85 ?_
    cases hM
    exact z_iret (pc := 88) C rfl (Nat.zero_le _) (Nat.zero_le _) dX4_about_88
  refine z_sw hM (fun hc15 hM => ?_) (fun hc15 hM => ?_)
  · refine z_tableIn (pc := 16) (tgt := 89) C dX4_about_16 (by rw [hc15]; decide) (by rw [hc15]; decide) (by rw [hc15]; rfl) (by decide) ?_
    refine z_aload_n (k := 0) (pc := 89) C dX4_about_89 rfl ?_
    obtain ⟨r16, g16, hM⟩ := Option.bind_eq_some_iff.mp hM
    refine z_getI (pc := 90) (k := 5) C g16 rfl inlX0 (by decide) q_460 (fun _ h9 => h9) dX4_about_90 ?_
    cases hM
    exact z_iret (pc := 93) C rfl (Nat.zero_le _) (Nat.zero_le _) dX4_about_93
  refine z_sw hM (fun hc17 hM => ?_) (fun hc17 hM => ?_)
  · refine z_tableIn (pc := 16) (tgt := 94) C dX4_about_16 (by rw [hc17]; decide) (by rw [hc17]; decide) (by rw [hc17]; rfl) (by decide) ?_
    refine z_aload_n (k := 0) (pc := 94) C dX4_about_94 rfl ?_
    obtain ⟨r18, g18, hM⟩ := Option.bind_eq_some_iff.mp hM
    refine z_getI (pc := 95) (k := 6) C g18 rfl inlX0 (by decide) q_229 (fun _ h9 => h9) dX4_about_95 ?_
    refine z_if_eq (pc := 98) (tgt := 105) C dX4_about_98 (by decide) hM (fun hc19 hM => ?_) (fun hc19 hM => ?_)
    · refine z_iconst (v := (0 : Int32)) (pc := 105) C dX4_about_105 (by decide) ?_
      cases hM
      exact z_iret (pc := 106) C rfl (Nat.zero_le _) (Nat.zero_le _) dX4_about_106
    · refine z_iconst (v := (1 : Int32)) (pc := 101) C dX4_about_101 (by decide) ?_
      refine z_goto (pc := 102) (tgt := 106) C dX4_about_102 (by decide) ?_
      cases hM
      exact z_iret (pc := 106) C rfl (Nat.zero_le _) (Nat.zero_le _) dX4_about_106
  refine z_sw hM (fun hc20 hM => ?_) (fun hc20 hM => ?_)
  · refine z_tableIn (pc := 16) (tgt := 107) C dX4_about_16 (by rw [hc20]; decide) (by rw [hc20]; decide) (by rw [hc20]; rfl) (by decide) ?_
    refine z_aload_n (k := 1) (pc := 107) C dX4_about_107 rfl ?_
    obtain ⟨r21, g21, hM⟩ := Option.bind_eq_some_iff.mp hM
    refine z_getR (pc := 108) (k := 0) C g21 rfl inlX4 (by decide) q_16 (fun _ h9 => h9) dX4_about_108 ?_
    refine z_aload_n (k := 0) (pc := 111) C dX4_about_111 rfl ?_
    obtain ⟨_, g22, hM⟩ := Option.bind_eq_some_iff.mp hM
    obtain ⟨r23, g23, hM⟩ := Option.bind_eq_some_iff.mp hM
    refine z_goN (kc := 0) (ks := 0) ([.int r23]) (z_callV (pc := 112) (As := [.ref r3]) (rest := []) (n := 1) (ci := 2) C (c_X1_coveredOnlyBy l hl G lo t0 h nx r21 r3 r23 g23) g22 rfl q_461 q_462 q_463 q_15 q_464 ⟨rfl, by decide +kernel, by decide +kernel, by decide +kernel⟩ ⟨Nat.le_of_ble_eq_true rfl, Nat.le_of_ble_eq_true rfl⟩ rfl (Nat.le_of_ble_eq_true rfl) dX4_about_112 ⟨(Nat.zero_le _), (Nat.zero_le _)⟩) rfl (Nat.le_of_ble_eq_true rfl) (Nat.le_of_ble_eq_true rfl) ?_
    cases hM
    exact z_iret (pc := 115) C rfl (Nat.zero_le _) (Nat.zero_le _) dX4_about_115
  refine z_tableD (pc := 16) (tgt := 116) C dX4_about_16 (fun k h1 h2 hk => ?_) (by decide) ?_
  · rcases (show k = 0 ∨ k = 1 ∨ k = 2 ∨ k = 3 ∨ k = 4 ∨ k = 5 ∨ k = 6 ∨ k = 7 by omega) with rfl | rfl | rfl | rfl | rfl | rfl | rfl | rfl
    · exact absurd (Int32.toInt_inj.mp (hk.trans (by decide))) hc5
    · exact absurd (Int32.toInt_inj.mp (hk.trans (by decide))) hc7
    · exact absurd (Int32.toInt_inj.mp (hk.trans (by decide))) hc9
    · exact absurd (Int32.toInt_inj.mp (hk.trans (by decide))) hc11
    · exact absurd (Int32.toInt_inj.mp (hk.trans (by decide))) hc13
    · exact absurd (Int32.toInt_inj.mp (hk.trans (by decide))) hc15
    · exact absurd (Int32.toInt_inj.mp (hk.trans (by decide))) hc17
    · exact absurd (Int32.toInt_inj.mp (hk.trans (by decide))) hc20
  refine z_aload_n (k := 0) (pc := 116) C dX4_about_116 rfl ?_
  obtain ⟨r24, g24, hM⟩ := Option.bind_eq_some_iff.mp hM
  refine z_getI (pc := 117) (k := 7) C g24 rfl inlX0 (by decide) q_324 (fun _ h9 => h9) dX4_about_117 ?_
  cases hM
  exact z_iret (pc := 120) C rfl (Nat.zero_le _) (Nat.zero_le _) dX4_about_120
set_option maxHeartbeats 4000000 in
set_option maxRecDepth 100000 in
theorem c_X4_cell (l : Launch) (hl : l.stackTraces = false) (G : zG) (lo t0 : Nat) (h : zH) (nx : Nat) (a0 : Nat) (x1 : Int32) (x2 : Int32) (x3 : Int32) (o : String ⊕ (Int32)) (hM : M_X4_cell h a0 x1 x2 x3 = some o) : z_Met l yX4_cell cX4_cell 4 (some .int) 7 111 G lo t0 [.ref a0, .int x1, .int x2, .int x3] h nx (z_eo h o (fun z : Int32 => (some (.int z), h, nx))) (z_mo o 1 0) (z_mo o 6 0) := by
  refine z_of [(0, .ref a0), (1, .int x1), (2, .int x2), (3, .int x3)] (by decide) (Nat.le_of_ble_eq_true rfl) rfl (fun p e s m below meth c C hin => ?_)
  unfold M_X4_cell at hM
  refine z_iload_n (k := 1) (pc := 0) C dX4_cell_0 rfl ?_
  refine z_iload_n (k := 2) (pc := 1) C dX4_cell_1 rfl ?_
  rcases z_tb_c hM with ⟨Er1, g1, rfl⟩ | ⟨r1, g1, hM⟩
  · exact z_goX C ne_X4 (z_callS (pc := 2) (As := [.int x1, .int x2]) (rest := []) (n := 2) C (c_X4_requireCell l hl G lo t0 h nx x1 x2 (.inl Er1) g1) q_295 q_296 q_2 q_297 ⟨by decide +kernel, by decide +kernel, by decide +kernel⟩ ⟨Nat.le_of_ble_eq_true rfl, Nat.le_of_ble_eq_true rfl⟩ rfl (Nat.le_of_ble_eq_true rfl) dX4_cell_2 ⟨Nat.le_of_ble_eq_true rfl, Nat.le_of_ble_eq_true rfl⟩) (Nat.le_of_ble_eq_true rfl) (Nat.le_of_ble_eq_true rfl)
  refine z_goN (kc := 0) (ks := 0) ([]) (z_callS (pc := 2) (As := [.int x1, .int x2]) (rest := []) (n := 2) C (c_X4_requireCell l hl G lo t0 h nx x1 x2 (.inr r1) g1) q_295 q_296 q_2 q_297 ⟨by decide +kernel, by decide +kernel, by decide +kernel⟩ ⟨Nat.le_of_ble_eq_true rfl, Nat.le_of_ble_eq_true rfl⟩ rfl (Nat.le_of_ble_eq_true rfl) dX4_cell_2 ⟨(Nat.zero_le _), (Nat.zero_le _)⟩) rfl (Nat.le_of_ble_eq_true rfl) (Nat.le_of_ble_eq_true rfl) ?_
  refine z_iload_n (k := 3) (pc := 5) C dX4_cell_5 rfl ?_
  refine z_iconst (v := (2 : Int32)) (pc := 6) C dX4_cell_6 (by decide) ?_
  rcases z_tb_c hM with ⟨Er2, g2, rfl⟩ | ⟨r2, g2, hM⟩
  · exact z_goX C ne_X4 (z_callS (pc := 7) (As := [.int x3, .int (2 : Int32)]) (rest := []) (n := 2) C (c_X4_requireWhat l hl G lo t0 h nx x3 (2 : Int32) (.inl Er2) g2) q_407 q_408 q_2 q_409 ⟨by decide +kernel, by decide +kernel, by decide +kernel⟩ ⟨Nat.le_of_ble_eq_true rfl, Nat.le_of_ble_eq_true rfl⟩ rfl (Nat.le_of_ble_eq_true rfl) dX4_cell_7 ⟨Nat.le_of_ble_eq_true rfl, Nat.le_of_ble_eq_true rfl⟩) (Nat.le_of_ble_eq_true rfl) (Nat.le_of_ble_eq_true rfl)
  refine z_goN (kc := 0) (ks := 0) ([]) (z_callS (pc := 7) (As := [.int x3, .int (2 : Int32)]) (rest := []) (n := 2) C (c_X4_requireWhat l hl G lo t0 h nx x3 (2 : Int32) (.inr r2) g2) q_407 q_408 q_2 q_409 ⟨by decide +kernel, by decide +kernel, by decide +kernel⟩ ⟨Nat.le_of_ble_eq_true rfl, Nat.le_of_ble_eq_true rfl⟩ rfl (Nat.le_of_ble_eq_true rfl) dX4_cell_7 ⟨(Nat.zero_le _), (Nat.zero_le _)⟩) rfl (Nat.le_of_ble_eq_true rfl) (Nat.le_of_ble_eq_true rfl) ?_
  refine z_iload_n (k := 3) (pc := 10) C dX4_cell_10 rfl ?_
  refine z_sw hM (fun hc3 hM => ?_) (fun hc3 hM => ?_)
  · refine z_lookup (pc := 11) (off := 25) (tgt := 36) C dX4_cell_11 (by decide) (by first | (rw [hc3]; done) | (rw [hc3]; rfl)) (by decide) ?_
    refine z_aload_n (k := 0) (pc := 36) C dX4_cell_36 rfl ?_
    obtain ⟨r4, g4, hM⟩ := Option.bind_eq_some_iff.mp hM
    refine z_getR (pc := 37) (k := 0) C g4 rfl inlX4 (by decide) q_16 (fun _ h9 => h9) dX4_cell_37 ?_
    refine z_iload_n (k := 1) (pc := 40) C dX4_cell_40 rfl ?_
    refine z_iload_n (k := 2) (pc := 41) C dX4_cell_41 rfl ?_
    obtain ⟨_, g5, hM⟩ := Option.bind_eq_some_iff.mp hM
    obtain ⟨r6, g6, hM⟩ := Option.bind_eq_some_iff.mp hM
    refine z_goN (kc := 0) (ks := 0) ([.int r6]) (z_callV (pc := 42) (As := [.int x1, .int x2]) (rest := []) (n := 2) (ci := 2) C (c_X1_layersAt l hl G lo t0 h nx r4 x1 x2 r6 g6) g5 rfl q_447 q_419 q_420 q_15 q_421 ⟨rfl, by decide +kernel, by decide +kernel, by decide +kernel⟩ ⟨Nat.le_of_ble_eq_true rfl, Nat.le_of_ble_eq_true rfl⟩ rfl (Nat.le_of_ble_eq_true rfl) dX4_cell_42 ⟨(Nat.zero_le _), (Nat.zero_le _)⟩) rfl (Nat.le_of_ble_eq_true rfl) (Nat.le_of_ble_eq_true rfl) ?_
    cases hM
    exact z_iret (pc := 45) C rfl (Nat.zero_le _) (Nat.zero_le _) dX4_cell_45
  refine z_sw hM (fun hc7 hM => ?_) (fun hc7 hM => ?_)
  · refine z_lookup (pc := 11) (off := 35) (tgt := 46) C dX4_cell_11 (by decide) (by first | (rw [hc7]; done) | (rw [hc7]; rfl)) (by decide) ?_
    refine z_aload_n (k := 0) (pc := 46) C dX4_cell_46 rfl ?_
    obtain ⟨r8, g8, hM⟩ := Option.bind_eq_some_iff.mp hM
    refine z_getR (pc := 47) (k := 0) C g8 rfl inlX4 (by decide) q_16 (fun _ h9 => h9) dX4_cell_47 ?_
    refine z_bipush (v := (10 : Int32)) (pc := 50) C dX4_cell_50 (by decide) ?_
    refine z_iload_n (k := 1) (pc := 52) C dX4_cell_52 rfl ?_
    refine z_iload_n (k := 2) (pc := 53) C dX4_cell_53 rfl ?_
    obtain ⟨_, g9, hM⟩ := Option.bind_eq_some_iff.mp hM
    obtain ⟨r10, g10, hM⟩ := Option.bind_eq_some_iff.mp hM
    refine z_goN (kc := 0) (ks := 0) ([.int r10]) (z_callV (pc := 54) (As := [.int (10 : Int32), .int x1, .int x2]) (rest := []) (n := 3) (ci := 2) C (c_X1_highestBelow l hl G lo t0 h nx r8 (10 : Int32) x1 x2 r10 g10) g9 rfl q_507 q_344 q_345 q_15 q_346 ⟨rfl, by decide +kernel, by decide +kernel, by decide +kernel⟩ ⟨Nat.le_of_ble_eq_true rfl, Nat.le_of_ble_eq_true rfl⟩ rfl (Nat.le_of_ble_eq_true rfl) dX4_cell_54 ⟨(Nat.zero_le _), (Nat.zero_le _)⟩) rfl (Nat.le_of_ble_eq_true rfl) (Nat.le_of_ble_eq_true rfl) ?_
    cases hM
    exact z_iret (pc := 57) C rfl (Nat.zero_le _) (Nat.zero_le _) dX4_cell_57
  refine z_lookup (pc := 11) (off := 47) (tgt := 58) C dX4_cell_11 (by decide) ((lv_osw hc3 (by decide)).trans ((lv_osw hc7 (by decide)).trans rfl)) (by decide) ?_
  refine z_aload_n (k := 0) (pc := 58) C dX4_cell_58 rfl ?_
  refine z_iload_n (k := 1) (pc := 59) C dX4_cell_59 rfl ?_
  refine z_iload_n (k := 2) (pc := 60) C dX4_cell_60 rfl ?_
  obtain ⟨_, g11, hM⟩ := Option.bind_eq_some_iff.mp hM
  obtain ⟨r12, g12, hM⟩ := Option.bind_eq_some_iff.mp hM
  refine z_goN (kc := 0) (ks := 0) ([.int r12]) (z_callV (pc := 61) (As := [.int x1, .int x2]) (rest := []) (n := 2) (ci := 5) C (c_X4_groundAt l hl G lo t0 h nx a0 x1 x2 r12 g12) g11 rfl q_308 q_309 q_310 q_2 q_311 ⟨rfl, by decide +kernel, by decide +kernel, by decide +kernel⟩ ⟨Nat.le_of_ble_eq_true rfl, Nat.le_of_ble_eq_true rfl⟩ rfl (Nat.le_of_ble_eq_true rfl) dX4_cell_61 ⟨(Nat.zero_le _), (Nat.zero_le _)⟩) rfl (Nat.le_of_ble_eq_true rfl) (Nat.le_of_ble_eq_true rfl) ?_
  cases hM
  exact z_iret (pc := 64) C rfl (Nat.zero_le _) (Nat.zero_le _) dX4_cell_64
set_option maxHeartbeats 4000000 in
set_option maxRecDepth 100000 in
theorem c_X4_cord (l : Launch) (hl : l.stackTraces = false) (G : zG) (lo t0 : Nat) (h : zH) (nx : Nat) (a0 : Nat) (x1 : Int32) (x2 : Int32) (o : String ⊕ (Int32)) (hM : M_X4_cord h a0 x1 x2 = some o) : z_Met l yX4_cord cX4_cord 3 (some .int) 7 111 G lo t0 [.ref a0, .int x1, .int x2] h nx (z_eo h o (fun z : Int32 => (some (.int z), h, nx))) (z_mo o 1 0) (z_mo o 6 0) := by
  refine z_of [(0, .ref a0), (1, .int x1), (2, .int x2)] (by decide) (Nat.le_of_ble_eq_true rfl) rfl (fun p e s m below meth c C hin => ?_)
  unfold M_X4_cord at hM
  refine z_iload_n (k := 1) (pc := 0) C dX4_cord_0 rfl ?_
  refine z_if_lt (pc := 1) (tgt := 10) C dX4_cord_1 (by decide) hM (fun hc18 hM => ?_) (fun hc18 hM => ?_)
  · cases hM
    exact z_throw (pc := 10) (text := "column is not 0 to 23") (names := ["java/lang/RuntimeException", "java/lang/Exception"]) C ne_X4 hl (by decide) (by decide) q_114 q_115 (by decide) ax_X4_182 ax_X4_182_b (by decide) ax_X4_182_g dX4_cord_10 dX4_cord_13 dX4_cord_14 dX4_cord_16 dX4_cord_19 (Nat.le_of_ble_eq_true rfl) (Nat.le_of_ble_eq_true rfl) (Nat.le_of_ble_eq_true rfl) (Nat.le_of_ble_eq_true rfl) rfl (Nat.le_of_ble_eq_true rfl) (Nat.le_of_ble_eq_true rfl)
  · refine z_iload_n (k := 1) (pc := 4) C dX4_cord_4 rfl ?_
    refine z_bipush (v := (24 : Int32)) (pc := 5) C dX4_cord_5 (by decide) ?_
    refine z_icmp_lt (pc := 7) (tgt := 20) C dX4_cord_7 (by decide) hM (fun hc17 hM => ?_) (fun hc17 hM => ?_)
    · refine z_iload_n (k := 2) (pc := 20) C dX4_cord_20 rfl ?_
      refine z_iconst (v := (3 : Int32)) (pc := 21) C dX4_cord_21 (by decide) ?_
      rcases z_tb_c hM with ⟨Er1, g1, rfl⟩ | ⟨r1, g1, hM⟩
      · exact z_goX C ne_X4 (z_callS (pc := 22) (As := [.int x2, .int (3 : Int32)]) (rest := []) (n := 2) C (c_X4_requireWhat l hl G lo t0 h nx x2 (3 : Int32) (.inl Er1) g1) q_407 q_408 q_2 q_409 ⟨by decide +kernel, by decide +kernel, by decide +kernel⟩ ⟨Nat.le_of_ble_eq_true rfl, Nat.le_of_ble_eq_true rfl⟩ rfl (Nat.le_of_ble_eq_true rfl) dX4_cord_22 ⟨Nat.le_of_ble_eq_true rfl, Nat.le_of_ble_eq_true rfl⟩) (Nat.le_of_ble_eq_true rfl) (Nat.le_of_ble_eq_true rfl)
      refine z_goN (kc := 0) (ks := 0) ([]) (z_callS (pc := 22) (As := [.int x2, .int (3 : Int32)]) (rest := []) (n := 2) C (c_X4_requireWhat l hl G lo t0 h nx x2 (3 : Int32) (.inr r1) g1) q_407 q_408 q_2 q_409 ⟨by decide +kernel, by decide +kernel, by decide +kernel⟩ ⟨Nat.le_of_ble_eq_true rfl, Nat.le_of_ble_eq_true rfl⟩ rfl (Nat.le_of_ble_eq_true rfl) dX4_cord_22 ⟨(Nat.zero_le _), (Nat.zero_le _)⟩) rfl (Nat.le_of_ble_eq_true rfl) (Nat.le_of_ble_eq_true rfl) ?_
      refine z_iload_n (k := 2) (pc := 25) C dX4_cord_25 rfl ?_
      refine z_sw hM (fun hc2 hM => ?_) (fun hc2 hM => ?_)
      · refine z_tableIn (pc := 26) (tgt := 52) C dX4_cord_26 (by rw [hc2]; decide) (by rw [hc2]; decide) (by rw [hc2]; rfl) (by decide) ?_
        refine z_aload_n (k := 0) (pc := 52) C dX4_cord_52 rfl ?_
        obtain ⟨r3, g3, hM⟩ := Option.bind_eq_some_iff.mp hM
        refine z_getR (pc := 53) (k := 0) C g3 rfl inlX4 (by decide) q_16 (fun _ h9 => h9) dX4_cord_53 ?_
        refine z_iload_n (k := 1) (pc := 56) C dX4_cord_56 rfl ?_
        obtain ⟨_, g4, hM⟩ := Option.bind_eq_some_iff.mp hM
        obtain ⟨r5, g5, hM⟩ := Option.bind_eq_some_iff.mp hM
        refine z_goN (kc := 0) (ks := 0) ([.int r5]) (z_callV (pc := 57) (As := [.int x1]) (rest := []) (n := 1) (ci := 2) C (c_X1_coveredInColumn l hl G lo t0 h nx r3 x1 r5 g5) g4 rfl q_486 q_487 q_488 q_15 q_489 ⟨rfl, by decide +kernel, by decide +kernel, by decide +kernel⟩ ⟨Nat.le_of_ble_eq_true rfl, Nat.le_of_ble_eq_true rfl⟩ rfl (Nat.le_of_ble_eq_true rfl) dX4_cord_57 ⟨(Nat.zero_le _), (Nat.zero_le _)⟩) rfl (Nat.le_of_ble_eq_true rfl) (Nat.le_of_ble_eq_true rfl) ?_
        cases hM
        exact z_iret (pc := 60) C rfl (Nat.zero_le _) (Nat.zero_le _) dX4_cord_60
      refine z_sw hM (fun hc6 hM => ?_) (fun hc6 hM => ?_)
      · refine z_tableIn (pc := 26) (tgt := 61) C dX4_cord_26 (by rw [hc6]; decide) (by rw [hc6]; decide) (by rw [hc6]; rfl) (by decide) ?_
        refine z_aload_n (k := 0) (pc := 61) C dX4_cord_61 rfl ?_
        obtain ⟨r7, g7, hM⟩ := Option.bind_eq_some_iff.mp hM
        refine z_getR (pc := 62) (k := 0) C g7 rfl inlX4 (by decide) q_16 (fun _ h9 => h9) dX4_cord_62 ?_
        refine z_iload_n (k := 1) (pc := 65) C dX4_cord_65 rfl ?_
        obtain ⟨_, g8, hM⟩ := Option.bind_eq_some_iff.mp hM
        obtain ⟨r9, g9, hM⟩ := Option.bind_eq_some_iff.mp hM
        refine z_goN (kc := 0) (ks := 0) ([.int r9]) (z_callV (pc := 66) (As := [.int x1]) (rest := []) (n := 1) (ci := 2) C (c_X1_runsInColumn l hl G lo t0 h nx r7 x1 r9 g9) g8 rfl q_490 q_491 q_492 q_15 q_493 ⟨rfl, by decide +kernel, by decide +kernel, by decide +kernel⟩ ⟨Nat.le_of_ble_eq_true rfl, Nat.le_of_ble_eq_true rfl⟩ rfl (Nat.le_of_ble_eq_true rfl) dX4_cord_66 ⟨(Nat.zero_le _), (Nat.zero_le _)⟩) rfl (Nat.le_of_ble_eq_true rfl) (Nat.le_of_ble_eq_true rfl) ?_
        cases hM
        exact z_iret (pc := 69) C rfl (Nat.zero_le _) (Nat.zero_le _) dX4_cord_69
      refine z_sw hM (fun hc10 hM => ?_) (fun hc10 hM => ?_)
      · refine z_tableIn (pc := 26) (tgt := 70) C dX4_cord_26 (by rw [hc10]; decide) (by rw [hc10]; decide) (by rw [hc10]; rfl) (by decide) ?_
        refine z_aload_n (k := 0) (pc := 70) C dX4_cord_70 rfl ?_
        obtain ⟨r11, g11, hM⟩ := Option.bind_eq_some_iff.mp hM
        refine z_getR (pc := 71) (k := 0) C g11 rfl inlX4 (by decide) q_16 (fun _ h9 => h9) dX4_cord_71 ?_
        refine z_iload_n (k := 1) (pc := 74) C dX4_cord_74 rfl ?_
        obtain ⟨_, g12, hM⟩ := Option.bind_eq_some_iff.mp hM
        obtain ⟨r13, g13, hM⟩ := Option.bind_eq_some_iff.mp hM
        refine z_goN (kc := 0) (ks := 0) ([.int r13]) (z_callV (pc := 75) (As := [.int x1]) (rest := []) (n := 1) (ci := 2) C (c_X1_longestRunInColumn l hl G lo t0 h nx r11 x1 r13 g13) g12 rfl q_494 q_495 q_496 q_15 q_497 ⟨rfl, by decide +kernel, by decide +kernel, by decide +kernel⟩ ⟨Nat.le_of_ble_eq_true rfl, Nat.le_of_ble_eq_true rfl⟩ rfl (Nat.le_of_ble_eq_true rfl) dX4_cord_75 ⟨(Nat.zero_le _), (Nat.zero_le _)⟩) rfl (Nat.le_of_ble_eq_true rfl) (Nat.le_of_ble_eq_true rfl) ?_
        cases hM
        exact z_iret (pc := 78) C rfl (Nat.zero_le _) (Nat.zero_le _) dX4_cord_78
      refine z_tableD (pc := 26) (tgt := 79) C dX4_cord_26 (fun k h1 h2 hk => ?_) (by decide) ?_
      · rcases (show k = 0 ∨ k = 1 ∨ k = 2 by omega) with rfl | rfl | rfl
        · exact absurd (Int32.toInt_inj.mp (hk.trans (by decide))) hc2
        · exact absurd (Int32.toInt_inj.mp (hk.trans (by decide))) hc6
        · exact absurd (Int32.toInt_inj.mp (hk.trans (by decide))) hc10
      refine z_aload_n (k := 0) (pc := 79) C dX4_cord_79 rfl ?_
      obtain ⟨r14, g14, hM⟩ := Option.bind_eq_some_iff.mp hM
      refine z_getR (pc := 80) (k := 0) C g14 rfl inlX4 (by decide) q_16 (fun _ h9 => h9) dX4_cord_80 ?_
      refine z_iload_n (k := 1) (pc := 83) C dX4_cord_83 rfl ?_
      obtain ⟨_, g15, hM⟩ := Option.bind_eq_some_iff.mp hM
      obtain ⟨r16, g16, hM⟩ := Option.bind_eq_some_iff.mp hM
      refine z_goN (kc := 0) (ks := 0) ([.int r16]) (z_callV (pc := 84) (As := [.int x1]) (rest := []) (n := 1) (ci := 2) C (c_X1_mostLayersInColumn l hl G lo t0 h nx r14 x1 r16 g16) g15 rfl q_499 q_500 q_501 q_15 q_502 ⟨rfl, by decide +kernel, by decide +kernel, by decide +kernel⟩ ⟨Nat.le_of_ble_eq_true rfl, Nat.le_of_ble_eq_true rfl⟩ rfl (Nat.le_of_ble_eq_true rfl) dX4_cord_84 ⟨(Nat.zero_le _), (Nat.zero_le _)⟩) rfl (Nat.le_of_ble_eq_true rfl) (Nat.le_of_ble_eq_true rfl) ?_
      cases hM
      exact z_iret (pc := 87) C rfl (Nat.zero_le _) (Nat.zero_le _) dX4_cord_87
    · cases hM
      exact z_throw (pc := 10) (text := "column is not 0 to 23") (names := ["java/lang/RuntimeException", "java/lang/Exception"]) C ne_X4 hl (by decide) (by decide) q_114 q_115 (by decide) ax_X4_182 ax_X4_182_b (by decide) ax_X4_182_g dX4_cord_10 dX4_cord_13 dX4_cord_14 dX4_cord_16 dX4_cord_19 (Nat.le_of_ble_eq_true rfl) (Nat.le_of_ble_eq_true rfl) (Nat.le_of_ble_eq_true rfl) (Nat.le_of_ble_eq_true rfl) rfl (Nat.le_of_ble_eq_true rfl) (Nat.le_of_ble_eq_true rfl)
set_option maxHeartbeats 4000000 in
set_option maxRecDepth 100000 in
theorem c_X4_numberedStall (l : Launch) (hl : l.stackTraces = false) (G : zG) (lo t0 : Nat) (h : zH) (nx : Nat) (a0 : Nat) (x1 : Int32) (o : String ⊕ (Nat)) (hM : M_X4_numberedStall h a0 x1 = some o) : z_Met l yX4_numberedStall cX4_numberedStall 2 (some (.object "MarketAwnings$Stall")) 6 90 G lo t0 [.ref a0, .int x1] h nx (z_eo h o (fun z : Nat => (some (.ref z), h, nx))) (z_mo o 1 0) (z_mo o 6 0) := by
  refine z_of [(0, .ref a0), (1, .int x1)] (by decide) (Nat.le_of_ble_eq_true rfl) rfl (fun p e s m below meth c C hin => ?_)
  unfold M_X4_numberedStall at hM
  refine z_iload_n (k := 1) (pc := 0) C dX4_numberedStall_0 rfl ?_
  refine z_if_lt (pc := 1) (tgt := 15) C dX4_numberedStall_1 (by decide) hM (fun hc9 hM => ?_) (fun hc9 hM => ?_)
  · cases hM
    exact z_throw (pc := 15) (text := "there is no such stall") (names := ["java/lang/RuntimeException", "java/lang/Exception"]) C ne_X4 hl (by decide) (by decide) q_114 q_115 (by decide) ax_X4_182 ax_X4_182_b (by decide) ax_X4_182_g dX4_numberedStall_15 dX4_numberedStall_18 dX4_numberedStall_19 dX4_numberedStall_21 dX4_numberedStall_24 (Nat.le_of_ble_eq_true rfl) (Nat.le_of_ble_eq_true rfl) (Nat.le_of_ble_eq_true rfl) (Nat.le_of_ble_eq_true rfl) rfl (Nat.le_of_ble_eq_true rfl) (Nat.le_of_ble_eq_true rfl)
  · refine z_iload_n (k := 1) (pc := 4) C dX4_numberedStall_4 rfl ?_
    refine z_aload_n (k := 0) (pc := 5) C dX4_numberedStall_5 rfl ?_
    obtain ⟨r1, g1, hM⟩ := Option.bind_eq_some_iff.mp hM
    refine z_getR (pc := 6) (k := 2) C g1 rfl inlX4 (by decide) q_24 (fun _ h9 => h9) dX4_numberedStall_6 ?_
    obtain ⟨_, g2, hM⟩ := Option.bind_eq_some_iff.mp hM
    obtain ⟨r3, g3, hM⟩ := Option.bind_eq_some_iff.mp hM
    refine z_goN (kc := 0) (ks := 0) ([.int r3, .int x1]) (z_callV (pc := 9) (As := []) (rest := [.int x1]) (n := 0) (ci := 0) C (c_Jx4a65c_size_8abf5 l hl G lo t0 h nx r1 r3 g3) g2 rfl q_299 q_121 q_122 q_23 q_123 ⟨rfl, by decide +kernel, by decide +kernel, by decide +kernel⟩ ⟨Nat.le_of_ble_eq_true rfl, Nat.le_of_ble_eq_true rfl⟩ rfl (Nat.le_of_ble_eq_true rfl) dX4_numberedStall_9 ⟨(Nat.zero_le _), (Nat.zero_le _)⟩) rfl (Nat.le_of_ble_eq_true rfl) (Nat.le_of_ble_eq_true rfl) ?_
    refine z_icmp_lt (pc := 12) (tgt := 25) C dX4_numberedStall_12 (by decide) hM (fun hc8 hM => ?_) (fun hc8 hM => ?_)
    · refine z_aload_n (k := 0) (pc := 25) C dX4_numberedStall_25 rfl ?_
      obtain ⟨r4, g4, hM⟩ := Option.bind_eq_some_iff.mp hM
      refine z_getR (pc := 26) (k := 2) C g4 rfl inlX4 (by decide) q_24 (fun _ h9 => h9) dX4_numberedStall_26 ?_
      refine z_iload_n (k := 1) (pc := 29) C dX4_numberedStall_29 rfl ?_
      obtain ⟨_, g5, hM⟩ := Option.bind_eq_some_iff.mp hM
      obtain ⟨r6, g6, hM⟩ := Option.bind_eq_some_iff.mp hM
      refine z_goN (kc := 0) (ks := 0) ([.ref r6]) (z_callV (pc := 30) (As := [.int x1]) (rest := []) (n := 1) (ci := 0) C (c_Jx4a65c_get_915e3 l hl G lo t0 h nx r4 x1 r6 g6) g5 rfl q_307 q_200 q_201 q_23 q_202 ⟨rfl, by decide +kernel, by decide +kernel, by decide +kernel⟩ ⟨Nat.le_of_ble_eq_true rfl, Nat.le_of_ble_eq_true rfl⟩ rfl (Nat.le_of_ble_eq_true rfl) dX4_numberedStall_30 ⟨(Nat.zero_le _), (Nat.zero_le _)⟩) rfl (Nat.le_of_ble_eq_true rfl) (Nat.le_of_ble_eq_true rfl) ?_
      obtain ⟨_, g7, hM⟩ := Option.bind_eq_some_iff.mp hM
      refine z_cast (pc := 33) C g7 (ci := 4) rfl q_304 dX4_numberedStall_33 ?_
      cases hM
      exact z_aret (pc := 36) C (Or.inl ⟨_, rfl⟩) rfl (Nat.zero_le _) (Nat.zero_le _) dX4_numberedStall_36
    · cases hM
      exact z_throw (pc := 15) (text := "there is no such stall") (names := ["java/lang/RuntimeException", "java/lang/Exception"]) C ne_X4 hl (by decide) (by decide) q_114 q_115 (by decide) ax_X4_182 ax_X4_182_b (by decide) ax_X4_182_g dX4_numberedStall_15 dX4_numberedStall_18 dX4_numberedStall_19 dX4_numberedStall_21 dX4_numberedStall_24 (Nat.le_of_ble_eq_true rfl) (Nat.le_of_ble_eq_true rfl) (Nat.le_of_ble_eq_true rfl) (Nat.le_of_ble_eq_true rfl) rfl (Nat.le_of_ble_eq_true rfl) (Nat.le_of_ble_eq_true rfl)
set_option maxHeartbeats 4000000 in
set_option maxRecDepth 100000 in
theorem c_X4_gotBy (l : Launch) (hl : l.stackTraces = false) (G : zG) (lo t0 : Nat) (h : zH) (nx : Nat) (a0 : Nat) (a1 : Nat) (o : Int32) (hM : M_X4_gotBy h a0 a1 = some o) : z_Met l yX4_gotBy cX4_gotBy 2 (some .int) 2 43 G lo t0 [.ref a0, .ref a1] h nx (.inr (some (.int o), h, nx)) 0 0 := by
  refine z_of [(0, .ref a0), (1, .ref a1)] (by decide) (Nat.le_of_ble_eq_true rfl) rfl (fun p e s m below meth c C hin => ?_)
  unfold M_X4_gotBy at hM
  refine z_aload_n (k := 0) (pc := 0) C dX4_gotBy_0 rfl ?_
  refine z_aload_n (k := 1) (pc := 1) C dX4_gotBy_1 rfl ?_
  obtain ⟨r1, g1, hM⟩ := Option.bind_eq_some_iff.mp hM
  refine z_getI (pc := 2) (k := 0) C g1 rfl inlX3 (by decide) q_305 (fun _ h9 => h9) dX4_gotBy_2 ?_
  refine z_aload_n (k := 1) (pc := 5) C dX4_gotBy_5 rfl ?_
  obtain ⟨r2, g2, hM⟩ := Option.bind_eq_some_iff.mp hM
  refine z_getI (pc := 6) (k := 1) C g2 rfl inlX3 (by decide) q_306 (fun _ h9 => h9) dX4_gotBy_6 ?_
  obtain ⟨_, g3, hM⟩ := Option.bind_eq_some_iff.mp hM
  obtain ⟨r4, g4, hM⟩ := Option.bind_eq_some_iff.mp hM
  refine z_goN (kc := 0) (ks := 0) ([.int r4]) (z_callV (pc := 9) (As := [.int r1, .int r2]) (rest := []) (n := 2) (ci := 5) C (c_X4_groundAt l hl G lo t0 h nx a0 r1 r2 r4 g4) g3 rfl q_308 q_309 q_310 q_2 q_311 ⟨rfl, by decide +kernel, by decide +kernel, by decide +kernel⟩ ⟨Nat.le_of_ble_eq_true rfl, Nat.le_of_ble_eq_true rfl⟩ rfl (Nat.le_of_ble_eq_true rfl) dX4_gotBy_9 ⟨(Nat.zero_le _), (Nat.zero_le _)⟩) rfl (Nat.le_of_ble_eq_true rfl) (Nat.le_of_ble_eq_true rfl) ?_
  refine z_aload_n (k := 1) (pc := 12) C dX4_gotBy_12 rfl ?_
  obtain ⟨r5, g5, hM⟩ := Option.bind_eq_some_iff.mp hM
  refine z_getI (pc := 13) (k := 2) C g5 rfl inlX3 (by decide) q_477 (fun _ h9 => h9) dX4_gotBy_13 ?_
  refine z_isub (pc := 16) C dX4_gotBy_16 ?_
  cases hM
  exact z_iret (pc := 17) C rfl (Nat.zero_le _) (Nat.zero_le _) dX4_gotBy_17
set_option maxHeartbeats 4000000 in
set_option maxRecDepth 100000 in
theorem c_X4_told (l : Launch) (hl : l.stackTraces = false) (G : zG) (lo t0 : Nat) (h : zH) (nx : Nat) (a0 : Nat) (x1 : Int32) (x2 : Int32) (o : String ⊕ (Int32)) (hM : M_X4_told h a0 x1 x2 = some o) : z_Met l yX4_told cX4_told 4 (some .int) 7 111 G lo t0 [.ref a0, .int x1, .int x2] h nx (z_eo h o (fun z : Int32 => (some (.int z), h, nx))) (z_mo o 1 0) (z_mo o 6 0) := by
  refine z_of [(0, .ref a0), (1, .int x1), (2, .int x2)] (by decide) (Nat.le_of_ble_eq_true rfl) rfl (fun p e s m below meth c C hin => ?_)
  unfold M_X4_told at hM
  refine z_aload_n (k := 0) (pc := 0) C dX4_told_0 rfl ?_
  refine z_iload_n (k := 1) (pc := 1) C dX4_told_1 rfl ?_
  obtain ⟨_, g1, hM⟩ := Option.bind_eq_some_iff.mp hM
  rcases z_tb_c hM with ⟨Er2, g2, rfl⟩ | ⟨r2, g2, hM⟩
  · exact z_goX C ne_X4 (z_callV (pc := 2) (As := [.int x1]) (rest := []) (n := 1) (ci := 5) C (c_X4_numberedStall l hl G lo t0 h nx a0 x1 (.inl Er2) g2) g1 rfl q_469 q_470 q_471 q_2 q_472 ⟨rfl, by decide +kernel, by decide +kernel, by decide +kernel⟩ ⟨Nat.le_of_ble_eq_true rfl, Nat.le_of_ble_eq_true rfl⟩ rfl (Nat.le_of_ble_eq_true rfl) dX4_told_2 ⟨Nat.le_of_ble_eq_true rfl, Nat.le_of_ble_eq_true rfl⟩) (Nat.le_of_ble_eq_true rfl) (Nat.le_of_ble_eq_true rfl)
  refine z_goN (kc := 0) (ks := 0) ([.ref r2]) (z_callV (pc := 2) (As := [.int x1]) (rest := []) (n := 1) (ci := 5) C (c_X4_numberedStall l hl G lo t0 h nx a0 x1 (.inr r2) g2) g1 rfl q_469 q_470 q_471 q_2 q_472 ⟨rfl, by decide +kernel, by decide +kernel, by decide +kernel⟩ ⟨Nat.le_of_ble_eq_true rfl, Nat.le_of_ble_eq_true rfl⟩ rfl (Nat.le_of_ble_eq_true rfl) dX4_told_2 ⟨(Nat.zero_le _), (Nat.zero_le _)⟩) rfl (Nat.le_of_ble_eq_true rfl) (Nat.le_of_ble_eq_true rfl) ?_
  refine z_astore_n (lv' := [(3, .ref r2), (0, .ref a0), (1, .int x1), (2, .int x2)]) (pc := 5) C dX4_told_5 (by decide) rfl ?_
  refine z_iload_n (k := 3) (pc := 6) C dX4_told_6 rfl ?_
  refine z_iconst (v := (3 : Int32)) (pc := 7) C dX4_told_7 (by decide) ?_
  rcases z_tb_c hM with ⟨Er3, g3, rfl⟩ | ⟨r3, g3, hM⟩
  · exact z_goX C ne_X4 (z_callS (pc := 8) (As := [.int x2, .int (3 : Int32)]) (rest := []) (n := 2) C (c_X4_requireWhat l hl G lo t0 h nx x2 (3 : Int32) (.inl Er3) g3) q_407 q_408 q_2 q_409 ⟨by decide +kernel, by decide +kernel, by decide +kernel⟩ ⟨Nat.le_of_ble_eq_true rfl, Nat.le_of_ble_eq_true rfl⟩ rfl (Nat.le_of_ble_eq_true rfl) dX4_told_8 ⟨Nat.le_of_ble_eq_true rfl, Nat.le_of_ble_eq_true rfl⟩) (Nat.le_of_ble_eq_true rfl) (Nat.le_of_ble_eq_true rfl)
  refine z_goN (kc := 0) (ks := 0) ([]) (z_callS (pc := 8) (As := [.int x2, .int (3 : Int32)]) (rest := []) (n := 2) C (c_X4_requireWhat l hl G lo t0 h nx x2 (3 : Int32) (.inr r3) g3) q_407 q_408 q_2 q_409 ⟨by decide +kernel, by decide +kernel, by decide +kernel⟩ ⟨Nat.le_of_ble_eq_true rfl, Nat.le_of_ble_eq_true rfl⟩ rfl (Nat.le_of_ble_eq_true rfl) dX4_told_8 ⟨(Nat.zero_le _), (Nat.zero_le _)⟩) rfl (Nat.le_of_ble_eq_true rfl) (Nat.le_of_ble_eq_true rfl) ?_
  refine z_iload_n (k := 3) (pc := 11) C dX4_told_11 rfl ?_
  refine z_sw hM (fun hc4 hM => ?_) (fun hc4 hM => ?_)
  · refine z_tableIn (pc := 12) (tgt := 40) C dX4_told_12 (by rw [hc4]; decide) (by rw [hc4]; decide) (by rw [hc4]; rfl) (by decide) ?_
    refine z_aload_n (k := 0) (pc := 40) C dX4_told_40 rfl ?_
    obtain ⟨r5, g5, hM⟩ := Option.bind_eq_some_iff.mp hM
    refine z_getI (pc := 41) (k := 0) C g5 rfl inlX3 (by decide) q_305 (fun _ h9 => h9) dX4_told_41 ?_
    cases hM
    exact z_iret (pc := 44) C rfl (Nat.zero_le _) (Nat.zero_le _) dX4_told_44
  refine z_sw hM (fun hc6 hM => ?_) (fun hc6 hM => ?_)
  · refine z_tableIn (pc := 12) (tgt := 45) C dX4_told_12 (by rw [hc6]; decide) (by rw [hc6]; decide) (by rw [hc6]; rfl) (by decide) ?_
    refine z_aload_n (k := 0) (pc := 45) C dX4_told_45 rfl ?_
    obtain ⟨r7, g7, hM⟩ := Option.bind_eq_some_iff.mp hM
    refine z_getI (pc := 46) (k := 1) C g7 rfl inlX3 (by decide) q_306 (fun _ h9 => h9) dX4_told_46 ?_
    cases hM
    exact z_iret (pc := 49) C rfl (Nat.zero_le _) (Nat.zero_le _) dX4_told_49
  refine z_sw hM (fun hc8 hM => ?_) (fun hc8 hM => ?_)
  · refine z_tableIn (pc := 12) (tgt := 50) C dX4_told_12 (by rw [hc8]; decide) (by rw [hc8]; decide) (by rw [hc8]; rfl) (by decide) ?_
    refine z_aload_n (k := 1) (pc := 50) C dX4_told_50 rfl ?_
    refine z_aload_n (k := 0) (pc := 51) C dX4_told_51 rfl ?_
    obtain ⟨r9, g9, hM⟩ := Option.bind_eq_some_iff.mp hM
    refine z_goN (kc := 0) (ks := 0) ([.int r9]) (z_callV (pc := 52) (As := [.ref r2]) (rest := []) (n := 1) (ci := 5) C (c_X4_gotBy l hl G lo t0 h nx a0 r2 r9 g9) g1 rfl q_473 q_474 q_475 q_2 q_476 ⟨rfl, by decide +kernel, by decide +kernel, by decide +kernel⟩ ⟨Nat.le_of_ble_eq_true rfl, Nat.le_of_ble_eq_true rfl⟩ rfl (Nat.le_of_ble_eq_true rfl) dX4_told_52 ⟨(Nat.zero_le _), (Nat.zero_le _)⟩) rfl (Nat.le_of_ble_eq_true rfl) (Nat.le_of_ble_eq_true rfl) ?_
    cases hM
    exact z_iret (pc := 55) C rfl (Nat.zero_le _) (Nat.zero_le _) dX4_told_55
  refine z_tableD (pc := 12) (tgt := 56) C dX4_told_12 (fun k h1 h2 hk => ?_) (by decide) ?_
  · rcases (show k = 0 ∨ k = 1 ∨ k = 2 by omega) with rfl | rfl | rfl
    · exact absurd (Int32.toInt_inj.mp (hk.trans (by decide))) hc4
    · exact absurd (Int32.toInt_inj.mp (hk.trans (by decide))) hc6
    · exact absurd (Int32.toInt_inj.mp (hk.trans (by decide))) hc8
  refine z_aload_n (k := 1) (pc := 56) C dX4_told_56 rfl ?_
  obtain ⟨r10, g10, hM⟩ := Option.bind_eq_some_iff.mp hM
  refine z_getR (pc := 57) (k := 0) C g10 rfl inlX4 (by decide) q_16 (fun _ h9 => h9) dX4_told_57 ?_
  refine z_aload_n (k := 0) (pc := 60) C dX4_told_60 rfl ?_
  obtain ⟨r11, g11, hM⟩ := Option.bind_eq_some_iff.mp hM
  refine z_getI (pc := 61) (k := 0) C g11 rfl inlX3 (by decide) q_305 (fun _ h9 => h9) dX4_told_61 ?_
  refine z_aload_n (k := 0) (pc := 64) C dX4_told_64 rfl ?_
  obtain ⟨r12, g12, hM⟩ := Option.bind_eq_some_iff.mp hM
  refine z_getI (pc := 65) (k := 1) C g12 rfl inlX3 (by decide) q_306 (fun _ h9 => h9) dX4_told_65 ?_
  obtain ⟨_, g13, hM⟩ := Option.bind_eq_some_iff.mp hM
  obtain ⟨r14, g14, hM⟩ := Option.bind_eq_some_iff.mp hM
  refine z_goN (kc := 0) (ks := 0) ([.int r14]) (z_callV (pc := 68) (As := [.int r11, .int r12]) (rest := []) (n := 2) (ci := 2) C (c_X1_layersAt l hl G lo t0 h nx r10 r11 r12 r14 g14) g13 rfl q_447 q_419 q_420 q_15 q_421 ⟨rfl, by decide +kernel, by decide +kernel, by decide +kernel⟩ ⟨Nat.le_of_ble_eq_true rfl, Nat.le_of_ble_eq_true rfl⟩ rfl (Nat.le_of_ble_eq_true rfl) dX4_told_68 ⟨(Nat.zero_le _), (Nat.zero_le _)⟩) rfl (Nat.le_of_ble_eq_true rfl) (Nat.le_of_ble_eq_true rfl) ?_
  cases hM
  exact z_iret (pc := 71) C rfl (Nat.zero_le _) (Nat.zero_le _) dX4_told_71
set_option maxHeartbeats 4000000 in
set_option maxRecDepth 100000 in
theorem c_X4_share (l : Launch) (hl : l.stackTraces = false) (G : zG) (lo t0 : Nat) (h : zH) (nx : Nat) (a0 : Nat) (x1 : Int32) (x2 : Int32) (o : String ⊕ (Int32)) (hM : M_X4_share h a0 x1 x2 = some o) : z_Met l yX4_share cX4_share 7 (some .int) 7 111 G lo t0 [.ref a0, .int x1, .int x2] h nx (z_eo h o (fun z : Int32 => (some (.int z), h, nx))) (z_mo o 1 0) (z_mo o 6 0) := by
  refine z_of [(0, .ref a0), (1, .int x1), (2, .int x2)] (by decide) (Nat.le_of_ble_eq_true rfl) rfl (fun p e s m below meth c C hin => ?_)
  unfold M_X4_share at hM
  refine z_aload_n (k := 0) (pc := 0) C dX4_share_0 rfl ?_
  obtain ⟨r1, g1, hM⟩ := Option.bind_eq_some_iff.mp hM
  refine z_getR (pc := 1) (k := 0) C g1 rfl inlX4 (by decide) q_16 (fun _ h9 => h9) dX4_share_1 ?_
  refine z_iload_n (k := 1) (pc := 4) C dX4_share_4 rfl ?_
  obtain ⟨_, g2, hM⟩ := Option.bind_eq_some_iff.mp hM
  rcases z_tb_c hM with ⟨Er3, g3, rfl⟩ | ⟨r3, g3, hM⟩
  · exact z_goX C ne_X4 (z_callV (pc := 5) (As := [.int x1]) (rest := []) (n := 1) (ci := 2) C (c_X1_numbered l hl G lo t0 h nx r1 x1 (.inl Er3) g3) g2 rfl q_230 q_231 q_232 q_15 q_233 ⟨rfl, by decide +kernel, by decide +kernel, by decide +kernel⟩ ⟨Nat.le_of_ble_eq_true rfl, Nat.le_of_ble_eq_true rfl⟩ rfl (Nat.le_of_ble_eq_true rfl) dX4_share_5 ⟨Nat.le_of_ble_eq_true rfl, Nat.le_of_ble_eq_true rfl⟩) (Nat.le_of_ble_eq_true rfl) (Nat.le_of_ble_eq_true rfl)
  refine z_goN (kc := 0) (ks := 0) ([.ref r3]) (z_callV (pc := 5) (As := [.int x1]) (rest := []) (n := 1) (ci := 2) C (c_X1_numbered l hl G lo t0 h nx r1 x1 (.inr r3) g3) g2 rfl q_230 q_231 q_232 q_15 q_233 ⟨rfl, by decide +kernel, by decide +kernel, by decide +kernel⟩ ⟨Nat.le_of_ble_eq_true rfl, Nat.le_of_ble_eq_true rfl⟩ rfl (Nat.le_of_ble_eq_true rfl) dX4_share_5 ⟨(Nat.zero_le _), (Nat.zero_le _)⟩) rfl (Nat.le_of_ble_eq_true rfl) (Nat.le_of_ble_eq_true rfl) ?_
  refine z_astore_n (lv' := [(3, .ref r3), (0, .ref a0), (1, .int x1), (2, .int x2)]) (pc := 8) C dX4_share_8 (by decide) rfl ?_
  refine z_aload_n (k := 1) (pc := 9) C dX4_share_9 rfl ?_
  obtain ⟨r4, g4, hM⟩ := Option.bind_eq_some_iff.mp hM
  refine z_getR (pc := 10) (k := 0) C g4 rfl inlX4 (by decide) q_16 (fun _ h9 => h9) dX4_share_10 ?_
  refine z_iload_n (k := 3) (pc := 13) C dX4_share_13 rfl ?_
  obtain ⟨_, g5, hM⟩ := Option.bind_eq_some_iff.mp hM
  rcases z_tb_c hM with ⟨Er6, g6, rfl⟩ | ⟨r6, g6, hM⟩
  · exact z_goX C ne_X4 (z_callV (pc := 14) (As := [.int x2]) (rest := []) (n := 1) (ci := 2) C (c_X1_numbered l hl G lo t0 h nx r4 x2 (.inl Er6) g6) g5 rfl q_230 q_231 q_232 q_15 q_233 ⟨rfl, by decide +kernel, by decide +kernel, by decide +kernel⟩ ⟨Nat.le_of_ble_eq_true rfl, Nat.le_of_ble_eq_true rfl⟩ rfl (Nat.le_of_ble_eq_true rfl) dX4_share_14 ⟨Nat.le_of_ble_eq_true rfl, Nat.le_of_ble_eq_true rfl⟩) (Nat.le_of_ble_eq_true rfl) (Nat.le_of_ble_eq_true rfl)
  refine z_goN (kc := 0) (ks := 0) ([.ref r6]) (z_callV (pc := 14) (As := [.int x2]) (rest := []) (n := 1) (ci := 2) C (c_X1_numbered l hl G lo t0 h nx r4 x2 (.inr r6) g6) g5 rfl q_230 q_231 q_232 q_15 q_233 ⟨rfl, by decide +kernel, by decide +kernel, by decide +kernel⟩ ⟨Nat.le_of_ble_eq_true rfl, Nat.le_of_ble_eq_true rfl⟩ rfl (Nat.le_of_ble_eq_true rfl) dX4_share_14 ⟨(Nat.zero_le _), (Nat.zero_le _)⟩) rfl (Nat.le_of_ble_eq_true rfl) (Nat.le_of_ble_eq_true rfl) ?_
  refine z_astore (lv' := [(4, .ref r6), (3, .ref r3), (0, .ref a0), (1, .int x1), (2, .int x2)]) (pc := 17) C dX4_share_17 (by decide) rfl ?_
  refine z_aload_n (k := 1) (pc := 19) C dX4_share_19 rfl ?_
  obtain ⟨r7, g7, hM⟩ := Option.bind_eq_some_iff.mp hM
  refine z_getI (pc := 20) (k := 6) C g7 rfl inlX0 (by decide) q_229 (fun _ h9 => h9) dX4_share_20 ?_
  refine z_if_eq (pc := 23) (tgt := 34) C dX4_share_23 (by decide) hM (fun hc25 hM => ?_) (fun hc25 hM => ?_)
  · refine z_iconst (v := (0 : Int32)) (pc := 34) C dX4_share_34 (by decide) ?_
    cases hM
    exact z_iret (pc := 35) C rfl (Nat.zero_le _) (Nat.zero_le _) dX4_share_35
  · refine z_aload (k := 0) (pc := 26) C dX4_share_26 rfl ?_
    obtain ⟨r8, g8, hM⟩ := Option.bind_eq_some_iff.mp hM
    refine z_getI (pc := 28) (k := 6) C g8 rfl inlX0 (by decide) q_229 (fun _ h9 => h9) dX4_share_28 ?_
    refine z_if_ne (pc := 31) (tgt := 36) C dX4_share_31 (by decide) hM (fun hc24 hM => ?_) (fun hc24 hM => ?_)
    · refine z_iconst (v := (0 : Int32)) (pc := 34) C dX4_share_34 (by decide) ?_
      cases hM
      exact z_iret (pc := 35) C rfl (Nat.zero_le _) (Nat.zero_le _) dX4_share_35
    · refine z_aload_n (k := 1) (pc := 36) C dX4_share_36 rfl ?_
      obtain ⟨r9, g9, hM⟩ := Option.bind_eq_some_iff.mp hM
      refine z_getI (pc := 37) (k := 0) C g9 rfl inlX0 (by decide) q_242 (fun _ h9 => h9) dX4_share_37 ?_
      refine z_aload_n (k := 1) (pc := 40) C dX4_share_40 rfl ?_
      obtain ⟨r10, g10, hM⟩ := Option.bind_eq_some_iff.mp hM
      refine z_getI (pc := 41) (k := 2) C g10 rfl inlX0 (by decide) q_240 (fun _ h9 => h9) dX4_share_41 ?_
      refine z_iadd (pc := 44) C dX4_share_44 ?_
      refine z_aload (k := 0) (pc := 45) C dX4_share_45 rfl ?_
      obtain ⟨r11, g11, hM⟩ := Option.bind_eq_some_iff.mp hM
      refine z_getI (pc := 47) (k := 0) C g11 rfl inlX0 (by decide) q_242 (fun _ h9 => h9) dX4_share_47 ?_
      refine z_aload (k := 0) (pc := 50) C dX4_share_50 rfl ?_
      obtain ⟨r12, g12, hM⟩ := Option.bind_eq_some_iff.mp hM
      refine z_getI (pc := 52) (k := 2) C g12 rfl inlX0 (by decide) q_240 (fun _ h9 => h9) dX4_share_52 ?_
      refine z_iadd (pc := 55) C dX4_share_55 ?_
      refine z_min (pc := 56) C q_515 q_184 q_5 q_185 (Nat.le_of_ble_eq_true rfl) (Nat.le_of_ble_eq_true rfl) (Nat.zero_le _) (Nat.zero_le _) dX4_share_56 ?_
      refine z_aload_n (k := 1) (pc := 59) C dX4_share_59 rfl ?_
      obtain ⟨r13, g13, hM⟩ := Option.bind_eq_some_iff.mp hM
      refine z_getI (pc := 60) (k := 0) C g13 rfl inlX0 (by decide) q_242 (fun _ h9 => h9) dX4_share_60 ?_
      refine z_aload (k := 0) (pc := 63) C dX4_share_63 rfl ?_
      obtain ⟨r14, g14, hM⟩ := Option.bind_eq_some_iff.mp hM
      refine z_getI (pc := 65) (k := 0) C g14 rfl inlX0 (by decide) q_242 (fun _ h9 => h9) dX4_share_65 ?_
      refine z_max (pc := 68) C q_516 q_4 q_5 q_6 (Nat.le_of_ble_eq_true rfl) (Nat.le_of_ble_eq_true rfl) (Nat.zero_le _) (Nat.zero_le _) dX4_share_68 ?_
      refine z_isub (pc := 71) C dX4_share_71 ?_
      refine z_istore (lv' := [(5, .int ((if (r11 + r12) < (r9 + r10) then (r11 + r12) else (r9 + r10)) - (if r13 < r14 then r14 else r13))), (4, .ref r6), (3, .ref r3), (0, .ref a0), (1, .int x1), (2, .int x2)]) (pc := 72) C dX4_share_72 (by decide) rfl ?_
      refine z_aload_n (k := 2) (pc := 74) C dX4_share_74 rfl ?_
      obtain ⟨r15, g15, hM⟩ := Option.bind_eq_some_iff.mp hM
      refine z_getI (pc := 75) (k := 1) C g15 rfl inlX0 (by decide) q_243 (fun _ h9 => h9) dX4_share_75 ?_
      refine z_aload_n (k := 2) (pc := 78) C dX4_share_78 rfl ?_
      obtain ⟨r16, g16, hM⟩ := Option.bind_eq_some_iff.mp hM
      refine z_getI (pc := 79) (k := 3) C g16 rfl inlX0 (by decide) q_241 (fun _ h9 => h9) dX4_share_79 ?_
      refine z_iadd (pc := 82) C dX4_share_82 ?_
      refine z_aload (k := 1) (pc := 83) C dX4_share_83 rfl ?_
      obtain ⟨r17, g17, hM⟩ := Option.bind_eq_some_iff.mp hM
      refine z_getI (pc := 85) (k := 1) C g17 rfl inlX0 (by decide) q_243 (fun _ h9 => h9) dX4_share_85 ?_
      refine z_aload (k := 1) (pc := 88) C dX4_share_88 rfl ?_
      obtain ⟨r18, g18, hM⟩ := Option.bind_eq_some_iff.mp hM
      refine z_getI (pc := 90) (k := 3) C g18 rfl inlX0 (by decide) q_241 (fun _ h9 => h9) dX4_share_90 ?_
      refine z_iadd (pc := 93) C dX4_share_93 ?_
      refine z_min (pc := 94) C q_515 q_184 q_5 q_185 (Nat.le_of_ble_eq_true rfl) (Nat.le_of_ble_eq_true rfl) (Nat.zero_le _) (Nat.zero_le _) dX4_share_94 ?_
      refine z_aload_n (k := 2) (pc := 97) C dX4_share_97 rfl ?_
      obtain ⟨r19, g19, hM⟩ := Option.bind_eq_some_iff.mp hM
      refine z_getI (pc := 98) (k := 1) C g19 rfl inlX0 (by decide) q_243 (fun _ h9 => h9) dX4_share_98 ?_
      refine z_aload (k := 1) (pc := 101) C dX4_share_101 rfl ?_
      obtain ⟨r20, g20, hM⟩ := Option.bind_eq_some_iff.mp hM
      refine z_getI (pc := 103) (k := 1) C g20 rfl inlX0 (by decide) q_243 (fun _ h9 => h9) dX4_share_103 ?_
      refine z_max (pc := 106) C q_516 q_4 q_5 q_6 (Nat.le_of_ble_eq_true rfl) (Nat.le_of_ble_eq_true rfl) (Nat.zero_le _) (Nat.zero_le _) dX4_share_106 ?_
      refine z_isub (pc := 109) C dX4_share_109 ?_
      refine z_istore (lv' := [(6, .int ((if (r17 + r18) < (r15 + r16) then (r17 + r18) else (r15 + r16)) - (if r19 < r20 then r20 else r19))), (5, .int ((if (r11 + r12) < (r9 + r10) then (r11 + r12) else (r9 + r10)) - (if r13 < r14 then r14 else r13))), (4, .ref r6), (3, .ref r3), (0, .ref a0), (1, .int x1), (2, .int x2)]) (pc := 110) C dX4_share_110 (by decide) rfl ?_
      refine z_iload (k := 1) (pc := 112) C dX4_share_112 rfl ?_
      refine zj0 0 0 130 ([]) ([]) (h) (nx) hM (fun  hM => ?_) (fun J21 iJ21 hM => ?_)
      · refine z_iconst (v := (0 : Int32)) (pc := 130) C dX4_share_130 (by decide) ?_
        cases hM
        exact z_iret (pc := 131) C rfl (Nat.zero_le _) (Nat.zero_le _) dX4_share_131
      refine z_if_le (pc := 114) (tgt := 130) C dX4_share_114 (by decide) hM (fun hc23 hM => ?_) (fun hc23 hM => ?_)
      · exact z_sub [] rfl (iJ21 hM)
      · refine z_iload (k := 0) (pc := 117) C dX4_share_117 rfl ?_
        refine z_if_le (pc := 119) (tgt := 130) C dX4_share_119 (by decide) hM (fun hc22 hM => ?_) (fun hc22 hM => ?_)
        · exact z_sub [] rfl (iJ21 hM)
        · refine z_iload (k := 1) (pc := 122) C dX4_share_122 rfl ?_
          refine z_iload (k := 0) (pc := 124) C dX4_share_124 rfl ?_
          refine z_imul (pc := 126) C dX4_share_126 ?_
          refine z_goto (pc := 127) (tgt := 131) C dX4_share_127 (by decide) ?_
          cases hM
          exact z_iret (pc := 131) C rfl (Nat.zero_le _) (Nat.zero_le _) dX4_share_131
set_option maxHeartbeats 4000000 in
set_option maxRecDepth 100000 in
theorem c_X4_stallsNotCovered (l : Launch) (hl : l.stackTraces = false) (G : zG) (lo t0 : Nat) (h : zH) (nx : Nat) (a0 : Nat) (o : Int32) (hM : M_X4_stallsNotCovered h a0 = some o) : z_Met l yX4_stallsNotCovered cX4_stallsNotCovered 4 (some .int) 3 64 G lo t0 [.ref a0] h nx (.inr (some (.int o), h, nx)) 0 0 := by
  refine z_of [(0, .ref a0)] (by decide) (Nat.le_of_ble_eq_true rfl) rfl (fun p e s m below meth c C hin => ?_)
  unfold M_X4_stallsNotCovered at hM
  refine z_iconst (v := (0 : Int32)) (pc := 0) C dX4_stallsNotCovered_0 (by decide) ?_
  refine z_istore_n (lv' := [(1, .int (0 : Int32)), (0, .ref a0)]) (pc := 1) C dX4_stallsNotCovered_1 (by decide) rfl ?_
  refine z_iconst (v := (0 : Int32)) (pc := 2) C dX4_stallsNotCovered_2 (by decide) ?_
  refine z_istore_n (lv' := [(2, .int (0 : Int32)), (1, .int (0 : Int32)), (0, .ref a0)]) (pc := 3) C dX4_stallsNotCovered_3 (by decide) rfl ?_
  refine z_sub [2, 1, 0] rfl (zl2 (fun (x1_1 : Int32) (x2_1 : Int32) => [(0, .ref a0), (1, .int x1_1), (2, .int x2_1)]) (fun (x1_1 : Int32) (x2_1 : Int32) => h) (fun (x1_1 : Int32) (x2_1 : Int32) => nx) hM (fun rec1 irec1 x1_1 x2_1 hM => ?_))
  refine z_iload_n (k := 2) (pc := 4) C dX4_stallsNotCovered_4 rfl ?_
  refine z_aload_n (k := 0) (pc := 5) C dX4_stallsNotCovered_5 rfl ?_
  obtain ⟨r2, g2, hM⟩ := Option.bind_eq_some_iff.mp hM
  refine z_getR (pc := 6) (k := 2) C g2 rfl inlX4 (by decide) q_24 (fun _ h9 => h9) dX4_stallsNotCovered_6 ?_
  obtain ⟨_, g3, hM⟩ := Option.bind_eq_some_iff.mp hM
  obtain ⟨r4, g4, hM⟩ := Option.bind_eq_some_iff.mp hM
  refine z_goN (kc := 0) (ks := 0) ([.int r4, .int x2_1]) (z_callV (pc := 9) (As := []) (rest := [.int x2_1]) (n := 0) (ci := 0) C (c_Jx4a65c_size_8abf5 l hl G lo t0 h nx r2 r4 g4) g3 rfl q_299 q_121 q_122 q_23 q_123 ⟨rfl, by decide +kernel, by decide +kernel, by decide +kernel⟩ ⟨Nat.le_of_ble_eq_true rfl, Nat.le_of_ble_eq_true rfl⟩ rfl (Nat.le_of_ble_eq_true rfl) dX4_stallsNotCovered_9 ⟨(Nat.zero_le _), (Nat.zero_le _)⟩) rfl (Nat.le_of_ble_eq_true rfl) (Nat.le_of_ble_eq_true rfl) ?_
  refine z_icmp_ge (pc := 12) (tgt := 54) C dX4_stallsNotCovered_12 (by decide) hM (fun hc16 hM => ?_) (fun hc16 hM => ?_)
  · refine z_iload_n (k := 1) (pc := 54) C dX4_stallsNotCovered_54 rfl ?_
    cases hM
    exact z_iret (pc := 55) C rfl (Nat.zero_le _) (Nat.zero_le _) dX4_stallsNotCovered_55
  · refine z_aload_n (k := 0) (pc := 15) C dX4_stallsNotCovered_15 rfl ?_
    obtain ⟨r5, g5, hM⟩ := Option.bind_eq_some_iff.mp hM
    refine z_getR (pc := 16) (k := 2) C g5 rfl inlX4 (by decide) q_24 (fun _ h9 => h9) dX4_stallsNotCovered_16 ?_
    refine z_iload_n (k := 2) (pc := 19) C dX4_stallsNotCovered_19 rfl ?_
    obtain ⟨_, g6, hM⟩ := Option.bind_eq_some_iff.mp hM
    obtain ⟨r7, g7, hM⟩ := Option.bind_eq_some_iff.mp hM
    refine z_goN (kc := 0) (ks := 0) ([.ref r7]) (z_callV (pc := 20) (As := [.int x2_1]) (rest := []) (n := 1) (ci := 0) C (c_Jx4a65c_get_915e3 l hl G lo t0 h nx r5 x2_1 r7 g7) g6 rfl q_307 q_200 q_201 q_23 q_202 ⟨rfl, by decide +kernel, by decide +kernel, by decide +kernel⟩ ⟨Nat.le_of_ble_eq_true rfl, Nat.le_of_ble_eq_true rfl⟩ rfl (Nat.le_of_ble_eq_true rfl) dX4_stallsNotCovered_20 ⟨(Nat.zero_le _), (Nat.zero_le _)⟩) rfl (Nat.le_of_ble_eq_true rfl) (Nat.le_of_ble_eq_true rfl) ?_
    obtain ⟨_, g8, hM⟩ := Option.bind_eq_some_iff.mp hM
    refine z_cast (pc := 23) C g8 (ci := 4) rfl q_304 dX4_stallsNotCovered_23 ?_
    refine z_astore_n (lv' := [(3, .ref r7), (0, .ref a0), (1, .int x1_1), (2, .int x2_1)]) (pc := 26) C dX4_stallsNotCovered_26 (by decide) rfl ?_
    refine z_aload_n (k := 1) (pc := 27) C dX4_stallsNotCovered_27 rfl ?_
    obtain ⟨r9, g9, hM⟩ := Option.bind_eq_some_iff.mp hM
    refine z_getR (pc := 28) (k := 0) C g9 rfl inlX4 (by decide) q_16 (fun _ h9 => h9) dX4_stallsNotCovered_28 ?_
    refine z_aload_n (k := 0) (pc := 31) C dX4_stallsNotCovered_31 rfl ?_
    obtain ⟨r10, g10, hM⟩ := Option.bind_eq_some_iff.mp hM
    refine z_getI (pc := 32) (k := 0) C g10 rfl inlX3 (by decide) q_305 (fun _ h9 => h9) dX4_stallsNotCovered_32 ?_
    refine z_aload_n (k := 0) (pc := 35) C dX4_stallsNotCovered_35 rfl ?_
    obtain ⟨r11, g11, hM⟩ := Option.bind_eq_some_iff.mp hM
    refine z_getI (pc := 36) (k := 1) C g11 rfl inlX3 (by decide) q_306 (fun _ h9 => h9) dX4_stallsNotCovered_36 ?_
    obtain ⟨_, g12, hM⟩ := Option.bind_eq_some_iff.mp hM
    obtain ⟨r13, g13, hM⟩ := Option.bind_eq_some_iff.mp hM
    refine z_goN (kc := 0) (ks := 0) ([.int r13]) (z_callV (pc := 39) (As := [.int r10, .int r11]) (rest := []) (n := 2) (ci := 2) C (c_X1_layersAt l hl G lo t0 h nx r9 r10 r11 r13 g13) g12 rfl q_447 q_419 q_420 q_15 q_421 ⟨rfl, by decide +kernel, by decide +kernel, by decide +kernel⟩ ⟨Nat.le_of_ble_eq_true rfl, Nat.le_of_ble_eq_true rfl⟩ rfl (Nat.le_of_ble_eq_true rfl) dX4_stallsNotCovered_39 ⟨(Nat.zero_le _), (Nat.zero_le _)⟩) rfl (Nat.le_of_ble_eq_true rfl) (Nat.le_of_ble_eq_true rfl) ?_
    refine zj1 0 0 48 (fun (x1_14 : Int32) => [(0, .ref a0), (1, .int x1_14), (2, .int x2_1)]) (fun (x1_14 : Int32) => []) (fun (x1_14 : Int32) => h) (fun (x1_14 : Int32) => nx) hM (fun x1_14 hM => ?_) (fun J14 iJ14 hM => ?_)
    · refine z_iinc (k := 2) (v := (x2_1 + (1 : Int32))) (lv' := [(2, .int (x2_1 + (1 : Int32))), (0, .ref a0), (1, .int x1_14)]) (pc := 48) C dX4_stallsNotCovered_48 rfl (by first | rfl | decide) (by decide) rfl ?_
      refine z_goto (pc := 51) (tgt := 4) C dX4_stallsNotCovered_51 (by decide) ?_
      exact z_sub [1, 2, 0] rfl (irec1 x1_14 (x2_1 + (1 : Int32)) hM)
    refine z_if_ne (pc := 42) (tgt := 48) C dX4_stallsNotCovered_42 (by decide) hM (fun hc15 hM => ?_) (fun hc15 hM => ?_)
    · refine z_iinc (k := 2) (v := (x1_1 + (1 : Int32))) (lv' := [(1, .int (x1_1 + (1 : Int32))), (3, .ref r7), (0, .ref a0), (2, .int x2_1)]) (pc := 45) C dX4_stallsNotCovered_45 rfl (by first | rfl | decide) (by decide) rfl ?_
      exact z_sub [2, 0, 3] rfl (iJ14 (x1_1 + (1 : Int32)) hM)
    · exact z_sub [1, 2, 3] rfl (iJ14 x1_1 hM)
set_option maxHeartbeats 4000000 in
set_option maxRecDepth 100000 in
theorem c_X4_count (l : Launch) (hl : l.stackTraces = false) (G : zG) (lo t0 : Nat) (h : zH) (nx : Nat) (a0 : Nat) (x1 : Int32) (o : String ⊕ (Int32 × zH)) (hM : M_X4_count h a0 x1 = some o) : z_Met l yX4_count cX4_count 2 (some .int) 7 112 G lo t0 [.ref a0, .int x1] h nx (z_eo h o (fun z : Int32 × zH => (some (.int z.1), z.2, nx))) (z_mo o 1 0) (z_mo o 6 0) := by
  refine z_of [(0, .ref a0), (1, .int x1)] (by decide) (Nat.le_of_ble_eq_true rfl) rfl (fun p e s m below meth c C hin => ?_)
  unfold M_X4_count at hM
  refine z_iload_n (k := 1) (pc := 0) C dX4_count_0 rfl ?_
  refine z_bipush (v := (10 : Int32)) (pc := 1) C dX4_count_1 (by decide) ?_
  rcases z_tb_c hM with ⟨Er1, g1, rfl⟩ | ⟨r1, g1, hM⟩
  · exact z_goX C ne_X4 (z_callS (pc := 3) (As := [.int x1, .int (10 : Int32)]) (rest := []) (n := 2) C (c_X4_requireWhat l hl G lo t0 h nx x1 (10 : Int32) (.inl Er1) g1) q_407 q_408 q_2 q_409 ⟨by decide +kernel, by decide +kernel, by decide +kernel⟩ ⟨Nat.le_of_ble_eq_true rfl, Nat.le_of_ble_eq_true rfl⟩ rfl (Nat.le_of_ble_eq_true rfl) dX4_count_3 ⟨Nat.le_of_ble_eq_true rfl, Nat.le_of_ble_eq_true rfl⟩) (Nat.le_of_ble_eq_true rfl) (Nat.le_of_ble_eq_true rfl)
  refine z_goN (kc := 0) (ks := 0) ([]) (z_callS (pc := 3) (As := [.int x1, .int (10 : Int32)]) (rest := []) (n := 2) C (c_X4_requireWhat l hl G lo t0 h nx x1 (10 : Int32) (.inr r1) g1) q_407 q_408 q_2 q_409 ⟨by decide +kernel, by decide +kernel, by decide +kernel⟩ ⟨Nat.le_of_ble_eq_true rfl, Nat.le_of_ble_eq_true rfl⟩ rfl (Nat.le_of_ble_eq_true rfl) dX4_count_3 ⟨(Nat.zero_le _), (Nat.zero_le _)⟩) rfl (Nat.le_of_ble_eq_true rfl) (Nat.le_of_ble_eq_true rfl) ?_
  refine z_iload_n (k := 1) (pc := 6) C dX4_count_6 rfl ?_
  refine z_sw hM (fun hc2 hM => ?_) (fun hc2 hM => ?_)
  · refine z_tableIn (pc := 7) (tgt := 60) C dX4_count_7 (by rw [hc2]; decide) (by rw [hc2]; decide) (by rw [hc2]; rfl) (by decide) ?_
    refine z_aload_n (k := 0) (pc := 60) C dX4_count_60 rfl ?_
    obtain ⟨r3, g3, hM⟩ := Option.bind_eq_some_iff.mp hM
    refine z_getR (pc := 61) (k := 0) C g3 rfl inlX4 (by decide) q_16 (fun _ h9 => h9) dX4_count_61 ?_
    obtain ⟨_, g4, hM⟩ := Option.bind_eq_some_iff.mp hM
    obtain ⟨r5, g5, hM⟩ := Option.bind_eq_some_iff.mp hM
    refine z_goN (kc := 0) (ks := 0) ([.int r5]) (z_callV (pc := 64) (As := []) (rest := []) (n := 0) (ci := 2) C (c_X1_size l hl G lo t0 h nx r3 r5 g5) g4 rfl q_116 q_117 q_118 q_15 q_119 ⟨rfl, by decide +kernel, by decide +kernel, by decide +kernel⟩ ⟨Nat.le_of_ble_eq_true rfl, Nat.le_of_ble_eq_true rfl⟩ rfl (Nat.le_of_ble_eq_true rfl) dX4_count_64 ⟨(Nat.zero_le _), (Nat.zero_le _)⟩) rfl (Nat.le_of_ble_eq_true rfl) (Nat.le_of_ble_eq_true rfl) ?_
    cases hM
    exact z_iret (pc := 67) C rfl (Nat.zero_le _) (Nat.zero_le _) dX4_count_67
  refine z_sw hM (fun hc6 hM => ?_) (fun hc6 hM => ?_)
  · refine z_tableIn (pc := 7) (tgt := 68) C dX4_count_7 (by rw [hc6]; decide) (by rw [hc6]; decide) (by rw [hc6]; rfl) (by decide) ?_
    refine z_aload_n (k := 0) (pc := 68) C dX4_count_68 rfl ?_
    obtain ⟨r7, g7, hM⟩ := Option.bind_eq_some_iff.mp hM
    refine z_getR (pc := 69) (k := 0) C g7 rfl inlX4 (by decide) q_16 (fun _ h9 => h9) dX4_count_69 ?_
    obtain ⟨_, g8, hM⟩ := Option.bind_eq_some_iff.mp hM
    obtain ⟨r9, g9, hM⟩ := Option.bind_eq_some_iff.mp hM
    refine z_goN (kc := 0) (ks := 0) ([.int r9]) (z_callV (pc := 72) (As := []) (rest := []) (n := 0) (ci := 2) C (c_X1_sizeOut l hl G lo t0 h nx r7 r9 g9) g8 rfl q_410 q_411 q_412 q_15 q_413 ⟨rfl, by decide +kernel, by decide +kernel, by decide +kernel⟩ ⟨Nat.le_of_ble_eq_true rfl, Nat.le_of_ble_eq_true rfl⟩ rfl (Nat.le_of_ble_eq_true rfl) dX4_count_72 ⟨(Nat.zero_le _), (Nat.zero_le _)⟩) rfl (Nat.le_of_ble_eq_true rfl) (Nat.le_of_ble_eq_true rfl) ?_
    cases hM
    exact z_iret (pc := 75) C rfl (Nat.zero_le _) (Nat.zero_le _) dX4_count_75
  refine z_sw hM (fun hc10 hM => ?_) (fun hc10 hM => ?_)
  · refine z_tableIn (pc := 7) (tgt := 76) C dX4_count_7 (by rw [hc10]; decide) (by rw [hc10]; decide) (by rw [hc10]; rfl) (by decide) ?_
    refine z_aload_n (k := 0) (pc := 76) C dX4_count_76 rfl ?_
    obtain ⟨r11, g11, hM⟩ := Option.bind_eq_some_iff.mp hM
    refine z_getR (pc := 77) (k := 2) C g11 rfl inlX4 (by decide) q_24 (fun _ h9 => h9) dX4_count_77 ?_
    obtain ⟨_, g12, hM⟩ := Option.bind_eq_some_iff.mp hM
    obtain ⟨r13, g13, hM⟩ := Option.bind_eq_some_iff.mp hM
    refine z_goN (kc := 0) (ks := 0) ([.int r13]) (z_callV (pc := 80) (As := []) (rest := []) (n := 0) (ci := 0) C (c_Jx4a65c_size_8abf5 l hl G lo t0 h nx r11 r13 g13) g12 rfl q_299 q_121 q_122 q_23 q_123 ⟨rfl, by decide +kernel, by decide +kernel, by decide +kernel⟩ ⟨Nat.le_of_ble_eq_true rfl, Nat.le_of_ble_eq_true rfl⟩ rfl (Nat.le_of_ble_eq_true rfl) dX4_count_80 ⟨(Nat.zero_le _), (Nat.zero_le _)⟩) rfl (Nat.le_of_ble_eq_true rfl) (Nat.le_of_ble_eq_true rfl) ?_
    cases hM
    exact z_iret (pc := 83) C rfl (Nat.zero_le _) (Nat.zero_le _) dX4_count_83
  refine z_sw hM (fun hc14 hM => ?_) (fun hc14 hM => ?_)
  · refine z_tableIn (pc := 7) (tgt := 84) C dX4_count_7 (by rw [hc14]; decide) (by rw [hc14]; decide) (by rw [hc14]; rfl) (by decide) ?_
    refine z_aload_n (k := 0) (pc := 84) C dX4_count_84 rfl ?_
    obtain ⟨r15, g15, hM⟩ := Option.bind_eq_some_iff.mp hM
    refine z_getR (pc := 85) (k := 0) C g15 rfl inlX4 (by decide) q_16 (fun _ h9 => h9) dX4_count_85 ?_
    obtain ⟨_, g16, hM⟩ := Option.bind_eq_some_iff.mp hM
    obtain ⟨r17, g17, hM⟩ := Option.bind_eq_some_iff.mp hM
    refine z_goN (kc := 0) (ks := 0) ([.int r17]) (z_callV (pc := 88) (As := []) (rest := []) (n := 0) (ci := 2) C (c_X1_covered l hl G lo t0 h nx r15 r17 g17) g16 rfl q_244 q_245 q_246 q_15 q_247 ⟨rfl, by decide +kernel, by decide +kernel, by decide +kernel⟩ ⟨Nat.le_of_ble_eq_true rfl, Nat.le_of_ble_eq_true rfl⟩ rfl (Nat.le_of_ble_eq_true rfl) dX4_count_88 ⟨(Nat.zero_le _), (Nat.zero_le _)⟩) rfl (Nat.le_of_ble_eq_true rfl) (Nat.le_of_ble_eq_true rfl) ?_
    cases hM
    exact z_iret (pc := 91) C rfl (Nat.zero_le _) (Nat.zero_le _) dX4_count_91
  refine z_sw hM (fun hc18 hM => ?_) (fun hc18 hM => ?_)
  · refine z_tableIn (pc := 7) (tgt := 92) C dX4_count_7 (by rw [hc18]; decide) (by rw [hc18]; decide) (by rw [hc18]; rfl) (by decide) ?_
    refine z_aload_n (k := 0) (pc := 92) C dX4_count_92 rfl ?_
    obtain ⟨r19, g19, hM⟩ := Option.bind_eq_some_iff.mp hM
    refine z_getR (pc := 93) (k := 0) C g19 rfl inlX4 (by decide) q_16 (fun _ h9 => h9) dX4_count_93 ?_
    obtain ⟨_, g20, hM⟩ := Option.bind_eq_some_iff.mp hM
    obtain ⟨r21, g21, hM⟩ := Option.bind_eq_some_iff.mp hM
    refine z_goN (kc := 0) (ks := 0) ([.int r21]) (z_callV (pc := 96) (As := []) (rest := []) (n := 0) (ci := 2) C (c_X1_outline l hl G lo t0 h nx r19 r21 g21) g20 rfl q_414 q_415 q_416 q_15 q_417 ⟨rfl, by decide +kernel, by decide +kernel, by decide +kernel⟩ ⟨Nat.le_of_ble_eq_true rfl, Nat.le_of_ble_eq_true rfl⟩ rfl (Nat.le_of_ble_eq_true rfl) dX4_count_96 ⟨(Nat.zero_le _), (Nat.zero_le _)⟩) rfl (Nat.le_of_ble_eq_true rfl) (Nat.le_of_ble_eq_true rfl) ?_
    cases hM
    exact z_iret (pc := 99) C rfl (Nat.zero_le _) (Nat.zero_le _) dX4_count_99
  refine z_sw hM (fun hc22 hM => ?_) (fun hc22 hM => ?_)
  · refine z_tableIn (pc := 7) (tgt := 100) C dX4_count_7 (by rw [hc22]; decide) (by rw [hc22]; decide) (by rw [hc22]; rfl) (by decide) ?_
    refine z_aload_n (k := 0) (pc := 100) C dX4_count_100 rfl ?_
    obtain ⟨r23, g23, hM⟩ := Option.bind_eq_some_iff.mp hM
    refine z_getR (pc := 101) (k := 0) C g23 rfl inlX4 (by decide) q_16 (fun _ h9 => h9) dX4_count_101 ?_
    obtain ⟨_, g24, hM⟩ := Option.bind_eq_some_iff.mp hM
    obtain ⟨r25, g25, hM⟩ := Option.bind_eq_some_iff.mp hM
    refine z_goN (kc := 0) (ks := 0) ([.int r25.1]) (z_callV (pc := 104) (As := []) (rest := []) (n := 0) (ci := 2) C (c_X1_parts l hl G lo t0 h nx r23 r25 g25) g24 rfl q_430 q_431 q_432 q_15 q_433 ⟨rfl, by decide +kernel, by decide +kernel, by decide +kernel⟩ ⟨Nat.le_of_ble_eq_true rfl, Nat.le_of_ble_eq_true rfl⟩ rfl (Nat.le_of_ble_eq_true rfl) dX4_count_104 ⟨(Nat.zero_le _), (Nat.zero_le _)⟩) rfl (Nat.le_of_ble_eq_true rfl) (Nat.le_of_ble_eq_true rfl) ?_
    cases hM
    exact z_iret (pc := 107) C rfl (Nat.zero_le _) (Nat.zero_le _) dX4_count_107
  refine z_sw hM (fun hc26 hM => ?_) (fun hc26 hM => ?_)
  · refine z_tableIn (pc := 7) (tgt := 108) C dX4_count_7 (by rw [hc26]; decide) (by rw [hc26]; decide) (by rw [hc26]; rfl) (by decide) ?_
    refine z_aload_n (k := 0) (pc := 108) C dX4_count_108 rfl ?_
    obtain ⟨r27, g27, hM⟩ := Option.bind_eq_some_iff.mp hM
    refine z_getR (pc := 109) (k := 0) C g27 rfl inlX4 (by decide) q_16 (fun _ h9 => h9) dX4_count_109 ?_
    refine z_iconst (v := (2 : Int32)) (pc := 112) C dX4_count_112 (by decide) ?_
    obtain ⟨_, g28, hM⟩ := Option.bind_eq_some_iff.mp hM
    obtain ⟨r29, g29, hM⟩ := Option.bind_eq_some_iff.mp hM
    refine z_goN (kc := 0) (ks := 0) ([.int r29]) (z_callV (pc := 113) (As := [.int (2 : Int32)]) (rest := []) (n := 1) (ci := 2) C (c_X1_cellsWithLayers l hl G lo t0 h nx r27 (2 : Int32) r29 g29) g28 rfl q_442 q_249 q_250 q_15 q_251 ⟨rfl, by decide +kernel, by decide +kernel, by decide +kernel⟩ ⟨Nat.le_of_ble_eq_true rfl, Nat.le_of_ble_eq_true rfl⟩ rfl (Nat.le_of_ble_eq_true rfl) dX4_count_113 ⟨(Nat.zero_le _), (Nat.zero_le _)⟩) rfl (Nat.le_of_ble_eq_true rfl) (Nat.le_of_ble_eq_true rfl) ?_
    cases hM
    exact z_iret (pc := 116) C rfl (Nat.zero_le _) (Nat.zero_le _) dX4_count_116
  refine z_sw hM (fun hc30 hM => ?_) (fun hc30 hM => ?_)
  · refine z_tableIn (pc := 7) (tgt := 117) C dX4_count_7 (by rw [hc30]; decide) (by rw [hc30]; decide) (by rw [hc30]; rfl) (by decide) ?_
    refine z_aload_n (k := 0) (pc := 117) C dX4_count_117 rfl ?_
    obtain ⟨r31, g31, hM⟩ := Option.bind_eq_some_iff.mp hM
    refine z_getI (pc := 118) (k := 4) C g31 rfl inlX4 (by decide) q_27 (fun _ h9 => h9) dX4_count_118 ?_
    cases hM
    exact z_iret (pc := 121) C rfl (Nat.zero_le _) (Nat.zero_le _) dX4_count_121
  refine z_sw hM (fun hc32 hM => ?_) (fun hc32 hM => ?_)
  · refine z_tableIn (pc := 7) (tgt := 122) C dX4_count_7 (by rw [hc32]; decide) (by rw [hc32]; decide) (by rw [hc32]; rfl) (by decide) ?_
    refine z_aload_n (k := 0) (pc := 122) C dX4_count_122 rfl ?_
    obtain ⟨r33, g33, hM⟩ := Option.bind_eq_some_iff.mp hM
    refine z_getI (pc := 123) (k := 5) C g33 rfl inlX4 (by decide) q_28 (fun _ h9 => h9) dX4_count_123 ?_
    cases hM
    exact z_iret (pc := 126) C rfl (Nat.zero_le _) (Nat.zero_le _) dX4_count_126
  refine z_sw hM (fun hc34 hM => ?_) (fun hc34 hM => ?_)
  · refine z_tableIn (pc := 7) (tgt := 127) C dX4_count_7 (by rw [hc34]; decide) (by rw [hc34]; decide) (by rw [hc34]; rfl) (by decide) ?_
    refine z_aload_n (k := 0) (pc := 127) C dX4_count_127 rfl ?_
    obtain ⟨r35, g35, hM⟩ := Option.bind_eq_some_iff.mp hM
    refine z_getI (pc := 128) (k := 6) C g35 rfl inlX4 (by decide) q_29 (fun _ h9 => h9) dX4_count_128 ?_
    cases hM
    exact z_iret (pc := 131) C rfl (Nat.zero_le _) (Nat.zero_le _) dX4_count_131
  refine z_tableD (pc := 7) (tgt := 132) C dX4_count_7 (fun k h1 h2 hk => ?_) (by decide) ?_
  · rcases (show k = 0 ∨ k = 1 ∨ k = 2 ∨ k = 3 ∨ k = 4 ∨ k = 5 ∨ k = 6 ∨ k = 7 ∨ k = 8 ∨ k = 9 by omega) with rfl | rfl | rfl | rfl | rfl | rfl | rfl | rfl | rfl | rfl
    · exact absurd (Int32.toInt_inj.mp (hk.trans (by decide))) hc2
    · exact absurd (Int32.toInt_inj.mp (hk.trans (by decide))) hc6
    · exact absurd (Int32.toInt_inj.mp (hk.trans (by decide))) hc10
    · exact absurd (Int32.toInt_inj.mp (hk.trans (by decide))) hc14
    · exact absurd (Int32.toInt_inj.mp (hk.trans (by decide))) hc18
    · exact absurd (Int32.toInt_inj.mp (hk.trans (by decide))) hc22
    · exact absurd (Int32.toInt_inj.mp (hk.trans (by decide))) hc26
    · exact absurd (Int32.toInt_inj.mp (hk.trans (by decide))) hc30
    · exact absurd (Int32.toInt_inj.mp (hk.trans (by decide))) hc32
    · exact absurd (Int32.toInt_inj.mp (hk.trans (by decide))) hc34
  refine z_aload_n (k := 0) (pc := 132) C dX4_count_132 rfl ?_
  obtain ⟨_, g36, hM⟩ := Option.bind_eq_some_iff.mp hM
  obtain ⟨r37, g37, hM⟩ := Option.bind_eq_some_iff.mp hM
  refine z_goN (kc := 0) (ks := 0) ([.int r37]) (z_callV (pc := 133) (As := []) (rest := []) (n := 0) (ci := 5) C (c_X4_stallsNotCovered l hl G lo t0 h nx a0 r37 g37) g36 rfl q_443 q_444 q_445 q_2 q_446 ⟨rfl, by decide +kernel, by decide +kernel, by decide +kernel⟩ ⟨Nat.le_of_ble_eq_true rfl, Nat.le_of_ble_eq_true rfl⟩ rfl (Nat.le_of_ble_eq_true rfl) dX4_count_133 ⟨(Nat.zero_le _), (Nat.zero_le _)⟩) rfl (Nat.le_of_ble_eq_true rfl) (Nat.le_of_ble_eq_true rfl) ?_
  cases hM
  exact z_iret (pc := 136) C rfl (Nat.zero_le _) (Nat.zero_le _) dX4_count_136
set_option maxHeartbeats 4000000 in
set_option maxRecDepth 100000 in
theorem c_X4_advise (l : Launch) (hl : l.stackTraces = false) (G : zG) (lo t0 : Nat) (h : zH) (nx : Nat) (a0 : Nat) (o : Int32) (hM : M_X4_advise h a0 = some o) : z_Met l yX4_advise cX4_advise 6 (some .int) 7 111 G lo t0 [.ref a0] h nx (.inr (some (.int o), h, nx)) 0 0 := by
  refine z_of [(0, .ref a0)] (by decide) (Nat.le_of_ble_eq_true rfl) rfl (fun p e s m below meth c C hin => ?_)
  unfold M_X4_advise at hM
  refine z_iconst (v := (-1 : Int32)) (pc := 0) C dX4_advise_0 (by decide) ?_
  refine z_istore_n (lv' := [(1, .int (-1 : Int32)), (0, .ref a0)]) (pc := 1) C dX4_advise_1 (by decide) rfl ?_
  refine z_sipush (v := (577 : Int32)) (pc := 2) C dX4_advise_2 (by decide) ?_
  refine z_istore_n (lv' := [(2, .int (577 : Int32)), (1, .int (-1 : Int32)), (0, .ref a0)]) (pc := 5) C dX4_advise_5 (by decide) rfl ?_
  refine z_iconst (v := (0 : Int32)) (pc := 6) C dX4_advise_6 (by decide) ?_
  refine z_istore_n (lv' := [(3, .int (0 : Int32)), (2, .int (577 : Int32)), (1, .int (-1 : Int32)), (0, .ref a0)]) (pc := 7) C dX4_advise_7 (by decide) rfl ?_
  refine z_sub [3, 2, 1, 0] rfl (zl3 (fun (x1_1 : Int32) (x2_1 : Int32) (x3_1 : Int32) => [(0, .ref a0), (1, .int x1_1), (2, .int x2_1), (3, .int x3_1)]) (fun (x1_1 : Int32) (x2_1 : Int32) (x3_1 : Int32) => h) (fun (x1_1 : Int32) (x2_1 : Int32) (x3_1 : Int32) => nx) hM (fun rec1 irec1 x1_1 x2_1 x3_1 hM => ?_))
  refine z_iload_n (k := 3) (pc := 8) C dX4_advise_8 rfl ?_
  refine z_aload_n (k := 0) (pc := 9) C dX4_advise_9 rfl ?_
  obtain ⟨r2, g2, hM⟩ := Option.bind_eq_some_iff.mp hM
  refine z_getR (pc := 10) (k := 0) C g2 rfl inlX4 (by decide) q_16 (fun _ h9 => h9) dX4_advise_10 ?_
  obtain ⟨_, g3, hM⟩ := Option.bind_eq_some_iff.mp hM
  obtain ⟨r4, g4, hM⟩ := Option.bind_eq_some_iff.mp hM
  refine z_goN (kc := 0) (ks := 0) ([.int r4, .int x3_1]) (z_callV (pc := 13) (As := []) (rest := [.int x3_1]) (n := 0) (ci := 2) C (c_X1_size l hl G lo t0 h nx r2 r4 g4) g3 rfl q_116 q_117 q_118 q_15 q_119 ⟨rfl, by decide +kernel, by decide +kernel, by decide +kernel⟩ ⟨Nat.le_of_ble_eq_true rfl, Nat.le_of_ble_eq_true rfl⟩ rfl (Nat.le_of_ble_eq_true rfl) dX4_advise_13 ⟨(Nat.zero_le _), (Nat.zero_le _)⟩) rfl (Nat.le_of_ble_eq_true rfl) (Nat.le_of_ble_eq_true rfl) ?_
  refine z_icmp_ge (pc := 16) (tgt := 68) C dX4_advise_16 (by decide) hM (fun hc15 hM => ?_) (fun hc15 hM => ?_)
  · refine z_iload_n (k := 1) (pc := 68) C dX4_advise_68 rfl ?_
    cases hM
    exact z_iret (pc := 69) C rfl (Nat.zero_le _) (Nat.zero_le _) dX4_advise_69
  · refine z_aload_n (k := 0) (pc := 19) C dX4_advise_19 rfl ?_
    obtain ⟨r5, g5, hM⟩ := Option.bind_eq_some_iff.mp hM
    refine z_getR (pc := 20) (k := 0) C g5 rfl inlX4 (by decide) q_16 (fun _ h9 => h9) dX4_advise_20 ?_
    refine z_iload_n (k := 3) (pc := 23) C dX4_advise_23 rfl ?_
    obtain ⟨_, g6, hM⟩ := Option.bind_eq_some_iff.mp hM
    obtain ⟨r7, g7, hM⟩ := z_tn_c hM
    refine z_goN (kc := 0) (ks := 0) ([.ref r7]) (z_callV (pc := 24) (As := [.int x3_1]) (rest := []) (n := 1) (ci := 2) C (c_X1_numbered l hl G lo t0 h nx r5 x3_1 (.inr r7) g7) g6 rfl q_230 q_231 q_232 q_15 q_233 ⟨rfl, by decide +kernel, by decide +kernel, by decide +kernel⟩ ⟨Nat.le_of_ble_eq_true rfl, Nat.le_of_ble_eq_true rfl⟩ rfl (Nat.le_of_ble_eq_true rfl) dX4_advise_24 ⟨(Nat.zero_le _), (Nat.zero_le _)⟩) rfl (Nat.le_of_ble_eq_true rfl) (Nat.le_of_ble_eq_true rfl) ?_
    refine z_astore (lv' := [(4, .ref r7), (0, .ref a0), (1, .int x1_1), (2, .int x2_1), (3, .int x3_1)]) (pc := 27) C dX4_advise_27 (by decide) rfl ?_
    refine z_aload (k := 0) (pc := 29) C dX4_advise_29 rfl ?_
    obtain ⟨r8, g8, hM⟩ := Option.bind_eq_some_iff.mp hM
    refine z_getI (pc := 31) (k := 6) C g8 rfl inlX0 (by decide) q_229 (fun _ h9 => h9) dX4_advise_31 ?_
    refine zj2 0 0 62 (fun (x1_9 : Int32) (x2_9 : Int32) => [(0, .ref a0), (1, .int x1_9), (2, .int x2_9), (3, .int x3_1)]) (fun (x1_9 : Int32) (x2_9 : Int32) => []) (fun (x1_9 : Int32) (x2_9 : Int32) => h) (fun (x1_9 : Int32) (x2_9 : Int32) => nx) hM (fun x1_9 x2_9 hM => ?_) (fun J9 iJ9 hM => ?_)
    · refine z_iinc (k := 3) (v := (x3_1 + (1 : Int32))) (lv' := [(3, .int (x3_1 + (1 : Int32))), (0, .ref a0), (1, .int x1_9), (2, .int x2_9)]) (pc := 62) C dX4_advise_62 rfl (by first | rfl | decide) (by decide) rfl ?_
      refine z_goto (pc := 65) (tgt := 8) C dX4_advise_65 (by decide) ?_
      exact z_sub [1, 2, 3, 0] rfl (irec1 x1_9 x2_9 (x3_1 + (1 : Int32)) hM)
    refine z_if_ne (pc := 34) (tgt := 40) C dX4_advise_34 (by decide) hM (fun hc14 hM => ?_) (fun hc14 hM => ?_)
    · refine z_goto (pc := 37) (tgt := 62) C dX4_advise_37 (by decide) ?_
      exact z_sub [1, 2, 3, 4] rfl (iJ9 x1_1 x2_1 hM)
    · refine z_aload_n (k := 1) (pc := 40) C dX4_advise_40 rfl ?_
      obtain ⟨r10, g10, hM⟩ := Option.bind_eq_some_iff.mp hM
      refine z_getR (pc := 41) (k := 0) C g10 rfl inlX4 (by decide) q_16 (fun _ h9 => h9) dX4_advise_41 ?_
      refine z_aload (k := 0) (pc := 44) C dX4_advise_44 rfl ?_
      obtain ⟨_, g11, hM⟩ := Option.bind_eq_some_iff.mp hM
      obtain ⟨r12, g12, hM⟩ := Option.bind_eq_some_iff.mp hM
      refine z_goN (kc := 0) (ks := 0) ([.int r12]) (z_callV (pc := 46) (As := [.ref r7]) (rest := []) (n := 1) (ci := 2) C (c_X1_coveredOnlyBy l hl G lo t0 h nx r10 r7 r12 g12) g11 rfl q_461 q_462 q_463 q_15 q_464 ⟨rfl, by decide +kernel, by decide +kernel, by decide +kernel⟩ ⟨Nat.le_of_ble_eq_true rfl, Nat.le_of_ble_eq_true rfl⟩ rfl (Nat.le_of_ble_eq_true rfl) dX4_advise_46 ⟨(Nat.zero_le _), (Nat.zero_le _)⟩) rfl (Nat.le_of_ble_eq_true rfl) (Nat.le_of_ble_eq_true rfl) ?_
      refine z_istore (lv' := [(5, .int r12), (4, .ref r7), (0, .ref a0), (1, .int x1_1), (2, .int x2_1), (3, .int x3_1)]) (pc := 49) C dX4_advise_49 (by decide) rfl ?_
      refine z_iload (k := 0) (pc := 51) C dX4_advise_51 rfl ?_
      refine z_iload_n (k := 4) (pc := 53) C dX4_advise_53 rfl ?_
      refine z_icmp_ge (pc := 54) (tgt := 62) C dX4_advise_54 (by decide) hM (fun hc13 hM => ?_) (fun hc13 hM => ?_)
      · exact z_sub [2, 3, 4, 5] rfl (iJ9 x1_1 x2_1 hM)
      · refine z_iload (k := 0) (pc := 57) C dX4_advise_57 rfl ?_
        refine z_istore_n (lv' := [(2, .int r12), (5, .int r12), (4, .ref r7), (0, .ref a0), (1, .int x1_1), (3, .int x3_1)]) (pc := 59) C dX4_advise_59 (by decide) rfl ?_
        refine z_iload_n (k := 5) (pc := 60) C dX4_advise_60 rfl ?_
        refine z_istore_n (lv' := [(1, .int x3_1), (2, .int r12), (5, .int r12), (4, .ref r7), (0, .ref a0), (3, .int x3_1)]) (pc := 61) C dX4_advise_61 (by decide) rfl ?_
        exact z_sub [4, 0, 1, 5] rfl (iJ9 x3_1 r12 hM)
set_option maxHeartbeats 4000000 in
set_option maxRecDepth 100000 in
theorem c_X4_digestOfColumn (l : Launch) (hl : l.stackTraces = false) (G : zG) (lo t0 : Nat) (h : zH) (nx : Nat) (a0 : Nat) (X1 : Int64) (x3 : Int32) (o : Int64) (hM : M_X4_digestOfColumn h a0 X1 x3 = some o) : z_Met l yX4_digestOfColumn cX4_digestOfColumn 8 (some .long) 8 134 G lo t0 [.ref a0, .long X1, .int x3] h nx (.inr (some (.long o), h, nx)) 0 0 := by
  refine z_of [(0, .ref a0), (1, .long X1), (3, .int x3)] (by decide) (Nat.le_of_ble_eq_true rfl) rfl (fun p e s m below meth c C hin => ?_)
  unfold M_X4_digestOfColumn at hM
  refine z_lload_n (k := 1) (pc := 0) C dX4_digestOfColumn_0 rfl ?_
  refine z_lstore (lv' := [(4, .long X1), (0, .ref a0), (1, .long X1), (3, .int x3)]) (pc := 1) C dX4_digestOfColumn_1 (by decide) rfl ?_
  refine z_iconst (v := (0 : Int32)) (pc := 3) C dX4_digestOfColumn_3 (by decide) ?_
  refine z_istore (lv' := [(6, .int (0 : Int32)), (4, .long X1), (0, .ref a0), (1, .long X1), (3, .int x3)]) (pc := 4) C dX4_digestOfColumn_4 (by decide) rfl ?_
  refine z_sub [2, 4, 1, 0] rfl (zl2 (fun (X4_1 : Int64) (x6_1 : Int32) => [(0, .ref a0), (3, .int x3), (4, .long X4_1), (6, .int x6_1)]) (fun (X4_1 : Int64) (x6_1 : Int32) => h) (fun (X4_1 : Int64) (x6_1 : Int32) => nx) hM (fun rec1 irec1 X4_1 x6_1 hM => ?_))
  refine z_iload (k := 3) (pc := 6) C dX4_digestOfColumn_6 rfl ?_
  refine z_iconst (v := (3 : Int32)) (pc := 8) C dX4_digestOfColumn_8 (by decide) ?_
  refine z_icmp_gt (pc := 9) (tgt := 35) C dX4_digestOfColumn_9 (by decide) hM (fun hc10 hM => ?_) (fun hc10 hM => ?_)
  · refine z_iconst (v := (0 : Int32)) (pc := 35) C dX4_digestOfColumn_35 (by decide) ?_
    refine z_istore (lv' := [(6, .int (0 : Int32)), (0, .ref a0), (3, .int x3), (4, .long X4_1)]) (pc := 36) C dX4_digestOfColumn_36 (by decide) rfl ?_
    refine z_sub [1, 2, 3, 0] rfl (zl2 (fun (X4_2 : Int64) (x6_2 : Int32) => [(0, .ref a0), (3, .int x3), (4, .long X4_2), (6, .int x6_2)]) (fun (X4_2 : Int64) (x6_2 : Int32) => h) (fun (X4_2 : Int64) (x6_2 : Int32) => nx) hM (fun rec2 irec2 X4_2 x6_2 hM => ?_))
    refine z_iload (k := 3) (pc := 38) C dX4_digestOfColumn_38 rfl ?_
    refine z_bipush (v := (24 : Int32)) (pc := 40) C dX4_digestOfColumn_40 (by decide) ?_
    refine z_icmp_ge (pc := 42) (tgt := 85) C dX4_digestOfColumn_42 (by decide) hM (fun hc7 hM => ?_) (fun hc7 hM => ?_)
    · refine z_lload (k := 2) (pc := 85) C dX4_digestOfColumn_85 rfl ?_
      cases hM
      exact z_lret (pc := 87) C rfl (Nat.zero_le _) (Nat.zero_le _) dX4_digestOfColumn_87
    · refine z_iconst (v := (0 : Int32)) (pc := 45) C dX4_digestOfColumn_45 (by decide) ?_
      refine z_istore (lv' := [(7, .int (0 : Int32)), (0, .ref a0), (3, .int x3), (4, .long X4_2), (6, .int x6_2)]) (pc := 46) C dX4_digestOfColumn_46 (by decide) rfl ?_
      refine z_sub [1, 2, 3, 4, 0] rfl (zl2 (fun (X4_3 : Int64) (x7_3 : Int32) => [(0, .ref a0), (3, .int x3), (4, .long X4_3), (6, .int x6_2), (7, .int x7_3)]) (fun (X4_3 : Int64) (x7_3 : Int32) => h) (fun (X4_3 : Int64) (x7_3 : Int32) => nx) hM (fun rec3 irec3 X4_3 x7_3 hM => ?_))
      refine z_iload (k := 4) (pc := 48) C dX4_digestOfColumn_48 rfl ?_
      refine z_iconst (v := (2 : Int32)) (pc := 50) C dX4_digestOfColumn_50 (by decide) ?_
      refine z_icmp_gt (pc := 51) (tgt := 79) C dX4_digestOfColumn_51 (by decide) hM (fun hc6 hM => ?_) (fun hc6 hM => ?_)
      · refine z_iinc (k := 3) (v := (x6_2 + (1 : Int32))) (lv' := [(6, .int (x6_2 + (1 : Int32))), (0, .ref a0), (3, .int x3), (4, .long X4_3), (7, .int x7_3)]) (pc := 79) C dX4_digestOfColumn_79 rfl (by first | rfl | decide) (by decide) rfl ?_
        refine z_goto (pc := 82) (tgt := 38) C dX4_digestOfColumn_82 (by decide) ?_
        exact z_sub [1, 2, 3, 0] rfl (irec2 X4_3 (x6_2 + (1 : Int32)) hM)
      · refine z_lload (k := 2) (pc := 54) C dX4_digestOfColumn_54 rfl ?_
        refine z_ldc2 (V := (31 : Int64)) (pc := 56) C dX4_digestOfColumn_56 q_453 ?_
        refine z_lmul (pc := 59) C dX4_digestOfColumn_59 ?_
        refine z_aload_n (k := 0) (pc := 60) C dX4_digestOfColumn_60 rfl ?_
        refine z_iload_n (k := 1) (pc := 61) C dX4_digestOfColumn_61 rfl ?_
        refine z_iload (k := 3) (pc := 62) C dX4_digestOfColumn_62 rfl ?_
        refine z_iload (k := 4) (pc := 64) C dX4_digestOfColumn_64 rfl ?_
        obtain ⟨_, g4, hM⟩ := Option.bind_eq_some_iff.mp hM
        obtain ⟨r5, g5, hM⟩ := z_tn_c hM
        refine z_goN (kc := 0) (ks := 0) ([.int r5, .long (X4_3 * (31 : Int64))]) (z_callV (pc := 66) (As := [.int x3, .int x6_2, .int x7_3]) (rest := [.long (X4_3 * (31 : Int64))]) (n := 3) (ci := 5) C (c_X4_cell l hl G lo t0 h nx a0 x3 x6_2 x7_3 (.inr r5) g5) g4 rfl q_503 q_504 q_505 q_2 q_506 ⟨rfl, by decide +kernel, by decide +kernel, by decide +kernel⟩ ⟨Nat.le_of_ble_eq_true rfl, Nat.le_of_ble_eq_true rfl⟩ rfl (Nat.le_of_ble_eq_true rfl) dX4_digestOfColumn_66 ⟨(Nat.zero_le _), (Nat.zero_le _)⟩) rfl (Nat.le_of_ble_eq_true rfl) (Nat.le_of_ble_eq_true rfl) ?_
        refine z_i2l (pc := 69) C dX4_digestOfColumn_69 ?_
        refine z_ladd (pc := 70) C dX4_digestOfColumn_70 ?_
        refine z_lstore (lv' := [(4, .long ((X4_3 * (31 : Int64)) + r5.toInt64)), (0, .ref a0), (3, .int x3), (6, .int x6_2), (7, .int x7_3)]) (pc := 71) C dX4_digestOfColumn_71 (by decide) rfl ?_
        refine z_iinc (k := 4) (v := (x7_3 + (1 : Int32))) (lv' := [(7, .int (x7_3 + (1 : Int32))), (4, .long ((X4_3 * (31 : Int64)) + r5.toInt64)), (0, .ref a0), (3, .int x3), (6, .int x6_2)]) (pc := 73) C dX4_digestOfColumn_73 rfl (by first | rfl | decide) (by decide) rfl ?_
        refine z_goto (pc := 76) (tgt := 48) C dX4_digestOfColumn_76 (by decide) ?_
        exact z_sub [2, 3, 1, 4, 0] rfl (irec3 ((X4_3 * (31 : Int64)) + r5.toInt64) (x7_3 + (1 : Int32)) hM)
  · refine z_lload (k := 2) (pc := 12) C dX4_digestOfColumn_12 rfl ?_
    refine z_ldc2 (V := (31 : Int64)) (pc := 14) C dX4_digestOfColumn_14 q_453 ?_
    refine z_lmul (pc := 17) C dX4_digestOfColumn_17 ?_
    refine z_aload_n (k := 0) (pc := 18) C dX4_digestOfColumn_18 rfl ?_
    refine z_iload_n (k := 1) (pc := 19) C dX4_digestOfColumn_19 rfl ?_
    refine z_iload (k := 3) (pc := 20) C dX4_digestOfColumn_20 rfl ?_
    obtain ⟨_, g8, hM⟩ := Option.bind_eq_some_iff.mp hM
    obtain ⟨r9, g9, hM⟩ := z_tn_c hM
    refine z_goN (kc := 0) (ks := 0) ([.int r9, .long (X4_1 * (31 : Int64))]) (z_callV (pc := 22) (As := [.int x3, .int x6_1]) (rest := [.long (X4_1 * (31 : Int64))]) (n := 2) (ci := 5) C (c_X4_cord l hl G lo t0 h nx a0 x3 x6_1 (.inr r9) g9) g8 rfl q_482 q_483 q_484 q_2 q_485 ⟨rfl, by decide +kernel, by decide +kernel, by decide +kernel⟩ ⟨Nat.le_of_ble_eq_true rfl, Nat.le_of_ble_eq_true rfl⟩ rfl (Nat.le_of_ble_eq_true rfl) dX4_digestOfColumn_22 ⟨(Nat.zero_le _), (Nat.zero_le _)⟩) rfl (Nat.le_of_ble_eq_true rfl) (Nat.le_of_ble_eq_true rfl) ?_
    refine z_i2l (pc := 25) C dX4_digestOfColumn_25 ?_
    refine z_ladd (pc := 26) C dX4_digestOfColumn_26 ?_
    refine z_lstore (lv' := [(4, .long ((X4_1 * (31 : Int64)) + r9.toInt64)), (0, .ref a0), (3, .int x3), (6, .int x6_1)]) (pc := 27) C dX4_digestOfColumn_27 (by decide) rfl ?_
    refine z_iinc (k := 3) (v := (x6_1 + (1 : Int32))) (lv' := [(6, .int (x6_1 + (1 : Int32))), (4, .long ((X4_1 * (31 : Int64)) + r9.toInt64)), (0, .ref a0), (3, .int x3)]) (pc := 29) C dX4_digestOfColumn_29 rfl (by first | rfl | decide) (by decide) rfl ?_
    refine z_goto (pc := 32) (tgt := 6) C dX4_digestOfColumn_32 (by decide) ?_
    exact z_sub [2, 3, 1, 0] rfl (irec1 ((X4_1 * (31 : Int64)) + r9.toInt64) (x6_1 + (1 : Int32)) hM)
set_option maxHeartbeats 4000000 in
set_option maxRecDepth 100000 in
theorem c_X4_digest (l : Launch) (hl : l.stackTraces = false) (G : zG) (lo t0 : Nat) (h : zH) (nx : Nat) (a0 : Nat) (o : Int64 × zH) (hM : M_X4_digest h a0 = some o) : z_Met l yX4_digest cX4_digest 5 (some .long) 9 161 G lo t0 [.ref a0] h nx (.inr (some (.long o.1), o.2, nx)) 0 0 := by
  refine z_of [(0, .ref a0)] (by decide) (Nat.le_of_ble_eq_true rfl) rfl (fun p e s m below meth c C hin => ?_)
  unfold M_X4_digest at hM
  refine z_ldc2 (V := (1741 : Int64)) (pc := 0) C dX4_digest_0 q_452 ?_
  refine z_lstore_n (lv' := [(1, .long (1741 : Int64)), (0, .ref a0)]) (pc := 3) C dX4_digest_3 (by decide) rfl ?_
  refine z_iconst (v := (0 : Int32)) (pc := 4) C dX4_digest_4 (by decide) ?_
  refine z_istore_n (lv' := [(3, .int (0 : Int32)), (1, .long (1741 : Int64)), (0, .ref a0)]) (pc := 5) C dX4_digest_5 (by decide) rfl ?_
  refine z_sub [2, 1, 0] rfl (zl3 (fun (X1_1 : Int64) (x3_1 : Int32) (h_1 : zH) => [(0, .ref a0), (1, .long X1_1), (3, .int x3_1)]) (fun (X1_1 : Int64) (x3_1 : Int32) (h_1 : zH) => h_1) (fun (X1_1 : Int64) (x3_1 : Int32) (h_1 : zH) => nx) hM (fun rec1 irec1 X1_1 x3_1 h_1 hM => ?_))
  refine z_iload_n (k := 2) (pc := 6) C dX4_digest_6 rfl ?_
  refine z_bipush (v := (10 : Int32)) (pc := 7) C dX4_digest_7 (by decide) ?_
  refine z_icmp_gt (pc := 9) (tgt := 31) C dX4_digest_9 (by decide) hM (fun hc26 hM => ?_) (fun hc26 hM => ?_)
  · refine z_iconst (v := (0 : Int32)) (pc := 31) C dX4_digest_31 (by decide) ?_
    refine z_istore_n (lv' := [(3, .int (0 : Int32)), (0, .ref a0), (1, .long X1_1)]) (pc := 32) C dX4_digest_32 (by decide) rfl ?_
    refine z_sub [1, 2, 0] rfl (zl2 (fun (X1_2 : Int64) (x3_2 : Int32) => [(0, .ref a0), (1, .long X1_2), (3, .int x3_2)]) (fun (X1_2 : Int64) (x3_2 : Int32) => h_1) (fun (X1_2 : Int64) (x3_2 : Int32) => nx) hM (fun rec2 irec2 X1_2 x3_2 hM => ?_))
    refine z_iload_n (k := 2) (pc := 33) C dX4_digest_33 rfl ?_
    refine z_aload_n (k := 0) (pc := 34) C dX4_digest_34 rfl ?_
    obtain ⟨r3, g3, hM⟩ := Option.bind_eq_some_iff.mp hM
    refine z_getR (pc := 35) (k := 0) C g3 rfl inlX4 (by decide) q_16 (fun _ h9 => h9) dX4_digest_35 ?_
    obtain ⟨_, g4, hM⟩ := Option.bind_eq_some_iff.mp hM
    obtain ⟨r5, g5, hM⟩ := Option.bind_eq_some_iff.mp hM
    refine z_goN (kc := 0) (ks := 0) ([.int r5, .int x3_2]) (z_callV (pc := 38) (As := []) (rest := [.int x3_2]) (n := 0) (ci := 2) C (c_X1_size l hl G lo t0 h_1 nx r3 r5 g5) g4 rfl q_116 q_117 q_118 q_15 q_119 ⟨rfl, by decide +kernel, by decide +kernel, by decide +kernel⟩ ⟨Nat.le_of_ble_eq_true rfl, Nat.le_of_ble_eq_true rfl⟩ rfl (Nat.le_of_ble_eq_true rfl) dX4_digest_38 ⟨(Nat.zero_le _), (Nat.zero_le _)⟩) rfl (Nat.le_of_ble_eq_true rfl) (Nat.le_of_ble_eq_true rfl) ?_
    refine z_icmp_ge (pc := 41) (tgt := 81) C dX4_digest_41 (by decide) hM (fun hc23 hM => ?_) (fun hc23 hM => ?_)
    · refine z_iconst (v := (0 : Int32)) (pc := 81) C dX4_digest_81 (by decide) ?_
      refine z_istore_n (lv' := [(3, .int (0 : Int32)), (0, .ref a0), (1, .long X1_2)]) (pc := 82) C dX4_digest_82 (by decide) rfl ?_
      refine z_sub [1, 2, 0] rfl (zl2 (fun (X1_6 : Int64) (x3_6 : Int32) => [(0, .ref a0), (1, .long X1_6), (3, .int x3_6)]) (fun (X1_6 : Int64) (x3_6 : Int32) => h_1) (fun (X1_6 : Int64) (x3_6 : Int32) => nx) hM (fun rec6 irec6 X1_6 x3_6 hM => ?_))
      refine z_iload_n (k := 2) (pc := 83) C dX4_digest_83 rfl ?_
      refine z_aload_n (k := 0) (pc := 84) C dX4_digest_84 rfl ?_
      obtain ⟨r7, g7, hM⟩ := Option.bind_eq_some_iff.mp hM
      refine z_getR (pc := 85) (k := 2) C g7 rfl inlX4 (by decide) q_24 (fun _ h9 => h9) dX4_digest_85 ?_
      obtain ⟨_, g8, hM⟩ := Option.bind_eq_some_iff.mp hM
      obtain ⟨r9, g9, hM⟩ := Option.bind_eq_some_iff.mp hM
      refine z_goN (kc := 0) (ks := 0) ([.int r9, .int x3_6]) (z_callV (pc := 88) (As := []) (rest := [.int x3_6]) (n := 0) (ci := 0) C (c_Jx4a65c_size_8abf5 l hl G lo t0 h_1 nx r7 r9 g9) g8 rfl q_299 q_121 q_122 q_23 q_123 ⟨rfl, by decide +kernel, by decide +kernel, by decide +kernel⟩ ⟨Nat.le_of_ble_eq_true rfl, Nat.le_of_ble_eq_true rfl⟩ rfl (Nat.le_of_ble_eq_true rfl) dX4_digest_88 ⟨(Nat.zero_le _), (Nat.zero_le _)⟩) rfl (Nat.le_of_ble_eq_true rfl) (Nat.le_of_ble_eq_true rfl) ?_
      refine z_icmp_ge (pc := 91) (tgt := 130) C dX4_digest_91 (by decide) hM (fun hc18 hM => ?_) (fun hc18 hM => ?_)
      · refine z_iconst (v := (0 : Int32)) (pc := 130) C dX4_digest_130 (by decide) ?_
        refine z_istore_n (lv' := [(3, .int (0 : Int32)), (0, .ref a0), (1, .long X1_6)]) (pc := 131) C dX4_digest_131 (by decide) rfl ?_
        refine z_sub [1, 2, 0] rfl (zl2 (fun (X1_10 : Int64) (x3_10 : Int32) => [(0, .ref a0), (1, .long X1_10), (3, .int x3_10)]) (fun (X1_10 : Int64) (x3_10 : Int32) => h_1) (fun (X1_10 : Int64) (x3_10 : Int32) => nx) hM (fun rec10 irec10 X1_10 x3_10 hM => ?_))
        refine z_iload_n (k := 2) (pc := 132) C dX4_digest_132 rfl ?_
        refine z_bipush (v := (24 : Int32)) (pc := 133) C dX4_digest_133 (by decide) ?_
        refine z_icmp_ge (pc := 135) (tgt := 151) C dX4_digest_135 (by decide) hM (fun hc13 hM => ?_) (fun hc13 hM => ?_)
        · refine z_lload_n (k := 1) (pc := 151) C dX4_digest_151 rfl ?_
          cases hM
          exact z_lret (pc := 152) C rfl (Nat.zero_le _) (Nat.zero_le _) dX4_digest_152
        · refine z_aload_n (k := 0) (pc := 138) C dX4_digest_138 rfl ?_
          refine z_lload_n (k := 1) (pc := 139) C dX4_digest_139 rfl ?_
          refine z_iload_n (k := 2) (pc := 140) C dX4_digest_140 rfl ?_
          obtain ⟨_, g11, hM⟩ := Option.bind_eq_some_iff.mp hM
          obtain ⟨r12, g12, hM⟩ := Option.bind_eq_some_iff.mp hM
          refine z_goN (kc := 0) (ks := 0) ([.long r12]) (z_callV (pc := 141) (As := [.long X1_10, .int x3_10]) (rest := []) (n := 2) (ci := 5) C (c_X4_digestOfColumn l hl G lo t0 h_1 nx a0 X1_10 x3_10 r12 g12) g11 rfl q_478 q_479 q_480 q_2 q_481 ⟨rfl, by decide +kernel, by decide +kernel, by decide +kernel⟩ ⟨Nat.le_of_ble_eq_true rfl, Nat.le_of_ble_eq_true rfl⟩ rfl (Nat.le_of_ble_eq_true rfl) dX4_digest_141 ⟨(Nat.zero_le _), (Nat.zero_le _)⟩) rfl (Nat.le_of_ble_eq_true rfl) (Nat.le_of_ble_eq_true rfl) ?_
          refine z_lstore_n (lv' := [(1, .long r12), (0, .ref a0), (3, .int x3_10)]) (pc := 144) C dX4_digest_144 (by decide) rfl ?_
          refine z_iinc (k := 2) (v := (x3_10 + (1 : Int32))) (lv' := [(3, .int (x3_10 + (1 : Int32))), (1, .long r12), (0, .ref a0)]) (pc := 145) C dX4_digest_145 rfl (by first | rfl | decide) (by decide) rfl ?_
          refine z_goto (pc := 148) (tgt := 132) C dX4_digest_148 (by decide) ?_
          exact z_sub [2, 1, 0] rfl (irec10 r12 (x3_10 + (1 : Int32)) hM)
      · refine z_iconst (v := (0 : Int32)) (pc := 94) C dX4_digest_94 (by decide) ?_
        refine z_istore (lv' := [(4, .int (0 : Int32)), (0, .ref a0), (1, .long X1_6), (3, .int x3_6)]) (pc := 95) C dX4_digest_95 (by decide) rfl ?_
        refine z_sub [1, 2, 3, 0] rfl (zl2 (fun (X1_14 : Int64) (x4_14 : Int32) => [(0, .ref a0), (1, .long X1_14), (3, .int x3_6), (4, .int x4_14)]) (fun (X1_14 : Int64) (x4_14 : Int32) => h_1) (fun (X1_14 : Int64) (x4_14 : Int32) => nx) hM (fun rec14 irec14 X1_14 x4_14 hM => ?_))
        refine z_iload (k := 3) (pc := 97) C dX4_digest_97 rfl ?_
        refine z_iconst (v := (3 : Int32)) (pc := 99) C dX4_digest_99 (by decide) ?_
        refine z_icmp_gt (pc := 100) (tgt := 124) C dX4_digest_100 (by decide) hM (fun hc17 hM => ?_) (fun hc17 hM => ?_)
        · refine z_iinc (k := 2) (v := (x3_6 + (1 : Int32))) (lv' := [(3, .int (x3_6 + (1 : Int32))), (0, .ref a0), (1, .long X1_14), (4, .int x4_14)]) (pc := 124) C dX4_digest_124 rfl (by first | rfl | decide) (by decide) rfl ?_
          refine z_goto (pc := 127) (tgt := 83) C dX4_digest_127 (by decide) ?_
          exact z_sub [1, 2, 0] rfl (irec6 X1_14 (x3_6 + (1 : Int32)) hM)
        · refine z_lload_n (k := 1) (pc := 103) C dX4_digest_103 rfl ?_
          refine z_ldc2 (V := (31 : Int64)) (pc := 104) C dX4_digest_104 q_453 ?_
          refine z_lmul (pc := 107) C dX4_digest_107 ?_
          refine z_aload_n (k := 0) (pc := 108) C dX4_digest_108 rfl ?_
          refine z_iload_n (k := 2) (pc := 109) C dX4_digest_109 rfl ?_
          refine z_iload (k := 3) (pc := 110) C dX4_digest_110 rfl ?_
          obtain ⟨_, g15, hM⟩ := Option.bind_eq_some_iff.mp hM
          obtain ⟨r16, g16, hM⟩ := z_tn_c hM
          refine z_goN (kc := 0) (ks := 0) ([.int r16, .long (X1_14 * (31 : Int64))]) (z_callV (pc := 112) (As := [.int x3_6, .int x4_14]) (rest := [.long (X1_14 * (31 : Int64))]) (n := 2) (ci := 5) C (c_X4_told l hl G lo t0 h_1 nx a0 x3_6 x4_14 (.inr r16) g16) g15 rfl q_465 q_466 q_467 q_2 q_468 ⟨rfl, by decide +kernel, by decide +kernel, by decide +kernel⟩ ⟨Nat.le_of_ble_eq_true rfl, Nat.le_of_ble_eq_true rfl⟩ rfl (Nat.le_of_ble_eq_true rfl) dX4_digest_112 ⟨(Nat.zero_le _), (Nat.zero_le _)⟩) rfl (Nat.le_of_ble_eq_true rfl) (Nat.le_of_ble_eq_true rfl) ?_
          refine z_i2l (pc := 115) C dX4_digest_115 ?_
          refine z_ladd (pc := 116) C dX4_digest_116 ?_
          refine z_lstore_n (lv' := [(1, .long ((X1_14 * (31 : Int64)) + r16.toInt64)), (0, .ref a0), (3, .int x3_6), (4, .int x4_14)]) (pc := 117) C dX4_digest_117 (by decide) rfl ?_
          refine z_iinc (k := 3) (v := (x4_14 + (1 : Int32))) (lv' := [(4, .int (x4_14 + (1 : Int32))), (1, .long ((X1_14 * (31 : Int64)) + r16.toInt64)), (0, .ref a0), (3, .int x3_6)]) (pc := 118) C dX4_digest_118 rfl (by first | rfl | decide) (by decide) rfl ?_
          refine z_goto (pc := 121) (tgt := 97) C dX4_digest_121 (by decide) ?_
          exact z_sub [2, 1, 3, 0] rfl (irec14 ((X1_14 * (31 : Int64)) + r16.toInt64) (x4_14 + (1 : Int32)) hM)
    · refine z_iconst (v := (0 : Int32)) (pc := 44) C dX4_digest_44 (by decide) ?_
      refine z_istore (lv' := [(4, .int (0 : Int32)), (0, .ref a0), (1, .long X1_2), (3, .int x3_2)]) (pc := 45) C dX4_digest_45 (by decide) rfl ?_
      refine z_sub [1, 2, 3, 0] rfl (zl2 (fun (X1_19 : Int64) (x4_19 : Int32) => [(0, .ref a0), (1, .long X1_19), (3, .int x3_2), (4, .int x4_19)]) (fun (X1_19 : Int64) (x4_19 : Int32) => h_1) (fun (X1_19 : Int64) (x4_19 : Int32) => nx) hM (fun rec19 irec19 X1_19 x4_19 hM => ?_))
      refine z_iload (k := 3) (pc := 47) C dX4_digest_47 rfl ?_
      refine z_bipush (v := (8 : Int32)) (pc := 49) C dX4_digest_49 (by decide) ?_
      refine z_icmp_gt (pc := 51) (tgt := 75) C dX4_digest_51 (by decide) hM (fun hc22 hM => ?_) (fun hc22 hM => ?_)
      · refine z_iinc (k := 2) (v := (x3_2 + (1 : Int32))) (lv' := [(3, .int (x3_2 + (1 : Int32))), (0, .ref a0), (1, .long X1_19), (4, .int x4_19)]) (pc := 75) C dX4_digest_75 rfl (by first | rfl | decide) (by decide) rfl ?_
        refine z_goto (pc := 78) (tgt := 33) C dX4_digest_78 (by decide) ?_
        exact z_sub [1, 2, 0] rfl (irec2 X1_19 (x3_2 + (1 : Int32)) hM)
      · refine z_lload_n (k := 1) (pc := 54) C dX4_digest_54 rfl ?_
        refine z_ldc2 (V := (31 : Int64)) (pc := 55) C dX4_digest_55 q_453 ?_
        refine z_lmul (pc := 58) C dX4_digest_58 ?_
        refine z_aload_n (k := 0) (pc := 59) C dX4_digest_59 rfl ?_
        refine z_iload_n (k := 2) (pc := 60) C dX4_digest_60 rfl ?_
        refine z_iload (k := 3) (pc := 61) C dX4_digest_61 rfl ?_
        obtain ⟨_, g20, hM⟩ := Option.bind_eq_some_iff.mp hM
        obtain ⟨r21, g21, hM⟩ := z_tn_c hM
        refine z_goN (kc := 0) (ks := 0) ([.int r21, .long (X1_19 * (31 : Int64))]) (z_callV (pc := 63) (As := [.int x3_2, .int x4_19]) (rest := [.long (X1_19 * (31 : Int64))]) (n := 2) (ci := 5) C (c_X4_about l hl G lo t0 h_1 nx a0 x3_2 x4_19 (.inr r21) g21) g20 rfl q_455 q_456 q_457 q_2 q_458 ⟨rfl, by decide +kernel, by decide +kernel, by decide +kernel⟩ ⟨Nat.le_of_ble_eq_true rfl, Nat.le_of_ble_eq_true rfl⟩ rfl (Nat.le_of_ble_eq_true rfl) dX4_digest_63 ⟨(Nat.zero_le _), (Nat.zero_le _)⟩) rfl (Nat.le_of_ble_eq_true rfl) (Nat.le_of_ble_eq_true rfl) ?_
        refine z_i2l (pc := 66) C dX4_digest_66 ?_
        refine z_ladd (pc := 67) C dX4_digest_67 ?_
        refine z_lstore_n (lv' := [(1, .long ((X1_19 * (31 : Int64)) + r21.toInt64)), (0, .ref a0), (3, .int x3_2), (4, .int x4_19)]) (pc := 68) C dX4_digest_68 (by decide) rfl ?_
        refine z_iinc (k := 3) (v := (x4_19 + (1 : Int32))) (lv' := [(4, .int (x4_19 + (1 : Int32))), (1, .long ((X1_19 * (31 : Int64)) + r21.toInt64)), (0, .ref a0), (3, .int x3_2)]) (pc := 69) C dX4_digest_69 rfl (by first | rfl | decide) (by decide) rfl ?_
        refine z_goto (pc := 72) (tgt := 47) C dX4_digest_72 (by decide) ?_
        exact z_sub [2, 1, 3, 0] rfl (irec19 ((X1_19 * (31 : Int64)) + r21.toInt64) (x4_19 + (1 : Int32)) hM)
  · refine z_lload_n (k := 1) (pc := 12) C dX4_digest_12 rfl ?_
    refine z_ldc2 (V := (31 : Int64)) (pc := 13) C dX4_digest_13 q_453 ?_
    refine z_lmul (pc := 16) C dX4_digest_16 ?_
    refine z_aload_n (k := 0) (pc := 17) C dX4_digest_17 rfl ?_
    refine z_iload_n (k := 2) (pc := 18) C dX4_digest_18 rfl ?_
    obtain ⟨_, g24, hM⟩ := Option.bind_eq_some_iff.mp hM
    obtain ⟨r25, g25, hM⟩ := z_tn_c hM
    refine z_goN (kc := 0) (ks := 0) ([.int r25.1, .long (X1_1 * (31 : Int64))]) (z_callV (pc := 19) (As := [.int x3_1]) (rest := [.long (X1_1 * (31 : Int64))]) (n := 1) (ci := 5) C (c_X4_count l hl G lo t0 h_1 nx a0 x3_1 (.inr r25) g25) g24 rfl q_454 q_404 q_405 q_2 q_406 ⟨rfl, by decide +kernel, by decide +kernel, by decide +kernel⟩ ⟨Nat.le_of_ble_eq_true rfl, Nat.le_of_ble_eq_true rfl⟩ rfl (Nat.le_of_ble_eq_true rfl) dX4_digest_19 ⟨(Nat.zero_le _), (Nat.zero_le _)⟩) rfl (Nat.le_of_ble_eq_true rfl) (Nat.le_of_ble_eq_true rfl) ?_
    refine z_i2l (pc := 22) C dX4_digest_22 ?_
    refine z_ladd (pc := 23) C dX4_digest_23 ?_
    refine z_lstore_n (lv' := [(1, .long ((X1_1 * (31 : Int64)) + ((r25.1).toInt64))), (0, .ref a0), (3, .int x3_1)]) (pc := 24) C dX4_digest_24 (by decide) rfl ?_
    refine z_iinc (k := 2) (v := (x3_1 + (1 : Int32))) (lv' := [(3, .int (x3_1 + (1 : Int32))), (1, .long ((X1_1 * (31 : Int64)) + ((r25.1).toInt64))), (0, .ref a0)]) (pc := 25) C dX4_digest_25 rfl (by first | rfl | decide) (by decide) rfl ?_
    refine z_goto (pc := 28) (tgt := 6) C dX4_digest_28 (by decide) ?_
    exact z_sub [2, 1, 0] rfl (irec1 ((X1_1 * (31 : Int64)) + ((r25.1).toInt64)) (x3_1 + (1 : Int32)) r25.2 hM)
