/-! the helpers, one by one (laid by gen_help.py) -/
theorem h_hang (l : Launch) (hl : l.stackTraces = false) (G : zG) (lo t0 : Nat) (h : zH) (nx a0 : Nat) (x1 x2 x3 x4 x5 x6 : Int32) (ao : Nat) (o : String ⊕ (Int32 × zH × Nat)) (hM : M_X4_hang h nx t0 a0 x1 x2 x3 x4 x5 x6 = some o) (hq : z_ck h a0 5 = some ()) (hE : ∀ E, o = .inl E → E = sIA ∨ E = sIO ∨ E = sIS) (hO : ∀ z, o = .inr z → ∃ f, z.2.1 ao = some (zL 1 f)) :
    z_HM l yL_hang cL_hang 9 [(0, 18, 21, 13), (0, 18, 25, 15), (0, 18, 29, 17)] 8 156 G lo t0 [.ref a0, .int x1, .int x2, .int x3, .int x4, .int x5, .int x6, .ref ao] h nx (hRel h nx ao (z_eo h o (fun z : Int32 × zH × Nat => (some (.int z.1), z.2.1, z.2.2))) vI (fun E => if E = sIA then 1 else if E = sIO then 2 else 3)) 4 40 := by
  refine zh_of [(0, .ref a0), (1, .int x1), (2, .int x2), (3, .int x3), (4, .int x4), (5, .int x5), (6, .int x6), (7, .ref ao)] (by decide) (Nat.le_of_ble_eq_true rfl) rfl (fun p e s m below meth c ls C e1 e2 hls => ?_)
  have hx := C.1.1
  have hb := C.1.2.1
  have e3 : va_S (fun z : Nat => lo ≤ z) s.heap s.heap [] := va_S.rf
  refine lv_aload hx hb dL_hang_0 (lv_at hls 7 rfl) ?_
  refine lv_iconst (v := 0) hx hb dL_hang_2 (by decide) ?_
  refine lv_aload_n hx hb dL_hang_3 rfl (lv_at hls 0 rfl) ?_
  refine lv_iload_n hx hb dL_hang_4 rfl (lv_at hls 1 rfl) ?_
  refine lv_iload_n hx hb dL_hang_5 rfl (lv_at hls 2 rfl) ?_
  refine lv_iload_n hx hb dL_hang_6 rfl (lv_at hls 3 rfl) ?_
  refine lv_iload hx hb dL_hang_7 (lv_at hls 4 rfl) ?_
  refine lv_iload hx hb dL_hang_9 (lv_at hls 5 rfl) ?_
  refine lv_iload hx hb dL_hang_11 (lv_at hls 6 rfl) ?_
  refine zh_callV (pc := 13) (As := [.int x1, .int x2, .int x3, .int x4, .int x5, .int x6]) (rest := [.int 0, .ref ao]) (n := 6) (ci := 5) C (c_X4_hang l hl G lo t0 h nx a0 x1 x2 x3 x4 x5 x6 o hM) hq rfl q_82 q_83 q_84 q_2 q_85 ⟨rfl, by decide +kernel, by decide +kernel, by decide +kernel⟩ ⟨Nat.le_of_ble_eq_true rfl, Nat.le_of_ble_eq_true rfl⟩ rfl (Nat.le_of_ble_eq_true rfl) dL_hang_13 ⟨Nat.le_of_ble_eq_true rfl, Nat.le_of_ble_eq_true rfl⟩ e1 e2 e3 hls.1 (fun v h1 n1 st1 hoo hst H1 locs1 e1 e2 e3 => ?_) (fun E h1 hoo H1 locs1 q ce z1 e2 e3 hce hcv hcl => ?_)
  · cases o with
    | inl E => cases hoo
    | inr z =>
      cases hoo
      obtain rfl : [.int z.1, .int 0, .ref ao] = st1 := hst
      obtain ⟨f, hf⟩ := hO z rfl
      refine lv_i2l (v := (z.1).toInt64) hx hb dL_hang_16 rfl ?_
      refine zh_last C e2 e3 hf vin_0 dL_hang_17 (fun H2 locs2 f1 f2 f3 => ?_)
      refine lv_goto (tgt := 33) hx hb dL_hang_18 (by decide) ?_
      refine lv_iconst (v := 0) hx hb dL_hang_33 (by decide) ?_
      exact zh_ret C (.inl ⟨_, _, _, _, rfl, rfl, rfl, (updL_0 _ _).trans  rfl, f1.trans e1⟩) f2 f3 (Nat.le_of_ble_eq_true rfl) (Nat.le_of_ble_eq_true rfl) dL_hang_34
  · cases o with
    | inr z => cases hoo
    | inl E0 =>
      cases hoo
      rcases hE E rfl with rfl | rfl | rfl
      · refine zh_catch (name := sIA) C [] ⟨0, 18, 21, 13⟩ [⟨0, 18, 25, 15⟩, ⟨0, 18, 29, 17⟩] rfl (fun z hz => absurd hz List.not_mem_nil) (by decide) (by decide) q_79 zc_IA hce hcv hcl ?_
        refine lv_astore (lv' := [(8, .ref q), (0, .ref a0), (1, .int x1), (2, .int x2), (3, .int x3), (4, .int x4), (5, .int x5), (6, .int x6), (7, .ref ao)]) hx hb dL_hang_21 hls (by decide) rfl (fun ls2 hls2 => ?_)
        refine lv_iconst (v := 1) hx hb dL_hang_23 (by decide) ?_
        exact zh_ret C (.inr ⟨_, _, rfl, by decide, rfl, z1⟩) e2 e3 (Nat.le_of_ble_eq_true rfl) (Nat.le_of_ble_eq_true rfl) dL_hang_24
      · refine zh_catch (name := sIO) C [⟨0, 18, 21, 13⟩] ⟨0, 18, 25, 15⟩ [⟨0, 18, 29, 17⟩] rfl (fun z hz => by obtain rfl := List.mem_singleton.mp hz; exact ⟨by decide, _, q_79, C.2.2.2.2.2.2.2.2.1⟩) (by decide) (by decide) q_80 zc_IO hce hcv hcl ?_
        refine lv_astore (lv' := [(8, .ref q), (0, .ref a0), (1, .int x1), (2, .int x2), (3, .int x3), (4, .int x4), (5, .int x5), (6, .int x6), (7, .ref ao)]) hx hb dL_hang_25 hls (by decide) rfl (fun ls2 hls2 => ?_)
        refine lv_iconst (v := 2) hx hb dL_hang_27 (by decide) ?_
        exact zh_ret C (.inr ⟨_, _, rfl, by decide, rfl, z1⟩) e2 e3 (Nat.le_of_ble_eq_true rfl) (Nat.le_of_ble_eq_true rfl) dL_hang_28
      · refine zh_catch (name := sIS) C [⟨0, 18, 21, 13⟩, ⟨0, 18, 25, 15⟩] ⟨0, 18, 29, 17⟩ [] rfl (fun z hz => by
          rcases List.mem_cons.mp hz with rfl | hz
          · exact ⟨by decide, _, q_79, C.2.2.2.2.2.2.2.2.2.1⟩
          · obtain rfl := List.mem_singleton.mp hz
            exact ⟨by decide, _, q_80, C.2.2.2.2.2.2.2.2.2.2.1⟩) (by decide) (by decide) q_81 zc_IS hce hcv hcl ?_
        refine lv_astore (lv' := [(8, .ref q), (0, .ref a0), (1, .int x1), (2, .int x2), (3, .int x3), (4, .int x4), (5, .int x5), (6, .int x6), (7, .ref ao)]) hx hb dL_hang_29 hls (by decide) rfl (fun ls2 hls2 => ?_)
        refine lv_iconst (v := 3) hx hb dL_hang_31 (by decide) ?_
        exact zh_ret C (.inr ⟨_, _, rfl, by decide, rfl, z1⟩) e2 e3 (Nat.le_of_ble_eq_true rfl) (Nat.le_of_ble_eq_true rfl) dL_hang_32
theorem h_roll (l : Launch) (hl : l.stackTraces = false) (G : zG) (lo t0 : Nat) (h : zH) (nx a0 : Nat) (x1 : Int32) (ao : Nat) (o : String ⊕ (Int32 × zH)) (hM : M_X4_roll h a0 x1 = some o) (hq : z_ck h a0 5 = some ()) (hE : ∀ E, o = .inl E → E = sIO) (hO : ∀ z, o = .inr z → ∃ f, z.2 ao = some (zL 1 f)) :
    z_HM l yL_roll cL_roll 4 [(0, 16, 19, 15)] 8 133 G lo t0 [.ref a0, .int x1, .ref ao] h nx (hRel h nx ao (z_eo h o (fun z : Int32 × zH => (some (.int z.1), z.2, nx))) vZ (fun E => 1)) 4 40 := by
  refine zh_of [(0, .ref a0), (1, .int x1), (2, .ref ao)] (by decide) (Nat.le_of_ble_eq_true rfl) rfl (fun p e s m below meth c ls C e1 e2 hls => ?_)
  have hx := C.1.1
  have hb := C.1.2.1
  have e3 : va_S (fun z : Nat => lo ≤ z) s.heap s.heap [] := va_S.rf
  refine lv_aload_n hx hb dL_roll_0 rfl (lv_at hls 2 rfl) ?_
  refine lv_iconst (v := 0) hx hb dL_roll_1 (by decide) ?_
  refine lv_aload_n hx hb dL_roll_2 rfl (lv_at hls 0 rfl) ?_
  refine lv_iload_n hx hb dL_roll_3 rfl (lv_at hls 1 rfl) ?_
  refine zh_callV (pc := 4) (As := [.int x1]) (rest := [.int 0, .ref ao]) (n := 1) (ci := 5) C (c_X4_roll l hl G lo t0 h nx a0 x1 o hM) hq rfl q_237 q_238 q_239 q_2 q_240 ⟨rfl, by decide +kernel, by decide +kernel, by decide +kernel⟩ ⟨Nat.le_of_ble_eq_true rfl, Nat.le_of_ble_eq_true rfl⟩ rfl (Nat.le_of_ble_eq_true rfl) dL_roll_4 ⟨z_mo_le (Nat.le_of_ble_eq_true rfl) (Nat.le_of_ble_eq_true rfl), z_mo_le (Nat.le_of_ble_eq_true rfl) (Nat.le_of_ble_eq_true rfl)⟩ e1 e2 e3 hls.1 (fun v h1 n1 st1 hoo hst H1 locs1 e1 e2 e3 => ?_) (fun E h1 hoo H1 locs1 q ce z1 e2 e3 hce hcv hcl => ?_)
  · cases o with
    | inl E => cases hoo
    | inr z =>
      cases hoo
      obtain rfl : [.int z.1, .int 0, .ref ao] = st1 := hst
      obtain ⟨f, hf⟩ := hO z rfl
      refine lv_if_eq (tgt := 14) hx hb dL_roll_7 (by decide) (fun hv => ?_) (fun hv => ?_)
      · refine lv_lconst (v := 0) hx hb dL_roll_14 (by decide) ?_
        refine zh_last C e2 e3 hf vin_0 dL_roll_15 (fun H2 locs2 f1 f2 f3 => ?_)
        refine lv_goto (tgt := 22) hx hb dL_roll_16 (by decide) ?_
        refine lv_iconst (v := 0) hx hb dL_roll_22 (by decide) ?_
        exact zh_ret C (.inl ⟨_, _, _, _, rfl, rfl, rfl, (updL_0 _ _).trans (if_pos hv).symm, f1.trans e1⟩) f2 f3 (z_mo_le (Nat.le_of_ble_eq_true rfl) (Nat.le_of_ble_eq_true rfl)) (z_mo_le (Nat.le_of_ble_eq_true rfl) (Nat.le_of_ble_eq_true rfl)) dL_roll_23
      · refine lv_lconst (v := 1) hx hb dL_roll_10 (by decide) ?_
        refine lv_goto (tgt := 15) hx hb dL_roll_11 (by decide) ?_
        refine zh_last C e2 e3 hf vin_0 dL_roll_15 (fun H2 locs2 f1 f2 f3 => ?_)
        refine lv_goto (tgt := 22) hx hb dL_roll_16 (by decide) ?_
        refine lv_iconst (v := 0) hx hb dL_roll_22 (by decide) ?_
        exact zh_ret C (.inl ⟨_, _, _, _, rfl, rfl, rfl, (updL_0 _ _).trans (if_neg hv).symm, f1.trans e1⟩) f2 f3 (z_mo_le (Nat.le_of_ble_eq_true rfl) (Nat.le_of_ble_eq_true rfl)) (z_mo_le (Nat.le_of_ble_eq_true rfl) (Nat.le_of_ble_eq_true rfl)) dL_roll_23
  · cases o with
    | inr z => cases hoo
    | inl E0 =>
      cases hoo
      rcases hE E rfl with rfl
      · refine zh_catch (name := sIO) C [] ⟨0, 16, 19, 15⟩ [] rfl (fun z hz => absurd hz List.not_mem_nil) (by decide) (by decide) q_80 zc_IO hce hcv hcl ?_
        refine lv_astore_n (lv' := [(3, .ref q), (0, .ref a0), (1, .int x1), (2, .ref ao)]) hx hb dL_roll_19 rfl hls (by decide) rfl (fun ls2 hls2 => ?_)
        refine lv_iconst (v := 1) hx hb dL_roll_20 (by decide) ?_
        exact zh_ret C (.inr ⟨_, _, rfl, by decide, rfl, z1⟩) e2 e3 (z_mo_le (Nat.le_of_ble_eq_true rfl) (Nat.le_of_ble_eq_true rfl)) (z_mo_le (Nat.le_of_ble_eq_true rfl) (Nat.le_of_ble_eq_true rfl)) dL_roll_21
theorem h_move (l : Launch) (hl : l.stackTraces = false) (G : zG) (lo t0 : Nat) (h : zH) (nx a0 : Nat) (x1 x2 x3 : Int32) (ao : Nat) (o : String ⊕ (Int32 × zH)) (hM : M_X4_move h a0 x1 x2 x3 = some o) (hq : z_ck h a0 5 = some ()) (hE : ∀ E, o = .inl E → E = sIO) (hO : ∀ z, o = .inr z → ∃ f, z.2 ao = some (zL 1 f)) :
    z_HM l yL_move cL_move 6 [(0, 12, 15, 15)] 8 137 G lo t0 [.ref a0, .int x1, .int x2, .int x3, .ref ao] h nx (hRel h nx ao (z_eo h o (fun z : Int32 × zH => (some (.int z.1), z.2, nx))) vI (fun E => 1)) 4 40 := by
  refine zh_of [(0, .ref a0), (1, .int x1), (2, .int x2), (3, .int x3), (4, .ref ao)] (by decide) (Nat.le_of_ble_eq_true rfl) rfl (fun p e s m below meth c ls C e1 e2 hls => ?_)
  have hx := C.1.1
  have hb := C.1.2.1
  have e3 : va_S (fun z : Nat => lo ≤ z) s.heap s.heap [] := va_S.rf
  refine lv_aload hx hb dL_move_0 (lv_at hls 4 rfl) ?_
  refine lv_iconst (v := 0) hx hb dL_move_2 (by decide) ?_
  refine lv_aload_n hx hb dL_move_3 rfl (lv_at hls 0 rfl) ?_
  refine lv_iload_n hx hb dL_move_4 rfl (lv_at hls 1 rfl) ?_
  refine lv_iload_n hx hb dL_move_5 rfl (lv_at hls 2 rfl) ?_
  refine lv_iload_n hx hb dL_move_6 rfl (lv_at hls 3 rfl) ?_
  refine zh_callV (pc := 7) (As := [.int x1, .int x2, .int x3]) (rest := [.int 0, .ref ao]) (n := 3) (ci := 5) C (c_X4_move l hl G lo t0 h nx a0 x1 x2 x3 o hM) hq rfl q_267 q_268 q_269 q_2 q_270 ⟨rfl, by decide +kernel, by decide +kernel, by decide +kernel⟩ ⟨Nat.le_of_ble_eq_true rfl, Nat.le_of_ble_eq_true rfl⟩ rfl (Nat.le_of_ble_eq_true rfl) dL_move_7 ⟨z_mo_le (Nat.le_of_ble_eq_true rfl) (Nat.le_of_ble_eq_true rfl), z_mo_le (Nat.le_of_ble_eq_true rfl) (Nat.le_of_ble_eq_true rfl)⟩ e1 e2 e3 hls.1 (fun v h1 n1 st1 hoo hst H1 locs1 e1 e2 e3 => ?_) (fun E h1 hoo H1 locs1 q ce z1 e2 e3 hce hcv hcl => ?_)
  · cases o with
    | inl E => cases hoo
    | inr z =>
      cases hoo
      obtain rfl : [.int z.1, .int 0, .ref ao] = st1 := hst
      obtain ⟨f, hf⟩ := hO z rfl
      refine lv_i2l (v := (z.1).toInt64) hx hb dL_move_10 rfl ?_
      refine zh_last C e2 e3 hf vin_0 dL_move_11 (fun H2 locs2 f1 f2 f3 => ?_)
      refine lv_goto (tgt := 19) hx hb dL_move_12 (by decide) ?_
      refine lv_iconst (v := 0) hx hb dL_move_19 (by decide) ?_
      exact zh_ret C (.inl ⟨_, _, _, _, rfl, rfl, rfl, (updL_0 _ _).trans  rfl, f1.trans e1⟩) f2 f3 (z_mo_le (Nat.le_of_ble_eq_true rfl) (Nat.le_of_ble_eq_true rfl)) (z_mo_le (Nat.le_of_ble_eq_true rfl) (Nat.le_of_ble_eq_true rfl)) dL_move_20
  · cases o with
    | inr z => cases hoo
    | inl E0 =>
      cases hoo
      rcases hE E rfl with rfl
      · refine zh_catch (name := sIO) C [] ⟨0, 12, 15, 15⟩ [] rfl (fun z hz => absurd hz List.not_mem_nil) (by decide) (by decide) q_80 zc_IO hce hcv hcl ?_
        refine lv_astore (lv' := [(5, .ref q), (0, .ref a0), (1, .int x1), (2, .int x2), (3, .int x3), (4, .ref ao)]) hx hb dL_move_15 hls (by decide) rfl (fun ls2 hls2 => ?_)
        refine lv_iconst (v := 1) hx hb dL_move_17 (by decide) ?_
        exact zh_ret C (.inr ⟨_, _, rfl, by decide, rfl, z1⟩) e2 e3 (z_mo_le (Nat.le_of_ble_eq_true rfl) (Nat.le_of_ble_eq_true rfl)) (z_mo_le (Nat.le_of_ble_eq_true rfl) (Nat.le_of_ble_eq_true rfl)) dL_move_18
theorem h_take (l : Launch) (hl : l.stackTraces = false) (G : zG) (lo t0 : Nat) (h : zH) (nx a0 : Nat) (x1 : Int32) (ao : Nat) (o : String ⊕ (Int32 × zH)) (hM : M_X4_take h a0 x1 = some o) (hq : z_ck h a0 5 = some ()) (hE : ∀ E, o = .inl E → E = sIO) (hO : ∀ z, o = .inr z → ∃ f, z.2 ao = some (zL 1 f)) :
    z_HM l yL_take cL_take 4 [(0, 9, 12, 15)] 8 148 G lo t0 [.ref a0, .int x1, .ref ao] h nx (hRel h nx ao (z_eo h o (fun z : Int32 × zH => (some (.int z.1), z.2, nx))) vI (fun E => 1)) 4 40 := by
  refine zh_of [(0, .ref a0), (1, .int x1), (2, .ref ao)] (by decide) (Nat.le_of_ble_eq_true rfl) rfl (fun p e s m below meth c ls C e1 e2 hls => ?_)
  have hx := C.1.1
  have hb := C.1.2.1
  have e3 : va_S (fun z : Nat => lo ≤ z) s.heap s.heap [] := va_S.rf
  refine lv_aload_n hx hb dL_take_0 rfl (lv_at hls 2 rfl) ?_
  refine lv_iconst (v := 0) hx hb dL_take_1 (by decide) ?_
  refine lv_aload_n hx hb dL_take_2 rfl (lv_at hls 0 rfl) ?_
  refine lv_iload_n hx hb dL_take_3 rfl (lv_at hls 1 rfl) ?_
  refine zh_callV (pc := 4) (As := [.int x1]) (rest := [.int 0, .ref ao]) (n := 1) (ci := 5) C (c_X4_take l hl G lo t0 h nx a0 x1 o hM) hq rfl q_350 q_351 q_352 q_2 q_353 ⟨rfl, by decide +kernel, by decide +kernel, by decide +kernel⟩ ⟨Nat.le_of_ble_eq_true rfl, Nat.le_of_ble_eq_true rfl⟩ rfl (Nat.le_of_ble_eq_true rfl) dL_take_4 ⟨z_mo_le (Nat.le_of_ble_eq_true rfl) (Nat.le_of_ble_eq_true rfl), z_mo_le (Nat.le_of_ble_eq_true rfl) (Nat.le_of_ble_eq_true rfl)⟩ e1 e2 e3 hls.1 (fun v h1 n1 st1 hoo hst H1 locs1 e1 e2 e3 => ?_) (fun E h1 hoo H1 locs1 q ce z1 e2 e3 hce hcv hcl => ?_)
  · cases o with
    | inl E => cases hoo
    | inr z =>
      cases hoo
      obtain rfl : [.int z.1, .int 0, .ref ao] = st1 := hst
      obtain ⟨f, hf⟩ := hO z rfl
      refine lv_i2l (v := (z.1).toInt64) hx hb dL_take_7 rfl ?_
      refine zh_last C e2 e3 hf vin_0 dL_take_8 (fun H2 locs2 f1 f2 f3 => ?_)
      refine lv_goto (tgt := 15) hx hb dL_take_9 (by decide) ?_
      refine lv_iconst (v := 0) hx hb dL_take_15 (by decide) ?_
      exact zh_ret C (.inl ⟨_, _, _, _, rfl, rfl, rfl, (updL_0 _ _).trans  rfl, f1.trans e1⟩) f2 f3 (z_mo_le (Nat.le_of_ble_eq_true rfl) (Nat.le_of_ble_eq_true rfl)) (z_mo_le (Nat.le_of_ble_eq_true rfl) (Nat.le_of_ble_eq_true rfl)) dL_take_16
  · cases o with
    | inr z => cases hoo
    | inl E0 =>
      cases hoo
      rcases hE E rfl with rfl
      · refine zh_catch (name := sIO) C [] ⟨0, 9, 12, 15⟩ [] rfl (fun z hz => absurd hz List.not_mem_nil) (by decide) (by decide) q_80 zc_IO hce hcv hcl ?_
        refine lv_astore_n (lv' := [(3, .ref q), (0, .ref a0), (1, .int x1), (2, .ref ao)]) hx hb dL_take_12 rfl hls (by decide) rfl (fun ls2 hls2 => ?_)
        refine lv_iconst (v := 1) hx hb dL_take_13 (by decide) ?_
        exact zh_ret C (.inr ⟨_, _, rfl, by decide, rfl, z1⟩) e2 e3 (z_mo_le (Nat.le_of_ble_eq_true rfl) (Nat.le_of_ble_eq_true rfl)) (z_mo_le (Nat.le_of_ble_eq_true rfl) (Nat.le_of_ble_eq_true rfl)) dL_take_14
theorem h_stall (l : Launch) (hl : l.stackTraces = false) (G : zG) (lo t0 : Nat) (h : zH) (nx a0 : Nat) (x1 x2 : Int32) (ao : Nat) (o : String ⊕ (Int32 × zH × Nat)) (hM : M_X4_stall h nx t0 a0 x1 x2 = some o) (hq : z_ck h a0 5 = some ()) (hE : ∀ E, o = .inl E → E = sIO ∨ E = sIS) (hO : ∀ z, o = .inr z → ∃ f, z.2.1 ao = some (zL 1 f)) :
    z_HM l yL_stall cL_stall 5 [(0, 10, 13, 15), (0, 10, 17, 17)] 8 133 G lo t0 [.ref a0, .int x1, .int x2, .ref ao] h nx (hRel h nx ao (z_eo h o (fun z : Int32 × zH × Nat => (some (.int z.1), z.2.1, z.2.2))) vI (fun E => if E = sIO then 1 else 2)) 4 40 := by
  refine zh_of [(0, .ref a0), (1, .int x1), (2, .int x2), (3, .ref ao)] (by decide) (Nat.le_of_ble_eq_true rfl) rfl (fun p e s m below meth c ls C e1 e2 hls => ?_)
  have hx := C.1.1
  have hb := C.1.2.1
  have e3 : va_S (fun z : Nat => lo ≤ z) s.heap s.heap [] := va_S.rf
  refine lv_aload_n hx hb dL_stall_0 rfl (lv_at hls 3 rfl) ?_
  refine lv_iconst (v := 0) hx hb dL_stall_1 (by decide) ?_
  refine lv_aload_n hx hb dL_stall_2 rfl (lv_at hls 0 rfl) ?_
  refine lv_iload_n hx hb dL_stall_3 rfl (lv_at hls 1 rfl) ?_
  refine lv_iload_n hx hb dL_stall_4 rfl (lv_at hls 2 rfl) ?_
  refine zh_callV (pc := 5) (As := [.int x1, .int x2]) (rest := [.int 0, .ref ao]) (n := 2) (ci := 5) C (c_X4_stall l hl G lo t0 h nx a0 x1 x2 o hM) hq rfl q_374 q_375 q_376 q_2 q_377 ⟨rfl, by decide +kernel, by decide +kernel, by decide +kernel⟩ ⟨Nat.le_of_ble_eq_true rfl, Nat.le_of_ble_eq_true rfl⟩ rfl (Nat.le_of_ble_eq_true rfl) dL_stall_5 ⟨Nat.le_of_ble_eq_true rfl, Nat.le_of_ble_eq_true rfl⟩ e1 e2 e3 hls.1 (fun v h1 n1 st1 hoo hst H1 locs1 e1 e2 e3 => ?_) (fun E h1 hoo H1 locs1 q ce z1 e2 e3 hce hcv hcl => ?_)
  · cases o with
    | inl E => cases hoo
    | inr z =>
      cases hoo
      obtain rfl : [.int z.1, .int 0, .ref ao] = st1 := hst
      obtain ⟨f, hf⟩ := hO z rfl
      refine lv_i2l (v := (z.1).toInt64) hx hb dL_stall_8 rfl ?_
      refine zh_last C e2 e3 hf vin_0 dL_stall_9 (fun H2 locs2 f1 f2 f3 => ?_)
      refine lv_goto (tgt := 21) hx hb dL_stall_10 (by decide) ?_
      refine lv_iconst (v := 0) hx hb dL_stall_21 (by decide) ?_
      exact zh_ret C (.inl ⟨_, _, _, _, rfl, rfl, rfl, (updL_0 _ _).trans  rfl, f1.trans e1⟩) f2 f3 (Nat.le_of_ble_eq_true rfl) (Nat.le_of_ble_eq_true rfl) dL_stall_22
  · cases o with
    | inr z => cases hoo
    | inl E0 =>
      cases hoo
      rcases hE E rfl with rfl | rfl
      · refine zh_catch (name := sIO) C [] ⟨0, 10, 13, 15⟩ [⟨0, 10, 17, 17⟩] rfl (fun z hz => absurd hz List.not_mem_nil) (by decide) (by decide) q_80 zc_IO hce hcv hcl ?_
        refine lv_astore (lv' := [(4, .ref q), (0, .ref a0), (1, .int x1), (2, .int x2), (3, .ref ao)]) hx hb dL_stall_13 hls (by decide) rfl (fun ls2 hls2 => ?_)
        refine lv_iconst (v := 1) hx hb dL_stall_15 (by decide) ?_
        exact zh_ret C (.inr ⟨_, _, rfl, by decide, rfl, z1⟩) e2 e3 (Nat.le_of_ble_eq_true rfl) (Nat.le_of_ble_eq_true rfl) dL_stall_16
      · refine zh_catch (name := sIS) C [⟨0, 10, 13, 15⟩] ⟨0, 10, 17, 17⟩ [] rfl (fun z hz => by obtain rfl := List.mem_singleton.mp hz; exact ⟨by decide, _, q_80, C.2.2.2.2.2.2.2.2.2.2.1⟩) (by decide) (by decide) q_81 zc_IS hce hcv hcl ?_
        refine lv_astore (lv' := [(4, .ref q), (0, .ref a0), (1, .int x1), (2, .int x2), (3, .ref ao)]) hx hb dL_stall_17 hls (by decide) rfl (fun ls2 hls2 => ?_)
        refine lv_iconst (v := 2) hx hb dL_stall_19 (by decide) ?_
        exact zh_ret C (.inr ⟨_, _, rfl, by decide, rfl, z1⟩) e2 e3 (Nat.le_of_ble_eq_true rfl) (Nat.le_of_ble_eq_true rfl) dL_stall_20
theorem h_rain (l : Launch) (hl : l.stackTraces = false) (G : zG) (lo t0 : Nat) (h : zH) (nx a0 : Nat) (x1 : Int32) (ao : Nat) (o : String ⊕ (Int32 × zH)) (hM : M_X4_rain h a0 x1 = some o) (hq : z_ck h a0 5 = some ()) (hE : ∀ E, o = .inl E → E = sIA) (hO : ∀ z, o = .inr z → ∃ f, z.2 ao = some (zL 1 f)) :
    z_HM l yL_rain cL_rain 4 [(0, 9, 12, 13)] 10 212 G lo t0 [.ref a0, .int x1, .ref ao] h nx (hRel h nx ao (z_eo h o (fun z : Int32 × zH => (some (.int z.1), z.2, nx))) vI (fun E => 1)) 4 40 := by
  refine zh_of [(0, .ref a0), (1, .int x1), (2, .ref ao)] (by decide) (Nat.le_of_ble_eq_true rfl) rfl (fun p e s m below meth c ls C e1 e2 hls => ?_)
  have hx := C.1.1
  have hb := C.1.2.1
  have e3 : va_S (fun z : Nat => lo ≤ z) s.heap s.heap [] := va_S.rf
  refine lv_aload_n hx hb dL_rain_0 rfl (lv_at hls 2 rfl) ?_
  refine lv_iconst (v := 0) hx hb dL_rain_1 (by decide) ?_
  refine lv_aload_n hx hb dL_rain_2 rfl (lv_at hls 0 rfl) ?_
  refine lv_iload_n hx hb dL_rain_3 rfl (lv_at hls 1 rfl) ?_
  refine zh_callV (pc := 4) (As := [.int x1]) (rest := [.int 0, .ref ao]) (n := 1) (ci := 5) C (c_X4_rain l hl G lo t0 h nx a0 x1 o hM) hq rfl q_416 q_417 q_418 q_2 q_419 ⟨rfl, by decide +kernel, by decide +kernel, by decide +kernel⟩ ⟨Nat.le_of_ble_eq_true rfl, Nat.le_of_ble_eq_true rfl⟩ rfl (Nat.le_of_ble_eq_true rfl) dL_rain_4 ⟨z_mo_le (Nat.le_of_ble_eq_true rfl) (Nat.le_of_ble_eq_true rfl), z_mo_le (Nat.le_of_ble_eq_true rfl) (Nat.le_of_ble_eq_true rfl)⟩ e1 e2 e3 hls.1 (fun v h1 n1 st1 hoo hst H1 locs1 e1 e2 e3 => ?_) (fun E h1 hoo H1 locs1 q ce z1 e2 e3 hce hcv hcl => ?_)
  · cases o with
    | inl E => cases hoo
    | inr z =>
      cases hoo
      obtain rfl : [.int z.1, .int 0, .ref ao] = st1 := hst
      obtain ⟨f, hf⟩ := hO z rfl
      refine lv_i2l (v := (z.1).toInt64) hx hb dL_rain_7 rfl ?_
      refine zh_last C e2 e3 hf vin_0 dL_rain_8 (fun H2 locs2 f1 f2 f3 => ?_)
      refine lv_goto (tgt := 15) hx hb dL_rain_9 (by decide) ?_
      refine lv_iconst (v := 0) hx hb dL_rain_15 (by decide) ?_
      exact zh_ret C (.inl ⟨_, _, _, _, rfl, rfl, rfl, (updL_0 _ _).trans  rfl, f1.trans e1⟩) f2 f3 (z_mo_le (Nat.le_of_ble_eq_true rfl) (Nat.le_of_ble_eq_true rfl)) (z_mo_le (Nat.le_of_ble_eq_true rfl) (Nat.le_of_ble_eq_true rfl)) dL_rain_16
  · cases o with
    | inr z => cases hoo
    | inl E0 =>
      cases hoo
      rcases hE E rfl with rfl
      · refine zh_catch (name := sIA) C [] ⟨0, 9, 12, 13⟩ [] rfl (fun z hz => absurd hz List.not_mem_nil) (by decide) (by decide) q_79 zc_IA hce hcv hcl ?_
        refine lv_astore_n (lv' := [(3, .ref q), (0, .ref a0), (1, .int x1), (2, .ref ao)]) hx hb dL_rain_12 rfl hls (by decide) rfl (fun ls2 hls2 => ?_)
        refine lv_iconst (v := 1) hx hb dL_rain_13 (by decide) ?_
        exact zh_ret C (.inr ⟨_, _, rfl, by decide, rfl, z1⟩) e2 e3 (z_mo_le (Nat.le_of_ble_eq_true rfl) (Nat.le_of_ble_eq_true rfl)) (z_mo_le (Nat.le_of_ble_eq_true rfl) (Nat.le_of_ble_eq_true rfl)) dL_rain_14
theorem h_about (l : Launch) (hl : l.stackTraces = false) (G : zG) (lo t0 : Nat) (h : zH) (nx a0 : Nat) (x1 x2 : Int32) (ao : Nat) (o : String ⊕ (Int32)) (hM : M_X4_about h a0 x1 x2 = some o) (hq : z_ck h a0 5 = some ()) (hE : ∀ E, o = .inl E → E = sIO) (hO : ∀ z, o = .inr z → ∃ f, h ao = some (zL 1 f)) :
    z_HM l yL_about cL_about 5 [(0, 10, 13, 15)] 8 134 G lo t0 [.ref a0, .int x1, .int x2, .ref ao] h nx (hRel h nx ao (z_eo h o (fun z : Int32 => (some (.int z), h, nx))) vI (fun E => 1)) 4 40 := by
  refine zh_of [(0, .ref a0), (1, .int x1), (2, .int x2), (3, .ref ao)] (by decide) (Nat.le_of_ble_eq_true rfl) rfl (fun p e s m below meth c ls C e1 e2 hls => ?_)
  have hx := C.1.1
  have hb := C.1.2.1
  have e3 : va_S (fun z : Nat => lo ≤ z) s.heap s.heap [] := va_S.rf
  refine lv_aload_n hx hb dL_about_0 rfl (lv_at hls 3 rfl) ?_
  refine lv_iconst (v := 0) hx hb dL_about_1 (by decide) ?_
  refine lv_aload_n hx hb dL_about_2 rfl (lv_at hls 0 rfl) ?_
  refine lv_iload_n hx hb dL_about_3 rfl (lv_at hls 1 rfl) ?_
  refine lv_iload_n hx hb dL_about_4 rfl (lv_at hls 2 rfl) ?_
  refine zh_callV (pc := 5) (As := [.int x1, .int x2]) (rest := [.int 0, .ref ao]) (n := 2) (ci := 5) C (c_X4_about l hl G lo t0 h nx a0 x1 x2 o hM) hq rfl q_516 q_517 q_518 q_2 q_519 ⟨rfl, by decide +kernel, by decide +kernel, by decide +kernel⟩ ⟨Nat.le_of_ble_eq_true rfl, Nat.le_of_ble_eq_true rfl⟩ rfl (Nat.le_of_ble_eq_true rfl) dL_about_5 ⟨z_mo_le (Nat.le_of_ble_eq_true rfl) (Nat.le_of_ble_eq_true rfl), z_mo_le (Nat.le_of_ble_eq_true rfl) (Nat.le_of_ble_eq_true rfl)⟩ e1 e2 e3 hls.1 (fun v h1 n1 st1 hoo hst H1 locs1 e1 e2 e3 => ?_) (fun E h1 hoo H1 locs1 q ce z1 e2 e3 hce hcv hcl => ?_)
  · cases o with
    | inl E => cases hoo
    | inr z =>
      cases hoo
      obtain rfl : [.int z, .int 0, .ref ao] = st1 := hst
      obtain ⟨f, hf⟩ := hO z rfl
      refine lv_i2l (v := (z).toInt64) hx hb dL_about_8 rfl ?_
      refine zh_last C e2 e3 hf vin_0 dL_about_9 (fun H2 locs2 f1 f2 f3 => ?_)
      refine lv_goto (tgt := 17) hx hb dL_about_10 (by decide) ?_
      refine lv_iconst (v := 0) hx hb dL_about_17 (by decide) ?_
      exact zh_ret C (.inl ⟨_, _, _, _, rfl, rfl, rfl, (updL_0 _ _).trans  rfl, f1.trans e1⟩) f2 f3 (z_mo_le (Nat.le_of_ble_eq_true rfl) (Nat.le_of_ble_eq_true rfl)) (z_mo_le (Nat.le_of_ble_eq_true rfl) (Nat.le_of_ble_eq_true rfl)) dL_about_18
  · cases o with
    | inr z => cases hoo
    | inl E0 =>
      cases hoo
      rcases hE E rfl with rfl
      · refine zh_catch (name := sIO) C [] ⟨0, 10, 13, 15⟩ [] rfl (fun z hz => absurd hz List.not_mem_nil) (by decide) (by decide) q_80 zc_IO hce hcv hcl ?_
        refine lv_astore (lv' := [(4, .ref q), (0, .ref a0), (1, .int x1), (2, .int x2), (3, .ref ao)]) hx hb dL_about_13 hls (by decide) rfl (fun ls2 hls2 => ?_)
        refine lv_iconst (v := 1) hx hb dL_about_15 (by decide) ?_
        exact zh_ret C (.inr ⟨_, _, rfl, by decide, rfl, z1⟩) e2 e3 (z_mo_le (Nat.le_of_ble_eq_true rfl) (Nat.le_of_ble_eq_true rfl)) (z_mo_le (Nat.le_of_ble_eq_true rfl) (Nat.le_of_ble_eq_true rfl)) dL_about_16
theorem h_cell (l : Launch) (hl : l.stackTraces = false) (G : zG) (lo t0 : Nat) (h : zH) (nx a0 : Nat) (x1 x2 x3 : Int32) (ao : Nat) (o : String ⊕ (Int32)) (hM : M_X4_cell h a0 x1 x2 x3 = some o) (hq : z_ck h a0 5 = some ()) (hE : ∀ E, o = .inl E → E = sIO) (hO : ∀ z, o = .inr z → ∃ f, h ao = some (zL 1 f)) :
    z_HM l yL_cell cL_cell 6 [(0, 12, 15, 15)] 8 134 G lo t0 [.ref a0, .int x1, .int x2, .int x3, .ref ao] h nx (hRel h nx ao (z_eo h o (fun z : Int32 => (some (.int z), h, nx))) vI (fun E => 1)) 4 40 := by
  refine zh_of [(0, .ref a0), (1, .int x1), (2, .int x2), (3, .int x3), (4, .ref ao)] (by decide) (Nat.le_of_ble_eq_true rfl) rfl (fun p e s m below meth c ls C e1 e2 hls => ?_)
  have hx := C.1.1
  have hb := C.1.2.1
  have e3 : va_S (fun z : Nat => lo ≤ z) s.heap s.heap [] := va_S.rf
  refine lv_aload hx hb dL_cell_0 (lv_at hls 4 rfl) ?_
  refine lv_iconst (v := 0) hx hb dL_cell_2 (by decide) ?_
  refine lv_aload_n hx hb dL_cell_3 rfl (lv_at hls 0 rfl) ?_
  refine lv_iload_n hx hb dL_cell_4 rfl (lv_at hls 1 rfl) ?_
  refine lv_iload_n hx hb dL_cell_5 rfl (lv_at hls 2 rfl) ?_
  refine lv_iload_n hx hb dL_cell_6 rfl (lv_at hls 3 rfl) ?_
  refine zh_callV (pc := 7) (As := [.int x1, .int x2, .int x3]) (rest := [.int 0, .ref ao]) (n := 3) (ci := 5) C (c_X4_cell l hl G lo t0 h nx a0 x1 x2 x3 o hM) hq rfl q_548 q_549 q_550 q_2 q_551 ⟨rfl, by decide +kernel, by decide +kernel, by decide +kernel⟩ ⟨Nat.le_of_ble_eq_true rfl, Nat.le_of_ble_eq_true rfl⟩ rfl (Nat.le_of_ble_eq_true rfl) dL_cell_7 ⟨z_mo_le (Nat.le_of_ble_eq_true rfl) (Nat.le_of_ble_eq_true rfl), z_mo_le (Nat.le_of_ble_eq_true rfl) (Nat.le_of_ble_eq_true rfl)⟩ e1 e2 e3 hls.1 (fun v h1 n1 st1 hoo hst H1 locs1 e1 e2 e3 => ?_) (fun E h1 hoo H1 locs1 q ce z1 e2 e3 hce hcv hcl => ?_)
  · cases o with
    | inl E => cases hoo
    | inr z =>
      cases hoo
      obtain rfl : [.int z, .int 0, .ref ao] = st1 := hst
      obtain ⟨f, hf⟩ := hO z rfl
      refine lv_i2l (v := (z).toInt64) hx hb dL_cell_10 rfl ?_
      refine zh_last C e2 e3 hf vin_0 dL_cell_11 (fun H2 locs2 f1 f2 f3 => ?_)
      refine lv_goto (tgt := 19) hx hb dL_cell_12 (by decide) ?_
      refine lv_iconst (v := 0) hx hb dL_cell_19 (by decide) ?_
      exact zh_ret C (.inl ⟨_, _, _, _, rfl, rfl, rfl, (updL_0 _ _).trans  rfl, f1.trans e1⟩) f2 f3 (z_mo_le (Nat.le_of_ble_eq_true rfl) (Nat.le_of_ble_eq_true rfl)) (z_mo_le (Nat.le_of_ble_eq_true rfl) (Nat.le_of_ble_eq_true rfl)) dL_cell_20
  · cases o with
    | inr z => cases hoo
    | inl E0 =>
      cases hoo
      rcases hE E rfl with rfl
      · refine zh_catch (name := sIO) C [] ⟨0, 12, 15, 15⟩ [] rfl (fun z hz => absurd hz List.not_mem_nil) (by decide) (by decide) q_80 zc_IO hce hcv hcl ?_
        refine lv_astore (lv' := [(5, .ref q), (0, .ref a0), (1, .int x1), (2, .int x2), (3, .int x3), (4, .ref ao)]) hx hb dL_cell_15 hls (by decide) rfl (fun ls2 hls2 => ?_)
        refine lv_iconst (v := 1) hx hb dL_cell_17 (by decide) ?_
        exact zh_ret C (.inr ⟨_, _, rfl, by decide, rfl, z1⟩) e2 e3 (z_mo_le (Nat.le_of_ble_eq_true rfl) (Nat.le_of_ble_eq_true rfl)) (z_mo_le (Nat.le_of_ble_eq_true rfl) (Nat.le_of_ble_eq_true rfl)) dL_cell_18
theorem h_cord (l : Launch) (hl : l.stackTraces = false) (G : zG) (lo t0 : Nat) (h : zH) (nx a0 : Nat) (x1 x2 : Int32) (ao : Nat) (o : String ⊕ (Int32)) (hM : M_X4_cord h a0 x1 x2 = some o) (hq : z_ck h a0 5 = some ()) (hE : ∀ E, o = .inl E → E = sIO) (hO : ∀ z, o = .inr z → ∃ f, h ao = some (zL 1 f)) :
    z_HM l yL_cord cL_cord 5 [(0, 10, 13, 15)] 8 133 G lo t0 [.ref a0, .int x1, .int x2, .ref ao] h nx (hRel h nx ao (z_eo h o (fun z : Int32 => (some (.int z), h, nx))) vI (fun E => 1)) 4 40 := by
  refine zh_of [(0, .ref a0), (1, .int x1), (2, .int x2), (3, .ref ao)] (by decide) (Nat.le_of_ble_eq_true rfl) rfl (fun p e s m below meth c ls C e1 e2 hls => ?_)
  have hx := C.1.1
  have hb := C.1.2.1
  have e3 : va_S (fun z : Nat => lo ≤ z) s.heap s.heap [] := va_S.rf
  refine lv_aload_n hx hb dL_cord_0 rfl (lv_at hls 3 rfl) ?_
  refine lv_iconst (v := 0) hx hb dL_cord_1 (by decide) ?_
  refine lv_aload_n hx hb dL_cord_2 rfl (lv_at hls 0 rfl) ?_
  refine lv_iload_n hx hb dL_cord_3 rfl (lv_at hls 1 rfl) ?_
  refine lv_iload_n hx hb dL_cord_4 rfl (lv_at hls 2 rfl) ?_
  refine zh_callV (pc := 5) (As := [.int x1, .int x2]) (rest := [.int 0, .ref ao]) (n := 2) (ci := 5) C (c_X4_cord l hl G lo t0 h nx a0 x1 x2 o hM) hq rfl q_565 q_566 q_567 q_2 q_568 ⟨rfl, by decide +kernel, by decide +kernel, by decide +kernel⟩ ⟨Nat.le_of_ble_eq_true rfl, Nat.le_of_ble_eq_true rfl⟩ rfl (Nat.le_of_ble_eq_true rfl) dL_cord_5 ⟨z_mo_le (Nat.le_of_ble_eq_true rfl) (Nat.le_of_ble_eq_true rfl), z_mo_le (Nat.le_of_ble_eq_true rfl) (Nat.le_of_ble_eq_true rfl)⟩ e1 e2 e3 hls.1 (fun v h1 n1 st1 hoo hst H1 locs1 e1 e2 e3 => ?_) (fun E h1 hoo H1 locs1 q ce z1 e2 e3 hce hcv hcl => ?_)
  · cases o with
    | inl E => cases hoo
    | inr z =>
      cases hoo
      obtain rfl : [.int z, .int 0, .ref ao] = st1 := hst
      obtain ⟨f, hf⟩ := hO z rfl
      refine lv_i2l (v := (z).toInt64) hx hb dL_cord_8 rfl ?_
      refine zh_last C e2 e3 hf vin_0 dL_cord_9 (fun H2 locs2 f1 f2 f3 => ?_)
      refine lv_goto (tgt := 17) hx hb dL_cord_10 (by decide) ?_
      refine lv_iconst (v := 0) hx hb dL_cord_17 (by decide) ?_
      exact zh_ret C (.inl ⟨_, _, _, _, rfl, rfl, rfl, (updL_0 _ _).trans  rfl, f1.trans e1⟩) f2 f3 (z_mo_le (Nat.le_of_ble_eq_true rfl) (Nat.le_of_ble_eq_true rfl)) (z_mo_le (Nat.le_of_ble_eq_true rfl) (Nat.le_of_ble_eq_true rfl)) dL_cord_18
  · cases o with
    | inr z => cases hoo
    | inl E0 =>
      cases hoo
      rcases hE E rfl with rfl
      · refine zh_catch (name := sIO) C [] ⟨0, 10, 13, 15⟩ [] rfl (fun z hz => absurd hz List.not_mem_nil) (by decide) (by decide) q_80 zc_IO hce hcv hcl ?_
        refine lv_astore (lv' := [(4, .ref q), (0, .ref a0), (1, .int x1), (2, .int x2), (3, .ref ao)]) hx hb dL_cord_13 hls (by decide) rfl (fun ls2 hls2 => ?_)
        refine lv_iconst (v := 1) hx hb dL_cord_15 (by decide) ?_
        exact zh_ret C (.inr ⟨_, _, rfl, by decide, rfl, z1⟩) e2 e3 (z_mo_le (Nat.le_of_ble_eq_true rfl) (Nat.le_of_ble_eq_true rfl)) (z_mo_le (Nat.le_of_ble_eq_true rfl) (Nat.le_of_ble_eq_true rfl)) dL_cord_16
theorem h_told (l : Launch) (hl : l.stackTraces = false) (G : zG) (lo t0 : Nat) (h : zH) (nx a0 : Nat) (x1 x2 : Int32) (ao : Nat) (o : String ⊕ (Int32)) (hM : M_X4_told h a0 x1 x2 = some o) (hq : z_ck h a0 5 = some ()) (hE : ∀ E, o = .inl E → E = sIO) (hO : ∀ z, o = .inr z → ∃ f, h ao = some (zL 1 f)) :
    z_HM l yL_told cL_told 5 [(0, 10, 13, 15)] 8 134 G lo t0 [.ref a0, .int x1, .int x2, .ref ao] h nx (hRel h nx ao (z_eo h o (fun z : Int32 => (some (.int z), h, nx))) vI (fun E => 1)) 4 40 := by
  refine zh_of [(0, .ref a0), (1, .int x1), (2, .int x2), (3, .ref ao)] (by decide) (Nat.le_of_ble_eq_true rfl) rfl (fun p e s m below meth c ls C e1 e2 hls => ?_)
  have hx := C.1.1
  have hb := C.1.2.1
  have e3 : va_S (fun z : Nat => lo ≤ z) s.heap s.heap [] := va_S.rf
  refine lv_aload_n hx hb dL_told_0 rfl (lv_at hls 3 rfl) ?_
  refine lv_iconst (v := 0) hx hb dL_told_1 (by decide) ?_
  refine lv_aload_n hx hb dL_told_2 rfl (lv_at hls 0 rfl) ?_
  refine lv_iload_n hx hb dL_told_3 rfl (lv_at hls 1 rfl) ?_
  refine lv_iload_n hx hb dL_told_4 rfl (lv_at hls 2 rfl) ?_
  refine zh_callV (pc := 5) (As := [.int x1, .int x2]) (rest := [.int 0, .ref ao]) (n := 2) (ci := 5) C (c_X4_told l hl G lo t0 h nx a0 x1 x2 o hM) hq rfl q_605 q_606 q_607 q_2 q_608 ⟨rfl, by decide +kernel, by decide +kernel, by decide +kernel⟩ ⟨Nat.le_of_ble_eq_true rfl, Nat.le_of_ble_eq_true rfl⟩ rfl (Nat.le_of_ble_eq_true rfl) dL_told_5 ⟨z_mo_le (Nat.le_of_ble_eq_true rfl) (Nat.le_of_ble_eq_true rfl), z_mo_le (Nat.le_of_ble_eq_true rfl) (Nat.le_of_ble_eq_true rfl)⟩ e1 e2 e3 hls.1 (fun v h1 n1 st1 hoo hst H1 locs1 e1 e2 e3 => ?_) (fun E h1 hoo H1 locs1 q ce z1 e2 e3 hce hcv hcl => ?_)
  · cases o with
    | inl E => cases hoo
    | inr z =>
      cases hoo
      obtain rfl : [.int z, .int 0, .ref ao] = st1 := hst
      obtain ⟨f, hf⟩ := hO z rfl
      refine lv_i2l (v := (z).toInt64) hx hb dL_told_8 rfl ?_
      refine zh_last C e2 e3 hf vin_0 dL_told_9 (fun H2 locs2 f1 f2 f3 => ?_)
      refine lv_goto (tgt := 17) hx hb dL_told_10 (by decide) ?_
      refine lv_iconst (v := 0) hx hb dL_told_17 (by decide) ?_
      exact zh_ret C (.inl ⟨_, _, _, _, rfl, rfl, rfl, (updL_0 _ _).trans  rfl, f1.trans e1⟩) f2 f3 (z_mo_le (Nat.le_of_ble_eq_true rfl) (Nat.le_of_ble_eq_true rfl)) (z_mo_le (Nat.le_of_ble_eq_true rfl) (Nat.le_of_ble_eq_true rfl)) dL_told_18
  · cases o with
    | inr z => cases hoo
    | inl E0 =>
      cases hoo
      rcases hE E rfl with rfl
      · refine zh_catch (name := sIO) C [] ⟨0, 10, 13, 15⟩ [] rfl (fun z hz => absurd hz List.not_mem_nil) (by decide) (by decide) q_80 zc_IO hce hcv hcl ?_
        refine lv_astore (lv' := [(4, .ref q), (0, .ref a0), (1, .int x1), (2, .int x2), (3, .ref ao)]) hx hb dL_told_13 hls (by decide) rfl (fun ls2 hls2 => ?_)
        refine lv_iconst (v := 1) hx hb dL_told_15 (by decide) ?_
        exact zh_ret C (.inr ⟨_, _, rfl, by decide, rfl, z1⟩) e2 e3 (z_mo_le (Nat.le_of_ble_eq_true rfl) (Nat.le_of_ble_eq_true rfl)) (z_mo_le (Nat.le_of_ble_eq_true rfl) (Nat.le_of_ble_eq_true rfl)) dL_told_16
theorem h_share (l : Launch) (hl : l.stackTraces = false) (G : zG) (lo t0 : Nat) (h : zH) (nx a0 : Nat) (x1 x2 : Int32) (ao : Nat) (o : String ⊕ (Int32)) (hM : M_X4_share h a0 x1 x2 = some o) (hq : z_ck h a0 5 = some ()) (hE : ∀ E, o = .inl E → E = sIO) (hO : ∀ z, o = .inr z → ∃ f, h ao = some (zL 1 f)) :
    z_HM l yL_share cL_share 5 [(0, 10, 13, 15)] 8 137 G lo t0 [.ref a0, .int x1, .int x2, .ref ao] h nx (hRel h nx ao (z_eo h o (fun z : Int32 => (some (.int z), h, nx))) vI (fun E => 1)) 4 40 := by
  refine zh_of [(0, .ref a0), (1, .int x1), (2, .int x2), (3, .ref ao)] (by decide) (Nat.le_of_ble_eq_true rfl) rfl (fun p e s m below meth c ls C e1 e2 hls => ?_)
  have hx := C.1.1
  have hb := C.1.2.1
  have e3 : va_S (fun z : Nat => lo ≤ z) s.heap s.heap [] := va_S.rf
  refine lv_aload_n hx hb dL_share_0 rfl (lv_at hls 3 rfl) ?_
  refine lv_iconst (v := 0) hx hb dL_share_1 (by decide) ?_
  refine lv_aload_n hx hb dL_share_2 rfl (lv_at hls 0 rfl) ?_
  refine lv_iload_n hx hb dL_share_3 rfl (lv_at hls 1 rfl) ?_
  refine lv_iload_n hx hb dL_share_4 rfl (lv_at hls 2 rfl) ?_
  refine zh_callV (pc := 5) (As := [.int x1, .int x2]) (rest := [.int 0, .ref ao]) (n := 2) (ci := 5) C (c_X4_share l hl G lo t0 h nx a0 x1 x2 o hM) hq rfl q_629 q_630 q_631 q_2 q_632 ⟨rfl, by decide +kernel, by decide +kernel, by decide +kernel⟩ ⟨Nat.le_of_ble_eq_true rfl, Nat.le_of_ble_eq_true rfl⟩ rfl (Nat.le_of_ble_eq_true rfl) dL_share_5 ⟨z_mo_le (Nat.le_of_ble_eq_true rfl) (Nat.le_of_ble_eq_true rfl), z_mo_le (Nat.le_of_ble_eq_true rfl) (Nat.le_of_ble_eq_true rfl)⟩ e1 e2 e3 hls.1 (fun v h1 n1 st1 hoo hst H1 locs1 e1 e2 e3 => ?_) (fun E h1 hoo H1 locs1 q ce z1 e2 e3 hce hcv hcl => ?_)
  · cases o with
    | inl E => cases hoo
    | inr z =>
      cases hoo
      obtain rfl : [.int z, .int 0, .ref ao] = st1 := hst
      obtain ⟨f, hf⟩ := hO z rfl
      refine lv_i2l (v := (z).toInt64) hx hb dL_share_8 rfl ?_
      refine zh_last C e2 e3 hf vin_0 dL_share_9 (fun H2 locs2 f1 f2 f3 => ?_)
      refine lv_goto (tgt := 17) hx hb dL_share_10 (by decide) ?_
      refine lv_iconst (v := 0) hx hb dL_share_17 (by decide) ?_
      exact zh_ret C (.inl ⟨_, _, _, _, rfl, rfl, rfl, (updL_0 _ _).trans  rfl, f1.trans e1⟩) f2 f3 (z_mo_le (Nat.le_of_ble_eq_true rfl) (Nat.le_of_ble_eq_true rfl)) (z_mo_le (Nat.le_of_ble_eq_true rfl) (Nat.le_of_ble_eq_true rfl)) dL_share_18
  · cases o with
    | inr z => cases hoo
    | inl E0 =>
      cases hoo
      rcases hE E rfl with rfl
      · refine zh_catch (name := sIO) C [] ⟨0, 10, 13, 15⟩ [] rfl (fun z hz => absurd hz List.not_mem_nil) (by decide) (by decide) q_80 zc_IO hce hcv hcl ?_
        refine lv_astore (lv' := [(4, .ref q), (0, .ref a0), (1, .int x1), (2, .int x2), (3, .ref ao)]) hx hb dL_share_13 hls (by decide) rfl (fun ls2 hls2 => ?_)
        refine lv_iconst (v := 1) hx hb dL_share_15 (by decide) ?_
        exact zh_ret C (.inr ⟨_, _, rfl, by decide, rfl, z1⟩) e2 e3 (z_mo_le (Nat.le_of_ble_eq_true rfl) (Nat.le_of_ble_eq_true rfl)) (z_mo_le (Nat.le_of_ble_eq_true rfl) (Nat.le_of_ble_eq_true rfl)) dL_share_16
theorem h_count (l : Launch) (hl : l.stackTraces = false) (G : zG) (lo t0 : Nat) (h : zH) (nx a0 : Nat) (x1 : Int32) (ao : Nat) (o : String ⊕ (Int32 × zH)) (hM : M_X4_count h a0 x1 = some o) (hq : z_ck h a0 5 = some ()) (hE : ∀ E, o = .inl E → E = sIO) (hO : ∀ z, o = .inr z → ∃ f, z.2 ao = some (zL 1 f)) :
    z_HM l yL_count cL_count 4 [(0, 9, 12, 15)] 8 133 G lo t0 [.ref a0, .int x1, .ref ao] h nx (hRel h nx ao (z_eo h o (fun z : Int32 × zH => (some (.int z.1), z.2, nx))) vI (fun E => 1)) 4 40 := by
  refine zh_of [(0, .ref a0), (1, .int x1), (2, .ref ao)] (by decide) (Nat.le_of_ble_eq_true rfl) rfl (fun p e s m below meth c ls C e1 e2 hls => ?_)
  have hx := C.1.1
  have hb := C.1.2.1
  have e3 : va_S (fun z : Nat => lo ≤ z) s.heap s.heap [] := va_S.rf
  refine lv_aload_n hx hb dL_count_0 rfl (lv_at hls 2 rfl) ?_
  refine lv_iconst (v := 0) hx hb dL_count_1 (by decide) ?_
  refine lv_aload_n hx hb dL_count_2 rfl (lv_at hls 0 rfl) ?_
  refine lv_iload_n hx hb dL_count_3 rfl (lv_at hls 1 rfl) ?_
  refine zh_callV (pc := 4) (As := [.int x1]) (rest := [.int 0, .ref ao]) (n := 1) (ci := 5) C (c_X4_count l hl G lo t0 h nx a0 x1 o hM) hq rfl q_642 q_643 q_644 q_2 q_645 ⟨rfl, by decide +kernel, by decide +kernel, by decide +kernel⟩ ⟨Nat.le_of_ble_eq_true rfl, Nat.le_of_ble_eq_true rfl⟩ rfl (Nat.le_of_ble_eq_true rfl) dL_count_4 ⟨z_mo_le (Nat.le_of_ble_eq_true rfl) (Nat.le_of_ble_eq_true rfl), z_mo_le (Nat.le_of_ble_eq_true rfl) (Nat.le_of_ble_eq_true rfl)⟩ e1 e2 e3 hls.1 (fun v h1 n1 st1 hoo hst H1 locs1 e1 e2 e3 => ?_) (fun E h1 hoo H1 locs1 q ce z1 e2 e3 hce hcv hcl => ?_)
  · cases o with
    | inl E => cases hoo
    | inr z =>
      cases hoo
      obtain rfl : [.int z.1, .int 0, .ref ao] = st1 := hst
      obtain ⟨f, hf⟩ := hO z rfl
      refine lv_i2l (v := (z.1).toInt64) hx hb dL_count_7 rfl ?_
      refine zh_last C e2 e3 hf vin_0 dL_count_8 (fun H2 locs2 f1 f2 f3 => ?_)
      refine lv_goto (tgt := 15) hx hb dL_count_9 (by decide) ?_
      refine lv_iconst (v := 0) hx hb dL_count_15 (by decide) ?_
      exact zh_ret C (.inl ⟨_, _, _, _, rfl, rfl, rfl, (updL_0 _ _).trans  rfl, f1.trans e1⟩) f2 f3 (z_mo_le (Nat.le_of_ble_eq_true rfl) (Nat.le_of_ble_eq_true rfl)) (z_mo_le (Nat.le_of_ble_eq_true rfl) (Nat.le_of_ble_eq_true rfl)) dL_count_16
  · cases o with
    | inr z => cases hoo
    | inl E0 =>
      cases hoo
      rcases hE E rfl with rfl
      · refine zh_catch (name := sIO) C [] ⟨0, 9, 12, 15⟩ [] rfl (fun z hz => absurd hz List.not_mem_nil) (by decide) (by decide) q_80 zc_IO hce hcv hcl ?_
        refine lv_astore_n (lv' := [(3, .ref q), (0, .ref a0), (1, .int x1), (2, .ref ao)]) hx hb dL_count_12 rfl hls (by decide) rfl (fun ls2 hls2 => ?_)
        refine lv_iconst (v := 1) hx hb dL_count_13 (by decide) ?_
        exact zh_ret C (.inr ⟨_, _, rfl, by decide, rfl, z1⟩) e2 e3 (z_mo_le (Nat.le_of_ble_eq_true rfl) (Nat.le_of_ble_eq_true rfl)) (z_mo_le (Nat.le_of_ble_eq_true rfl) (Nat.le_of_ble_eq_true rfl)) dL_count_14
theorem h_would (l : Launch) (hl : l.stackTraces = false) (G : zG) (lo t0 : Nat) (h : zH) (nx a0 : Nat) (x1 x2 : Int32) (ao : Nat) (o : String ⊕ (Int32 × zH)) (hM : M_X4_would h a0 x1 x2 = some o) (hq : z_ck h a0 5 = some ()) (hE : ∀ E, o = .inl E → E = sIO ∨ E = sIA) (hO : ∀ z, o = .inr z → ∃ f, z.2 ao = some (zL 1 f)) :
    z_HM l yL_would cL_would 5 [(0, 10, 13, 15), (0, 10, 17, 13)] 10 212 G lo t0 [.ref a0, .int x1, .int x2, .ref ao] h nx (hRel h nx ao (z_eo h o (fun z : Int32 × zH => (some (.int z.1), z.2, nx))) vI (fun E => if E = sIO then 1 else 2)) 4 40 := by
  refine zh_of [(0, .ref a0), (1, .int x1), (2, .int x2), (3, .ref ao)] (by decide) (Nat.le_of_ble_eq_true rfl) rfl (fun p e s m below meth c ls C e1 e2 hls => ?_)
  have hx := C.1.1
  have hb := C.1.2.1
  have e3 : va_S (fun z : Nat => lo ≤ z) s.heap s.heap [] := va_S.rf
  refine lv_aload_n hx hb dL_would_0 rfl (lv_at hls 3 rfl) ?_
  refine lv_iconst (v := 0) hx hb dL_would_1 (by decide) ?_
  refine lv_aload_n hx hb dL_would_2 rfl (lv_at hls 0 rfl) ?_
  refine lv_iload_n hx hb dL_would_3 rfl (lv_at hls 1 rfl) ?_
  refine lv_iload_n hx hb dL_would_4 rfl (lv_at hls 2 rfl) ?_
  refine zh_callV (pc := 5) (As := [.int x1, .int x2]) (rest := [.int 0, .ref ao]) (n := 2) (ci := 5) C (c_X4_would l hl G lo t0 h nx a0 x1 x2 o hM) hq rfl q_686 q_687 q_688 q_2 q_689 ⟨rfl, by decide +kernel, by decide +kernel, by decide +kernel⟩ ⟨Nat.le_of_ble_eq_true rfl, Nat.le_of_ble_eq_true rfl⟩ rfl (Nat.le_of_ble_eq_true rfl) dL_would_5 ⟨z_mo_le (Nat.le_of_ble_eq_true rfl) (Nat.le_of_ble_eq_true rfl), z_mo_le (Nat.le_of_ble_eq_true rfl) (Nat.le_of_ble_eq_true rfl)⟩ e1 e2 e3 hls.1 (fun v h1 n1 st1 hoo hst H1 locs1 e1 e2 e3 => ?_) (fun E h1 hoo H1 locs1 q ce z1 e2 e3 hce hcv hcl => ?_)
  · cases o with
    | inl E => cases hoo
    | inr z =>
      cases hoo
      obtain rfl : [.int z.1, .int 0, .ref ao] = st1 := hst
      obtain ⟨f, hf⟩ := hO z rfl
      refine lv_i2l (v := (z.1).toInt64) hx hb dL_would_8 rfl ?_
      refine zh_last C e2 e3 hf vin_0 dL_would_9 (fun H2 locs2 f1 f2 f3 => ?_)
      refine lv_goto (tgt := 21) hx hb dL_would_10 (by decide) ?_
      refine lv_iconst (v := 0) hx hb dL_would_21 (by decide) ?_
      exact zh_ret C (.inl ⟨_, _, _, _, rfl, rfl, rfl, (updL_0 _ _).trans  rfl, f1.trans e1⟩) f2 f3 (z_mo_le (Nat.le_of_ble_eq_true rfl) (Nat.le_of_ble_eq_true rfl)) (z_mo_le (Nat.le_of_ble_eq_true rfl) (Nat.le_of_ble_eq_true rfl)) dL_would_22
  · cases o with
    | inr z => cases hoo
    | inl E0 =>
      cases hoo
      rcases hE E rfl with rfl | rfl
      · refine zh_catch (name := sIO) C [] ⟨0, 10, 13, 15⟩ [⟨0, 10, 17, 13⟩] rfl (fun z hz => absurd hz List.not_mem_nil) (by decide) (by decide) q_80 zc_IO hce hcv hcl ?_
        refine lv_astore (lv' := [(4, .ref q), (0, .ref a0), (1, .int x1), (2, .int x2), (3, .ref ao)]) hx hb dL_would_13 hls (by decide) rfl (fun ls2 hls2 => ?_)
        refine lv_iconst (v := 1) hx hb dL_would_15 (by decide) ?_
        exact zh_ret C (.inr ⟨_, _, rfl, by decide, rfl, z1⟩) e2 e3 (z_mo_le (Nat.le_of_ble_eq_true rfl) (Nat.le_of_ble_eq_true rfl)) (z_mo_le (Nat.le_of_ble_eq_true rfl) (Nat.le_of_ble_eq_true rfl)) dL_would_16
      · refine zh_catch (name := sIA) C [⟨0, 10, 13, 15⟩] ⟨0, 10, 17, 13⟩ [] rfl (fun z hz => by obtain rfl := List.mem_singleton.mp hz; exact ⟨by decide, _, q_80, C.2.2.2.2.2.2.2.2.2.2.2⟩) (by decide) (by decide) q_79 zc_IA hce hcv hcl ?_
        refine lv_astore (lv' := [(4, .ref q), (0, .ref a0), (1, .int x1), (2, .int x2), (3, .ref ao)]) hx hb dL_would_17 hls (by decide) rfl (fun ls2 hls2 => ?_)
        refine lv_iconst (v := 2) hx hb dL_would_19 (by decide) ?_
        exact zh_ret C (.inr ⟨_, _, rfl, by decide, rfl, z1⟩) e2 e3 (z_mo_le (Nat.le_of_ble_eq_true rfl) (Nat.le_of_ble_eq_true rfl)) (z_mo_le (Nat.le_of_ble_eq_true rfl) (Nat.le_of_ble_eq_true rfl)) dL_would_20
theorem h_best (l : Launch) (hl : l.stackTraces = false) (G : zG) (lo t0 : Nat) (h : zH) (nx a0 : Nat) (x1 x2 x3 : Int32) (ao : Nat) (o : String ⊕ (Int32)) (hM : M_X4_best h a0 x1 x2 x3 = some o) (hq : z_ck h a0 5 = some ()) (hE : ∀ E, o = .inl E → E = sIA ∨ E = sIO) (hO : ∀ z, o = .inr z → ∃ f, h ao = some (zL 1 f)) :
    z_HM l yL_best cL_best 6 [(0, 12, 15, 13), (0, 12, 19, 15)] 8 140 G lo t0 [.ref a0, .int x1, .int x2, .int x3, .ref ao] h nx (hRel h nx ao (z_eo h o (fun z : Int32 => (some (.int z), h, nx))) vI (fun E => if E = sIA then 1 else 2)) 4 40 := by
  refine zh_of [(0, .ref a0), (1, .int x1), (2, .int x2), (3, .int x3), (4, .ref ao)] (by decide) (Nat.le_of_ble_eq_true rfl) rfl (fun p e s m below meth c ls C e1 e2 hls => ?_)
  have hx := C.1.1
  have hb := C.1.2.1
  have e3 : va_S (fun z : Nat => lo ≤ z) s.heap s.heap [] := va_S.rf
  refine lv_aload hx hb dL_best_0 (lv_at hls 4 rfl) ?_
  refine lv_iconst (v := 0) hx hb dL_best_2 (by decide) ?_
  refine lv_aload_n hx hb dL_best_3 rfl (lv_at hls 0 rfl) ?_
  refine lv_iload_n hx hb dL_best_4 rfl (lv_at hls 1 rfl) ?_
  refine lv_iload_n hx hb dL_best_5 rfl (lv_at hls 2 rfl) ?_
  refine lv_iload_n hx hb dL_best_6 rfl (lv_at hls 3 rfl) ?_
  refine zh_callV (pc := 7) (As := [.int x1, .int x2, .int x3]) (rest := [.int 0, .ref ao]) (n := 3) (ci := 5) C (c_X4_best l hl G lo t0 h nx a0 x1 x2 x3 o hM) hq rfl q_697 q_698 q_699 q_2 q_700 ⟨rfl, by decide +kernel, by decide +kernel, by decide +kernel⟩ ⟨Nat.le_of_ble_eq_true rfl, Nat.le_of_ble_eq_true rfl⟩ rfl (Nat.le_of_ble_eq_true rfl) dL_best_7 ⟨z_mo_le (Nat.le_of_ble_eq_true rfl) (Nat.le_of_ble_eq_true rfl), z_mo_le (Nat.le_of_ble_eq_true rfl) (Nat.le_of_ble_eq_true rfl)⟩ e1 e2 e3 hls.1 (fun v h1 n1 st1 hoo hst H1 locs1 e1 e2 e3 => ?_) (fun E h1 hoo H1 locs1 q ce z1 e2 e3 hce hcv hcl => ?_)
  · cases o with
    | inl E => cases hoo
    | inr z =>
      cases hoo
      obtain rfl : [.int z, .int 0, .ref ao] = st1 := hst
      obtain ⟨f, hf⟩ := hO z rfl
      refine lv_i2l (v := (z).toInt64) hx hb dL_best_10 rfl ?_
      refine zh_last C e2 e3 hf vin_0 dL_best_11 (fun H2 locs2 f1 f2 f3 => ?_)
      refine lv_goto (tgt := 23) hx hb dL_best_12 (by decide) ?_
      refine lv_iconst (v := 0) hx hb dL_best_23 (by decide) ?_
      exact zh_ret C (.inl ⟨_, _, _, _, rfl, rfl, rfl, (updL_0 _ _).trans  rfl, f1.trans e1⟩) f2 f3 (z_mo_le (Nat.le_of_ble_eq_true rfl) (Nat.le_of_ble_eq_true rfl)) (z_mo_le (Nat.le_of_ble_eq_true rfl) (Nat.le_of_ble_eq_true rfl)) dL_best_24
  · cases o with
    | inr z => cases hoo
    | inl E0 =>
      cases hoo
      rcases hE E rfl with rfl | rfl
      · refine zh_catch (name := sIA) C [] ⟨0, 12, 15, 13⟩ [⟨0, 12, 19, 15⟩] rfl (fun z hz => absurd hz List.not_mem_nil) (by decide) (by decide) q_79 zc_IA hce hcv hcl ?_
        refine lv_astore (lv' := [(5, .ref q), (0, .ref a0), (1, .int x1), (2, .int x2), (3, .int x3), (4, .ref ao)]) hx hb dL_best_15 hls (by decide) rfl (fun ls2 hls2 => ?_)
        refine lv_iconst (v := 1) hx hb dL_best_17 (by decide) ?_
        exact zh_ret C (.inr ⟨_, _, rfl, by decide, rfl, z1⟩) e2 e3 (z_mo_le (Nat.le_of_ble_eq_true rfl) (Nat.le_of_ble_eq_true rfl)) (z_mo_le (Nat.le_of_ble_eq_true rfl) (Nat.le_of_ble_eq_true rfl)) dL_best_18
      · refine zh_catch (name := sIO) C [⟨0, 12, 15, 13⟩] ⟨0, 12, 19, 15⟩ [] rfl (fun z hz => by obtain rfl := List.mem_singleton.mp hz; exact ⟨by decide, _, q_79, C.2.2.2.2.2.2.2.2.1⟩) (by decide) (by decide) q_80 zc_IO hce hcv hcl ?_
        refine lv_astore (lv' := [(5, .ref q), (0, .ref a0), (1, .int x1), (2, .int x2), (3, .int x3), (4, .ref ao)]) hx hb dL_best_19 hls (by decide) rfl (fun ls2 hls2 => ?_)
        refine lv_iconst (v := 2) hx hb dL_best_21 (by decide) ?_
        exact zh_ret C (.inr ⟨_, _, rfl, by decide, rfl, z1⟩) e2 e3 (z_mo_le (Nat.le_of_ble_eq_true rfl) (Nat.le_of_ble_eq_true rfl)) (z_mo_le (Nat.le_of_ble_eq_true rfl) (Nat.le_of_ble_eq_true rfl)) dL_best_22
