/-! the law's loop (laid by gen_loop.py) -/
theorem lp_one {a k d n : Nat} (h : a + k * (d + 1) ≤ n) : a + k ≤ n :=
  Nat.le_trans (Nat.add_le_add_left (Nat.le_mul_of_pos_right k (Nat.succ_pos d)) a) h
theorem lp_rest {a k d n : Nat} (h : a + k * (d + 1) ≤ n) : a + k + k * d ≤ n := by
  rw [Nat.mul_succ, Nat.add_comm (k * d) k, ← Nat.add_assoc] at h; exact h
theorem lp_at {a k d n : Nat} (h : a + k * d ≤ n) : a ≤ n := Nat.le_trans (Nat.le_add_right a _) h
section LOOP
variable {p : Program} {l : Launch} {e : Env} {s : State} {m : MethodId} {below : List Frame} {meth : Method} {c : Code} {G : zG} {lo t0 b L : Nat} {xs : Nat → Int32} {d0 : Drawn} {h : zH} {nx : Nat}
theorem law_ret {cells slots pc : Nat} {lv : List (Nat × Value)} (X : LCx p l s m meth c G lo t0 b L xs) (hd0 : s.drawn.sameBut d0 lw_cs) (hc : cells ≤ 601024) (hs : slots ≤ 7293034) (d : decode cL_law pc = .ok (.ireturn, 1)) : LW p l e s m below meth c G lo b d0 cells slots pc lv [.int 1] h nx := by
  obtain ⟨C0, -, -, -, hlo, -⟩ := X
  intro H locs ls e1 e2 e3 e4
  refine W.widen hc hs (va_forget (fun q hq => ?_) ?_)
  · have := e3.2.2 q hq
    show s.heap.size ≤ q.base
    omega
  · exact lw_ret hd0 C0.1.1 C0.1.2.1 C0.2.1 C0.2.2.1 d
set_option maxHeartbeats 4000000 in
theorem law_loop (X : LCx p l s m meth c G lo t0 b L xs) : ∀ (d k cells slots : Nat) (d0 : Drawn) (h : zH) (nx : Nat), L < 7 * k + 7 * (d + 1) → cells + 100 * d ≤ 601024 → slots + 1000 * d ≤ 7293034 → 7 * k ≤ L + 7 → s.drawn.sameBut d0 lw_cs → LI t0 lo h nx → LW p l e s m below meth c G lo b d0 cells slots 23 (lv5 lo b (7 * k)) [] h nx := by
  obtain ⟨C0, hN0, hX0, hbl, hlo, hL, hl⟩ := id X
  have hb : b < lo := by omega
  have head : ∀ (k cells slots : Nat) (d0 : Drawn) (h : zH) (nx : Nat), 7 * k ≤ L + 7 → (L < 7 * k + 7 → LW p l e s m below meth c G lo b d0 cells slots 1195 (lv5 lo b (7 * k)) [] h nx) → (7 * k + 7 ≤ L → LW p l e s m below meth c G lo b d0 cells slots 33 (lv5 lo b (7 * k)) [] h nx) → LW p l e s m below meth c G lo b d0 cells slots 23 (lv5 lo b (7 * k)) [] h nx := by
    intro k cells slots d0 h nx hk k1 k2
    have C := C0.dr d0
    have hX : va_X b L xs (s.setDrawn d0) (s.setDrawn d0).heap := va_X.moved (u := s) (U := s.setDrawn d0) (Vm.Alike.refl s.vm) hX0
    have hbl2 : b < (s.setDrawn d0).heap.size := hbl
    refine z_iload (k := 0) (pc := 23) C dL_law_23 rfl ?_
    refine z_aload_n (k := 4) (pc := 25) C dL_law_25 rfl ?_
    refine z_slen (pc := 26) C hX hbl2 hb dL_law_26 ?_
    refine z_bipush (v := 7) (pc := 27) C dL_law_27 (by decide) ?_
    refine z_isub (pc := 29) C dL_law_29 ?_
    have e1 : zi (L : Int) - 7 = zi ((L : Int) - 7) := by rw [n_7, zi_sub]
    rw [e1]
    by_cases g : L < 7 * k + 7
    · refine z_icmp_gt_t (pc := 30) (tgt := 1195) C dL_law_30 (by decide) ?_ (k1 g)
      rw [zi_lt (by omega) (by omega) (by omega) (by omega)]; omega
    · refine z_icmp_gt_f (pc := 30) (tgt := 1195) C dL_law_30 (by decide) ?_ (k2 (by omega))
      rw [zi_lt (by omega) (by omega) (by omega) (by omega)]; omega
  have exit : ∀ (k cells slots : Nat) (d0 : Drawn) (h : zH) (nx : Nat), cells ≤ 601024 → slots ≤ 7293034 → s.drawn.sameBut d0 lw_cs → LW p l e s m below meth c G lo b d0 cells slots 1195 (lv5 lo b (7 * k)) [] h nx := by
    intro k cells slots d0 h nx hc hs hd0
    refine z_iconst (v := 1) (pc := 1195) (C0.dr d0) dL_law_1195 (by decide) ?_
    exact law_ret X hd0 hc hs dL_law_1196
  intro d
  induction d with
  | zero =>
    intro k cells slots d0 h nx q1 q2 q3 q4 hd0 I
    exact head k cells slots d0 h nx q4 (fun _ => exit k cells slots d0 h nx (lp_at q2) (lp_at q3) hd0) (fun g => absurd q1 (by omega))
  | succ d ih =>
    intro k cells slots d0 h nx q1 q2 q3 q4 hd0 I
    refine head k cells slots d0 h nx q4 (fun _ => exit k cells slots d0 h nx (lp_at q2) (lp_at q3) hd0) (fun hi => ?_)
    have C := C0.dr d0
    have hX : va_X b L xs (s.setDrawn d0) (s.setDrawn d0).heap := va_X.moved (u := s) (U := s.setDrawn d0) (Vm.Alike.refl s.vm) hX0
    have hbl2 : b < (s.setDrawn d0).heap.size := hbl
    have hc' : cells + 100 ≤ 601024 := lp_one q2
    have hs' : slots + 1000 ≤ 7293034 := lp_one q3
    have hc : cells + 100 ≤ room_1.cells := Nat.le_trans hc' (Nat.le_of_ble_eq_true rfl)
    have hs : slots + 1000 ≤ room_1.slots := Nat.le_trans hs' (Nat.le_of_ble_eq_true rfl)
    have hi2 : 7 * k < L := by clear hc hs hc' hs' q2 q3; omega
    have K : LK p l e s m below meth c G lo t0 b (7 * k) cells slots := by
      intro d1 h1 n1 hd1 I1
      clear hc hs
      refine z_iinc (k := 0) (v := zi (7 * (k + 1) : Nat)) (lv' := lv5 lo b (7 * (k + 1))) (pc := 1189) (C0.dr d1) dL_law_1189 rfl (zi_add ((7 * k : Nat) : Int) 7) (by decide) rfl ?_
      refine z_goto (pc := 1192) (tgt := 23) (C0.dr d1) dL_law_1192 (by decide) ?_
      exact ih (k + 1) (cells + 100) (slots + 1000) d1 h1 n1 (by clear hc' hs' q2 q3; omega) (lp_rest q2) (lp_rest q3) (by clear hc' hs' q2 q3; omega) hd1 I1
    refine z_aload_n (k := 4) (pc := 33) C dL_law_33 rfl ?_
    refine z_iload (k := 0) (pc := 34) C dL_law_34 rfl ?_
    refine z_sld (j := 7 * k) (pc := 36) C hX hbl2 hb hi2 hL dL_law_36 ?_
    refine z_bipush (v := 31) (pc := 37) C dL_law_37 (by decide) ?_
    refine z_iand (pc := 39) C dL_law_39 ?_
    generalize xs (7 * k) &&& 31 = w
    by_cases h0 : w.toInt = 0
    · refine z_tableIn (pc := 40) (tgt := 124) (off := 84) C dL_law_40 (by rw [h0]; decide) (by rw [h0]; decide) (by rw [h0]; rfl) (by decide) ?_
      exact law_hang X hd0 I hi hc hs K
    by_cases h1 : w.toInt = 1
    · refine z_tableIn (pc := 40) (tgt := 242) (off := 202) C dL_law_40 (by rw [h1]; decide) (by rw [h1]; decide) (by rw [h1]; rfl) (by decide) ?_
      exact law_roll X hd0 I hi hc hs K
    by_cases h2 : w.toInt = 2
    · refine z_tableIn (pc := 40) (tgt := 305) (off := 265) C dL_law_40 (by rw [h2]; decide) (by rw [h2]; decide) (by rw [h2]; rfl) (by decide) ?_
      exact law_move X hd0 I hi hc hs K
    by_cases h3 : w.toInt = 3
    · refine z_tableIn (pc := 40) (tgt := 385) (off := 345) C dL_law_40 (by rw [h3]; decide) (by rw [h3]; decide) (by rw [h3]; rfl) (by decide) ?_
      exact law_take X hd0 I hi hc hs K
    by_cases h4 : w.toInt = 4
    · refine z_tableIn (pc := 40) (tgt := 441) (off := 401) C dL_law_40 (by rw [h4]; decide) (by rw [h4]; decide) (by rw [h4]; rfl) (by decide) ?_
      exact law_stall X hd0 I hi hc hs K
    by_cases h5 : w.toInt = 5
    · refine z_tableIn (pc := 40) (tgt := 509) (off := 469) C dL_law_40 (by rw [h5]; decide) (by rw [h5]; decide) (by rw [h5]; rfl) (by decide) ?_
      exact law_rain X hd0 I hi hc hs K
    by_cases h6 : w.toInt = 6
    · refine z_tableIn (pc := 40) (tgt := 565) (off := 525) C dL_law_40 (by rw [h6]; decide) (by rw [h6]; decide) (by rw [h6]; rfl) (by decide) ?_
      exact law_about X hd0 I hi hc hs K
    by_cases h7 : w.toInt = 7
    · refine z_tableIn (pc := 40) (tgt := 633) (off := 593) C dL_law_40 (by rw [h7]; decide) (by rw [h7]; decide) (by rw [h7]; rfl) (by decide) ?_
      exact law_cell X hd0 I hi hc hs K
    by_cases h8 : w.toInt = 8
    · refine z_tableIn (pc := 40) (tgt := 713) (off := 673) C dL_law_40 (by rw [h8]; decide) (by rw [h8]; decide) (by rw [h8]; rfl) (by decide) ?_
      exact law_cord X hd0 I hi hc hs K
    by_cases h9 : w.toInt = 9
    · refine z_tableIn (pc := 40) (tgt := 781) (off := 741) C dL_law_40 (by rw [h9]; decide) (by rw [h9]; decide) (by rw [h9]; rfl) (by decide) ?_
      exact law_told X hd0 I hi hc hs K
    by_cases h10 : w.toInt = 10
    · refine z_tableIn (pc := 40) (tgt := 849) (off := 809) C dL_law_40 (by rw [h10]; decide) (by rw [h10]; decide) (by rw [h10]; rfl) (by decide) ?_
      exact law_share X hd0 I hi hc hs K
    by_cases h11 : w.toInt = 11
    · refine z_tableIn (pc := 40) (tgt := 917) (off := 877) C dL_law_40 (by rw [h11]; decide) (by rw [h11]; decide) (by rw [h11]; rfl) (by decide) ?_
      exact law_count X hd0 I hi hc hs K
    by_cases h12 : w.toInt = 12
    · refine z_tableIn (pc := 40) (tgt := 973) (off := 933) C dL_law_40 (by rw [h12]; decide) (by rw [h12]; decide) (by rw [h12]; rfl) (by decide) ?_
      exact law_would X hd0 I hi hc hs K
    by_cases h13 : w.toInt = 13
    · refine z_tableIn (pc := 40) (tgt := 1041) (off := 1001) C dL_law_40 (by rw [h13]; decide) (by rw [h13]; decide) (by rw [h13]; rfl) (by decide) ?_
      exact law_best X hd0 I hi hc hs K
    by_cases h14 : w.toInt = 14
    · refine z_tableIn (pc := 40) (tgt := 1121) (off := 1081) C dL_law_40 (by rw [h14]; decide) (by rw [h14]; decide) (by rw [h14]; rfl) (by decide) ?_
      exact law_advise X hd0 I hi hc hs K
    by_cases h15 : w.toInt = 15
    · refine z_tableIn (pc := 40) (tgt := 1134) (off := 1094) C dL_law_40 (by rw [h15]; decide) (by rw [h15]; decide) (by rw [h15]; rfl) (by decide) ?_
      exact law_mean X hd0 I hi hc hs K
    by_cases h16 : w.toInt = 16
    · refine z_tableIn (pc := 40) (tgt := 1175) (off := 1135) C dL_law_40 (by rw [h16]; decide) (by rw [h16]; decide) (by rw [h16]; rfl) (by decide) ?_
      exact law_digest X hd0 I hi hc hs K
    refine z_tableD (pc := 40) (tgt := 1189) C dL_law_40 (fun q a1 a2 a3 => ?_) (by decide) ?_
    · exfalso
      clear hc hs hc' hs' q2 q3
      omega
    · exact z_wide (kc := cells + 100) (ks := slots + 1000) (Nat.le_add_right _ _) (Nat.le_add_right _ _) (K d0 h nx hd0 I)
end LOOP
-- the law, from its entry
set_option maxHeartbeats 4000000 in
theorem whole_start {p : Program} {e : Env} {s : State} {m : MethodId} {below : List Frame} {meth : Method} {c : Code} (l : Launch) (hflags : l.flags = flags0) {b L : Nat} {xs : Nat → Int32} (hL : L ≤ 3584) (C0 : lw_At p s m meth c b L xs) : W p l e room_1 s m #[Value.ref b] below meth c s.heap [] 0 0 (lw_Z below #[Value.ref b] s) (entryFrame m ([Value.ref b] : List Value).toArray 9) := by
  obtain ⟨hx, hb, hr, hml, hown, hts, hXs, hbl, hlocks, hgv, htab⟩ := id C0
  have hg : ∀ w ∈ flatC (Jvm.Cond.and given_1 narrow_1), w.before #[Value.ref b] s = true := flat_of_before _ hgv
  have hl : l.stackTraces = false := start_flags hflags
  obtain ⟨G, hK⟩ := start_K hts
  obtain ⟨t0, hZs, hT0⟩ := start_Z hts hg
  have ht0 : t0 < s.heap.size := Nat.not_le.mp hT0.out
  have hT := start_T hts hg
  have hN := start_N hg
  have C : z_Cx p l s m #[Value.ref b] meth c cL_law 9 RL ret G s.heap.size t0 := ⟨⟨hx, hb, hml, hown, fun w hw => hts w (wsL_law_in w hw)⟩, hr, hlocks, htab, Nat.le_refl _, hK, hZs, hT⟩
  have X : LCx p l s m meth c G s.heap.size t0 b L xs := ⟨C, hN, hXs, hbl, rfl, hL, hl⟩
  have hd0 := Drawn.sameBut.refl s.drawn lw_cs
  refine W.base ?_
  have C1 := C.dr s.drawn
  have hlv := lv_entry ([.ref b]) (n := 9) (Nat.le_of_ble_eq_true rfl)
  rw [lg_entry_eq]
  have hp0 : z_hp G s.heap.size (s.setDrawn s.drawn) (h0S t0) s.heap := by
    intro q c hq
    unfold h0S at hq
    by_cases h : q = t0
    · rw [if_pos h] at hq
      cases hq
      subst h
      exact ⟨fun e he => (by cases he), fun _ => hT0⟩
    · rw [if_neg h] at hq; cases hq
  generalize hlo : s.heap.size = lo at *
  have walk : LW p l e s m below meth c G lo b s.drawn 0 0 0 [(0, .ref b)] [] (h0S t0) lo := by
    refine z_new (pc := 0) C1 [.null, .null, .null, .null, .int 0, .int 0, .int 0] (ci := 5) rfl inlX4 tyX4 tyX4_ok q_0 q_1 q_2 (fun j hj => by rcases (show j = 0 ∨ j = 1 ∨ j = 2 ∨ j = 3 ∨ j = 4 ∨ j = 5 ∨ j = 6 by omega) with rfl | rfl | rfl | rfl | rfl | rfl | rfl <;> rfl) (Nat.le_of_ble_eq_true rfl) (Nat.le_of_ble_eq_true rfl) dL_law_0 ?_
    refine z_dup (pc := 3) C1 dL_law_3 rfl ?_
    refine z_goN (kc := 11) (ks := 2913) ([.ref lo]) (z_callI (pc := 4) (As := []) (rest := [.ref lo]) (n := 0) C1 (c_X4_init l hl G lo t0 _ (lo + 1) lo _ (p_X4init (h0S t0) lo t0)) rfl q_7 q_8 q_2 q_9 ⟨by decide +kernel, by decide +kernel, by decide +kernel⟩ ⟨Nat.le_of_ble_eq_true rfl, Nat.le_of_ble_eq_true rfl⟩ rfl (Nat.le_of_ble_eq_true rfl) dL_law_4 ⟨(Nat.le_of_ble_eq_true rfl), (Nat.le_of_ble_eq_true rfl)⟩) rfl (Nat.le_of_ble_eq_true rfl) (Nat.le_of_ble_eq_true rfl) ?_
    refine z_astore_n (lv' := [(1, .ref lo), (0, .ref b)]) (pc := 7) C1 dL_law_7 (by decide) rfl ?_
    refine z_new (pc := 8) C1 [.int 0, .int 0, .null, .int 0, .null, .null, .null, .int 0, .int 0, .null, .null] (ci := 6) rfl inlX5 tyX5 tyX5_ok q_3 q_4 q_5 (fun j hj => by rcases (show j = 0 ∨ j = 1 ∨ j = 2 ∨ j = 3 ∨ j = 4 ∨ j = 5 ∨ j = 6 ∨ j = 7 ∨ j = 8 ∨ j = 9 ∨ j = 10 by omega) with rfl | rfl | rfl | rfl | rfl | rfl | rfl | rfl | rfl | rfl | rfl <;> rfl) (Nat.le_of_ble_eq_true rfl) (Nat.le_of_ble_eq_true rfl) dL_law_8 ?_
    refine z_dup (pc := 11) C1 dL_law_11 rfl ?_
    refine z_goN (kc := 18) (ks := 4182) ([.ref (lo + 11)]) (z_callI (pc := 12) (As := []) (rest := [.ref (lo + 11)]) (n := 0) C1 (c_X5_init l hl G lo t0 _ (lo + 11 + 1) (lo + 11) _ (p_X5init (hX (h0S t0) lo t0) (lo + 11))) rfl q_65 q_66 q_5 q_67 ⟨by decide +kernel, by decide +kernel, by decide +kernel⟩ ⟨Nat.le_of_ble_eq_true rfl, Nat.le_of_ble_eq_true rfl⟩ rfl (Nat.le_of_ble_eq_true rfl) dL_law_12 ⟨(Nat.le_of_ble_eq_true rfl), (Nat.le_of_ble_eq_true rfl)⟩) rfl (Nat.le_of_ble_eq_true rfl) (Nat.le_of_ble_eq_true rfl) ?_
    refine z_astore_n (lv' := [(2, .ref (lo + 11)), (1, .ref lo), (0, .ref b)]) (pc := 15) C1 dL_law_15 (by decide) rfl ?_
    refine z_iconst (v := 1) (pc := 16) C1 dL_law_16 (by decide) ?_
    refine z_newL (n' := 1) (pc := 17) C1 q_6 (by decide) (by decide) (by decide) (Nat.le_of_ble_eq_true rfl) (Nat.le_of_ble_eq_true rfl) dL_law_17 ?_
    refine z_astore_n (lv' := [(3, .ref (lo + 18)), (2, .ref (lo + 11)), (1, .ref lo), (0, .ref b)]) (pc := 19) C1 dL_law_19 (by decide) rfl ?_
    refine z_iconst (v := 0) (pc := 20) C1 dL_law_20 (by decide) ?_
    refine z_istore (lv' := lv5 lo b (7 * 0)) (pc := 21) C1 dL_law_21 (by decide) rfl ?_
    exact law_loop X 512 0 19 4183 s.drawn (hZ lo t0) (lo + 19) (by omega) (by omega) (by omega) (by omega) hd0 ⟨0, 0, A0S, fun _ => 0, 0, A0S, fun _ => 0, fun _ _ => 0, 0, 0, start_IC ht0, start_IM, fun _ => 0, up_at ..⟩
  exact walk _ [] _ hlo hp0 (va_S.rf) hlv
