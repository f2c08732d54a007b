/-! build, its contract -/
theorem lp_one {a k d n : Nat} (h : a + k * (d + 1) ≤ n) : a + k ≤ n :=
  Nat.le_trans (Nat.add_le_add_left (Nat.le_mul_of_pos_right k (Nat.succ_pos d)) a) h
theorem lp_rest {a k d n : Nat} (h : a + k * (d + 1) ≤ n) : a + k + k * d ≤ n := by
  rw [Nat.mul_succ, Nat.add_comm (k * d) k, ← Nat.add_assoc] at h; exact h
theorem lp_at {a k d n : Nat} (h : a + k * d ≤ n) : a ≤ n := Nat.le_trans (Nat.le_add_right a _) h
set_option maxHeartbeats 4000000 in
theorem c_build (l : Launch) (hl : l.stackTraces = false) (G : zG) {lo t0 b L : Nat} {xs : Nat → Int32} {B : zH} (ht : t0 < lo) (hb : b < lo) (hbt : b ≠ t0) (hB : B t0 = some zE) (hBb : B b = some (zT L xs)) (hL : L ≤ 100000) : z_RB l yL_build cL_build 4 (.object "MarketAwningsLaw$Sim") 11 243 G lo t0 [.ref lo, .ref b] (hX B lo t0) (lo + 11) (fun _ => .ref (lo + 11)) (fun _ h1 n1 => LI 0 12 t0 lo h1 n1) 352 8329 := by
  refine zb_of [(0, .ref lo), (1, .ref b)] (by decide +kernel) (Nat.le_of_ble_eq_true rfl) rfl (fun p e s m below meth c C => ?_)
  have hXb : hX B lo t0 b = some (zT L xs) := by
    unfold hX
    rw [up_ne (by omega), up_ne (by omega), up_ne (by omega), up_ne (by omega), up_ne (by omega), up_ne (by omega), up_ne (by omega), up_ne (by omega), up_ne (by omega), up_ne (by omega), up_ne (by omega)]
    exact hBb
  obtain ⟨H, hM, m0, m1, m2, m3, m4, me⟩ := p_X5init (hX B lo t0) (lo + 11)
  have L0 : LI 0 0 t0 lo H (lo + 39) := start_LI ht hB (fun q hq _ => me q (by omega)) m0 m1 m2 m3 m4
  refine z_getT C hXb hb (fun hXs hbs => ?_)
  refine z_new (pc := 0) C [.null, .null, .null, .int 0, .int 0] (ci := 6) rfl inlX5 tyX5 tyX5_ok q_69 q_70 q_71 (fun j hj => by rcases (show j = 0 ∨ j = 1 ∨ j = 2 ∨ j = 3 ∨ j = 4 by omega) with rfl | rfl | rfl | rfl | rfl <;> rfl) (Nat.le_of_ble_eq_true rfl) (Nat.le_of_ble_eq_true rfl) dL_build_0 ?_
  refine z_dup (pc := 3) C dL_build_3 rfl ?_
  refine z_goN (kc := 28) (ks := 637) ([.ref (lo + 11)]) (z_callIN (pc := 4) (As := []) (rest := [.ref (lo + 11)]) (nn := 0) C (c_X5_init l hl G lo t0 _ (lo + 12) (lo + 11) (H, lo + 11 + 28) hM) rfl C.2.2.2.2.2.2.2.2.2.2.1.1 q_72 q_71 q_73 ⟨by decide +kernel, by decide +kernel, by decide +kernel⟩ ⟨Nat.le_of_ble_eq_true rfl, Nat.le_of_ble_eq_true rfl⟩ rfl (Nat.le_of_ble_eq_true rfl) dL_build_4 ⟨(Nat.le_of_ble_eq_true rfl), (Nat.le_of_ble_eq_true rfl)⟩) rfl (Nat.le_of_ble_eq_true rfl) (Nat.le_of_ble_eq_true rfl) ?_
  refine z_astore_n (lv' := [(2, .ref (lo + 11)), (0, .ref lo), (1, .ref b)]) (pc := 7) C dL_build_7 (by decide) rfl ?_
  refine z_iconst (v := (0 : Int32)) (pc := 8) C dL_build_8 (by decide) ?_
  refine z_istore_n (lv' := [(3, .int (zi ((0 : Nat) : Int))), (2, .ref (lo + 11)), (0, .ref lo), (1, .ref b)]) (pc := 9) C dL_build_9 (by decide) rfl ?_
  have loop : ∀ (d k cells slots : Nat) (h : zH) (nx : Nat), k + d = 12 → cells + 27 * d ≤ 352 → slots + 641 * d ≤ 8329 → LI 0 k t0 lo h nx → z_R p l e (z_rm 11 243 352 8329) s m ([.ref lo, .ref b] : List Value).toArray below meth c G lo 4 cells slots (vx_MQ below (z_qr G lo (fun _ => .ref (lo + 11)) (fun _ h1 n1 => LI 0 12 t0 lo h1 n1)) z_xh ([.ref lo, .ref b] : List Value).toArray s 352 8329 (fun z : Nat => lo ≤ z)) 10 [(3, .int (zi (k : Int))), (2, .ref (lo + 11)), (0, .ref lo), (1, .ref b)] [] h nx := by
    intro d
    induction d with
    | zero =>
      intro k cells slots h nx hk hc hs I
      have hk12 : k = 12 := by omega
      subst hk12
      refine z_iload_n (k := 0) (pc := 10) C dL_build_10 rfl ?_
      refine z_bipush (v := (12 : Int32)) (pc := 11) C dL_build_11 (by decide) ?_
      refine z_icmp_ge_t (pc := 13) (tgt := 62) C dL_build_13 (by decide) (by decide) ?_
      refine z_aload_n (k := 1) (pc := 62) C dL_build_62 rfl ?_
      exact z_rbret (pc := 63) C (.inl ⟨_, rfl⟩) 0 rfl I (by omega) (by omega) dL_build_63
    | succ d ih =>
      intro k cells slots h nx hk hc hs I
      have q12 : ((12 : Int32) ≤ zi (k : Int)) = ((12 : Int) ≤ k) := zi_le (a := 12) (by omega) (by omega) (by omega) (by omega)
      have q4 : ((4 : Int32) ≤ zi (k : Int)) = ((4 : Int) ≤ k) := zi_le (a := 4) (by omega) (by omega) (by omega) (by omega)
      refine z_addT hXs hbs hb ?_
      have I1 := I.below (q := b) (c := zT L xs) hb hbt
      generalize eh : z_up h b (zT L xs) = h9
      rw [eh] at I1
      have hb9 : h9 b = some (zT L xs) := by rw [← eh]; exact up_at ..
      obtain ⟨v, hv⟩ := p_cell hb9 hL (i := k) (by omega)
      refine z_iload_n (k := 0) (pc := 10) C dL_build_10 rfl ?_
      refine z_bipush (v := (12 : Int32)) (pc := 11) C dL_build_11 (by decide) ?_
      refine z_icmp_ge_f (pc := 13) (tgt := 62) C dL_build_13 (by decide) (by rw [q12]; omega) ?_
      refine z_aload_n (k := 2) (pc := 16) C dL_build_16 rfl ?_
      refine z_aload_n (k := 1) (pc := 17) C dL_build_17 rfl ?_
      refine z_iload_n (k := 0) (pc := 18) C dL_build_18 rfl ?_
      refine z_iconst (v := (4 : Int32)) (pc := 19) C dL_build_19 (by decide) ?_
      have hc1 : cells + 27 ≤ (z_rm 11 243 352 8329).cells := lp_one hc
      have hs1 : slots + 641 ≤ (z_rm 11 243 352 8329).slots := lp_one hs
      have hc2 := lp_rest hc
      have hs2 := lp_rest hs
      have hc0 : cells + 0 ≤ (z_rm 11 243 352 8329).cells := lp_at hc
      have hs0 : slots + 0 ≤ (z_rm 11 243 352 8329).slots := lp_at hs
      clear hc hs
      have act : ∀ x : Int32, z_R p l e (z_rm 11 243 352 8329) s m ([.ref lo, .ref b] : List Value).toArray below meth c G lo 4 cells slots (vx_MQ below (z_qr G lo (fun _ => .ref (lo + 11)) (fun _ h1 n1 => LI 0 12 t0 lo h1 n1)) z_xh ([.ref lo, .ref b] : List Value).toArray s 352 8329 (fun z : Nat => lo ≤ z)) 48 [(3, .int (zi (k : Int))), (2, .ref (lo + 11)), (0, .ref lo), (1, .ref b)] [.int x, .ref (lo + 11), .ref lo] h9 nx := by
        intro x
        refine z_callR (pc := 48) (As := [.ref lo, .ref (lo + 11), .int x]) (rest := []) (n := 3) C (c_act l hl G I1 x) q_84 q_85 q_67 q_86 ⟨by decide +kernel, by decide +kernel, by decide +kernel⟩ ⟨Nat.le_of_ble_eq_true rfl, Nat.le_of_ble_eq_true rfl⟩ rfl (Nat.le_of_ble_eq_true rfl) dL_build_48 ⟨hc1, hs1⟩ _ rfl ?_
        rintro v1 h1 n1 ⟨rfl, I2⟩
        refine z_if_ne_t (pc := 51) (tgt := 56) C dL_build_51 (by decide) (by decide) ?_
        refine z_iinc (k := 0) (v := zi ((k + 1 : Nat) : Int)) (lv' := [(3, .int (zi ((k + 1 : Nat) : Int))), (2, .ref (lo + 11)), (0, .ref lo), (1, .ref b)]) (pc := 56) C dL_build_56 rfl (zi_add (k : Int) 1) (by decide) rfl ?_
        refine z_goto (pc := 59) (tgt := 10) C dL_build_59 (by decide) ?_
        exact ih (k + 1) (cells + 27) (slots + 641) h1 n1 (by clear hc2 hs2 hc1 hs1 hc0 hs0; omega) hc2 hs2 I2
      by_cases g : 4 ≤ k
      · refine z_icmp_ge_t (pc := 20) (tgt := 38) C dL_build_20 (by decide) (by rw [q4]; omega) ?_
        refine z_aload_n (k := 3) (pc := 38) C dL_build_38 rfl ?_
        refine z_iload_n (k := 0) (pc := 39) C dL_build_39 rfl ?_
        refine z_goN (kc := cells) (ks := slots) ([.int v, .ref (lo + 11), .ref lo]) (z_callS (pc := 40) (As := [.ref b, .int (zi (k : Int))]) (rest := [.ref (lo + 11), .ref lo]) (n := 2) C (c_L_cell l hl G lo t0 h9 nx b (zi (k : Int)) v hv) q_80 q_81 q_67 q_82 ⟨by decide +kernel, by decide +kernel, by decide +kernel⟩ ⟨Nat.le_of_ble_eq_true rfl, Nat.le_of_ble_eq_true rfl⟩ rfl (Nat.le_of_ble_eq_true rfl) dL_build_40 ⟨hc0, hs0⟩) rfl (Nat.le_refl _) (Nat.le_refl _) ?_
        refine z_bipush (v := (71 : Int32)) (pc := 43) C dL_build_43 (by decide) ?_
        refine z_iload_n (k := 0) (pc := 45) C dL_build_45 rfl ?_
        refine z_imul (pc := 46) C dL_build_46 ?_
        refine z_iadd (pc := 47) C dL_build_47 ?_
        exact act _
      · refine z_icmp_ge_f (pc := 20) (tgt := 38) C dL_build_20 (by decide) (by rw [q4]; omega) ?_
        refine z_bipush (v := (12 : Int32)) (pc := 23) C dL_build_23 (by decide) ?_
        refine z_aload_n (k := 3) (pc := 25) C dL_build_25 rfl ?_
        refine z_iload_n (k := 0) (pc := 26) C dL_build_26 rfl ?_
        refine z_goN (kc := cells) (ks := slots) ([.int v, .int (12 : Int32), .ref (lo + 11), .ref lo]) (z_callS (pc := 27) (As := [.ref b, .int (zi (k : Int))]) (rest := [.int (12 : Int32), .ref (lo + 11), .ref lo]) (n := 2) C (c_L_cell l hl G lo t0 h9 nx b (zi (k : Int)) v hv) q_80 q_81 q_67 q_82 ⟨by decide +kernel, by decide +kernel, by decide +kernel⟩ ⟨Nat.le_of_ble_eq_true rfl, Nat.le_of_ble_eq_true rfl⟩ rfl (Nat.le_of_ble_eq_true rfl) dL_build_27 ⟨hc0, hs0⟩) rfl (Nat.le_refl _) (Nat.le_refl _) ?_
        refine z_iconst (v := (5 : Int32)) (pc := 30) C dL_build_30 (by decide) ?_
        refine z_ishr (pc := 31) C dL_build_31 ?_
        refine z_imul (pc := 32) C dL_build_32 ?_
        refine z_iload_n (k := 0) (pc := 33) C dL_build_33 rfl ?_
        refine z_iadd (pc := 34) C dL_build_34 ?_
        refine z_goto (pc := 35) (tgt := 48) C dL_build_35 (by decide) ?_
        exact act _
  exact loop 12 0 28 637 H (lo + 39) (by omega) (by omega) (by omega) L0
