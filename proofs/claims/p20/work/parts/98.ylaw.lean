/-! the law, from its entry -/
theorem start_bt {s : State} {b t0 L : Nat} {xs : Nat → Int32} {A : Nat → Prop} (hX : va_X b L xs s s.heap) (hT : va_T (.object "java/lang/Object") t0 0 (fun _ => .null) A s s.heap) : b ≠ t0 := by
  intro e
  subst e
  obtain ⟨c1, h1, ⟨-, k1, g1, m1, n1⟩, -⟩ := hX
  obtain ⟨c2, h2, ⟨-, k2, g2, m2, n2⟩, -⟩ := hT
  obtain rfl := Option.some.inj (h1.symm.trans h2)
  obtain rfl := Option.some.inj (g1.symm.trans g2)
  rw [n1] at n2
  cases n2
section LAW
variable {p : Program} {l : Launch} {e : Env} {s : State} {m : MethodId} {below : List Frame} {meth : Method} {c : Code} {G : zG} {lo t0 b L : Nat} {xs : Nat → Int32}
theorem law_ret {cells slots pc : Nat} {lv : List (Nat × Value)} {h : zH} {nx : Nat} (C : z_Cx p l s m #[Value.ref b] meth c cL_law 19 RL ret G lo t0) (hlo : lo = s.heap.size) (hc : cells ≤ 600074) (hs : slots ≤ 7301549) (d : decode cL_law pc = .ok (.ireturn, 1)) : z_R p l e room_1 s m #[Value.ref b] below meth c G lo 19 cells slots (lw_Z below #[Value.ref b] s) pc lv [.int 1] h nx := by
  intro H locs ls e1 e2 e3 e4
  refine W.widen hc hs (va_forget (fun q hq => ?_) ?_)
  · have := e3.2.2 q hq
    show s.heap.size ≤ q.base
    omega
  · exact lw_ret (d0 := s.drawn) (Drawn.sameBut.refl s.drawn lw_cs) C.1.1 C.1.2.1 C.2.1 C.2.2.1 d
abbrev lvL (lo b k : Nat) (x3 : Int32) : List (Nat × Value) := [(4, .int (zi (k : Int))), (3, .int x3), (2, .ref (lo + 11)), (1, .ref lo), (0, .ref b)]
set_option maxHeartbeats 4000000 in
theorem law_loop (hl : l.stackTraces = false) (C : z_Cx p l s m #[Value.ref b] meth c cL_law 19 RL ret G lo t0) (hlo : lo = s.heap.size) (hXs : va_X b L xs s s.heap) (hbs : b < s.heap.size) (hbt : b ≠ t0) (hL : L ≤ 100000) : ∀ (d k cells slots N0 : Nat) (h : zH) (nx : Nat), k + d = 8 → cells + 54 * (d + 1) ≤ 600074 → slots + 1282 * (d + 1) ≤ 7301549 → LI N0 (12 + 2 * k) t0 lo h nx → z_R p l e room_1 s m #[Value.ref b] below meth c G lo 19 cells slots (lw_Z below #[Value.ref b] s) 47 (lvL lo b k (zi (576 * (N0 : Int)))) [] h nx := by
  have hb : b < lo := by rw [hlo]; exact hbs
  intro d
  induction d with
  | zero =>
    intro k cells slots N0 h nx hk hc hs I
    have hk8 : k = 8 := by clear hc hs; omega
    subst hk8
    refine z_iload (k := 0) (pc := 47) C dL_law_47 rfl ?_
    refine z_bipush (v := (8 : Int32)) (pc := 49) C dL_law_49 (by decide) ?_
    refine z_icmp_ge_t (pc := 51) (tgt := 1055) C dL_law_51 (by decide) (by decide) ?_
    refine z_aload_n (k := 2) (pc := 1055) C dL_law_1055 rfl ?_
    refine z_aload_n (k := 3) (pc := 1056) C dL_law_1056 rfl ?_
    obtain ⟨h1, n1, hM⟩ := c_same l hl G I (by omega)
    have hc1 : cells + 28 ≤ 600074 := Nat.le_trans (Nat.add_le_add_left (by decide) _) hc
    have hs1 : slots + 713 ≤ 7301549 := Nat.le_trans (Nat.add_le_add_left (by decide) _) hs
    have k6 : z_ck h (lo + 11) 6 = some () := by
      obtain ⟨Z, N, n, A, D, sn, S, B, G', hr, ro, -, -, ⟨ra, rs, Pa, Ps, s⟩, -⟩ := I
      exact ck_of s.1
    refine z_goN (kc := cells + 28) (ks := slots + 713) ([.int 1]) (z_callV (pc := 1057) (As := [.ref lo]) (rest := []) (n := 1) (ci := 6) C hM k6 rfl q_522 q_523 q_524 q_71 q_525 ⟨rfl, by decide +kernel, by decide +kernel, by decide +kernel⟩ ⟨Nat.le_of_ble_eq_true rfl, Nat.le_of_ble_eq_true rfl⟩ rfl (Nat.le_of_ble_eq_true rfl) dL_law_1057 ⟨Nat.le_trans hc1 (Nat.le_of_ble_eq_true rfl), Nat.le_trans hs1 (Nat.le_of_ble_eq_true rfl)⟩) rfl (Nat.le_refl _) (Nat.le_refl _) ?_
    exact law_ret C hlo hc1 hs1 dL_law_1060
  | succ d ih =>
    intro k cells slots N0 h nx hk hc hs I
    have hc1 : cells + 54 ≤ 600074 := lp_one hc
    have hs1 : slots + 1282 ≤ 7301549 := lp_one hs
    have hc2 : cells + 54 + 54 * (d + 1) ≤ 600074 := lp_rest hc
    have hs2 : slots + 1282 + 1282 * (d + 1) ≤ 7301549 := lp_rest hs
    clear hc hs
    have hk8 : k < 8 := by clear hc1 hs1 hc2 hs2; omega
    have q8 : ((8 : Int32) ≤ zi (k : Int)) = ((8 : Int) ≤ k) := by clear hc1 hs1 hc2 hs2; exact zi_le (a := 8) (by omega) (by omega) (by omega) (by omega)
    have hca : cells + 27 ≤ room_1.cells := Nat.le_trans (Nat.add_le_add_left (by decide) _) (Nat.le_trans hc1 (Nat.le_of_ble_eq_true rfl))
    have hsa : slots + 641 ≤ room_1.slots := Nat.le_trans (Nat.add_le_add_left (by decide) _) (Nat.le_trans hs1 (Nat.le_of_ble_eq_true rfl))
    have hcb : cells + 27 + 27 ≤ room_1.cells := by rw [Nat.add_assoc]; exact Nat.le_trans hc1 (Nat.le_of_ble_eq_true rfl)
    have hsb : slots + 641 + 641 ≤ room_1.slots := by rw [Nat.add_assoc]; exact Nat.le_trans hs1 (Nat.le_of_ble_eq_true rfl)
    have hcz : cells + 0 ≤ room_1.cells := Nat.le_trans (Nat.add_le_add_left (by decide) _) hca
    have hsz : slots + 0 ≤ room_1.slots := Nat.le_trans (Nat.add_le_add_left (by decide) _) hsa
    refine z_addT hXs hbs hb ?_
    have I1 := I.below (q := b) (c := zT L xs) hb hbt
    generalize eh : z_up h b (zT L xs) = h9
    rw [eh] at I1
    have hb9 : h9 b = some (zT L xs) := by rw [← eh]; exact up_at ..
    obtain ⟨v, hv⟩ := p_cell hb9 hL (i := k + 3) (by clear hc1 hs1 hc2 hs2 hca hsa hcb hsb hcz hsz; omega)
    have ev : zi (k : Int) + 3 = zi ((k + 3 : Nat) : Int) := zi_add (k : Int) 3
    rw [← ev] at hv
    refine z_iload (k := 0) (pc := 47) C dL_law_47 rfl ?_
    refine z_bipush (v := (8 : Int32)) (pc := 49) C dL_law_49 (by decide) ?_
    refine z_icmp_ge_f (pc := 51) (tgt := 1055) C dL_law_51 (by decide) (by rw [q8]; clear hc1 hs1 hc2 hs2 hca hsa hcb hsb hcz hsz; omega) ?_
    refine z_aload_n (k := 4) (pc := 54) C dL_law_54 rfl ?_
    refine z_iload (k := 0) (pc := 55) C dL_law_55 rfl ?_
    refine z_iconst (v := (3 : Int32)) (pc := 57) C dL_law_57 (by decide) ?_
    refine z_iadd (pc := 58) C dL_law_58 ?_
    refine z_goN (kc := cells) (ks := slots) ([.int v]) (z_callS (pc := 59) (As := [.ref b, .int (zi (k : Int) + 3)]) (rest := []) (n := 2) C (c_L_cell l hl G lo t0 h9 nx b (zi (k : Int) + 3) v hv) q_80 q_81 q_67 q_82 ⟨by decide +kernel, by decide +kernel, by decide +kernel⟩ ⟨Nat.le_of_ble_eq_true rfl, Nat.le_of_ble_eq_true rfl⟩ rfl (Nat.le_of_ble_eq_true rfl) dL_law_59 ⟨hcz, hsz⟩) rfl (Nat.le_refl _) (Nat.le_refl _) ?_
    refine z_iconst (v := (1 : Int32)) (pc := 62) C dL_law_62 (by decide) ?_
    refine z_ishr (pc := 63) C dL_law_63 ?_
    refine z_bipush (v := (47 : Int32)) (pc := 64) C dL_law_64 (by decide) ?_
    refine z_iload (k := 0) (pc := 66) C dL_law_66 rfl ?_
    refine z_imul (pc := 68) C dL_law_68 ?_
    refine z_iadd (pc := 69) C dL_law_69 ?_
    generalize (v >>> ((1 : Int32) &&& 31) + (47 : Int32) * zi (k : Int)) = x5
    refine z_istore (lv' := (5, .int x5) :: lvL lo b k (zi (576 * (N0 : Int)))) (pc := 70) C dL_law_70 (by decide) rfl ?_
    refine z_aload_n (k := 4) (pc := 72) C dL_law_72 rfl ?_
    refine z_aload_n (k := 3) (pc := 73) C dL_law_73 rfl ?_
    refine z_iload (k := 0) (pc := 74) C dL_law_74 rfl ?_
    refine z_callR (pc := 76) (As := [.ref lo, .ref (lo + 11), .int x5]) (rest := []) (n := 3) C (c_act l hl G I1 x5) q_84 q_85 q_67 q_86 ⟨by decide +kernel, by decide +kernel, by decide +kernel⟩ ⟨Nat.le_of_ble_eq_true rfl, Nat.le_of_ble_eq_true rfl⟩ rfl (Nat.le_of_ble_eq_true rfl) dL_law_76 ⟨hca, hsa⟩ _ rfl ?_
    rintro v1 h1 n1 ⟨rfl, I2⟩
    refine z_if_ne_t (pc := 79) (tgt := 84) C dL_law_79 (by decide) (by decide) ?_
    refine z_sub [5, 4, 3, 2, 1, 0] rfl ?_
    obtain ⟨T0, hM, hk0⟩ := p_turn I2 (by clear hc1 hs1 hc2 hs2 hca hsa hcb hsb hcz hsz; omega) b (zi (k : Int)) x5
    refine w_turn hl (cells := cells + 27) (slots := slots + 641) h1 n1 b lo (lo + 11) (zi (576 * (N0 : Int))) (zi (k : Int)) x5 T0 () C hcb hsb ?_ hM
    intro h2 n2 b0 b1 b2 y3 y4 hT
    obtain ⟨rfl, rfl, rfl, rfl, N1, rfl, I3⟩ := hk0 _ _ _ _ _ _ _ hT
    refine z_sub [4, 3, 2, 1, 0] rfl ?_
    refine z_iinc (k := 0) (v := zi ((k + 1 : Nat) : Int)) (lv' := lvL b1 b0 (k + 1) (zi (576 * (N1 : Int)))) (pc := 1049) C dL_law_1049 rfl (zi_add (k : Int) 1) (by decide) rfl ?_
    refine z_goto (pc := 1052) (tgt := 47) C dL_law_1052 (by decide) ?_
    have r1 : cells + 27 + 27 = cells + 54 := Nat.add_assoc _ _ _
    have r2 : slots + 641 + 641 = slots + 1282 := Nat.add_assoc _ _ _
    rw [r1, r2]
    refine ih (k + 1) (cells + 54) (slots + 1282) N1 h2 n2 (by clear hc1 hs1 hc2 hs2 hca hsa hcb hsb hcz hsz r1 r2; omega) hc2 hs2 ?_
    exact I3.up (by clear hc1 hs1 hc2 hs2 hca hsa hcb hsb hcz hsz r1 r2; omega)
end LAW
