/-! the law: two new objects, then the loop -/
/-- what stands before -/
def h0B (t0 b L : Nat) (xs : Nat → Int32) : zH := fun q => if q = t0 then some zE else if q = b then some (zT L xs) else none
set_option maxHeartbeats 4000000 in
theorem whole_start {p : Program} {e : Env} {s : State} {m : MethodId} {below : List Frame} {meth : Method} {c : Code} (l : Launch) (hflags : l.flags = flags0) {b L : Nat} {xs : Nat → Int32} (hL : L ≤ 260) (C0 : lw_At p s m meth c b L xs) : W p l e room_1 s m #[Value.ref b] below meth c s.heap [] 0 0 (lw_Z below #[Value.ref b] s) (entryFrame m ([Value.ref b] : List Value).toArray 19) := by
  obtain ⟨hx, hb, hr, hml, hown, hts, hXs, hbl, hlocks, hgv, htab⟩ := id C0
  have hg : ∀ w ∈ flatC (Jvm.Cond.and given_1 narrow_1), w.before #[Value.ref b] s = true := flat_of_before _ hgv
  have hl : l.stackTraces = false := start_flags hflags
  obtain ⟨G, hK⟩ := start_K hts
  obtain ⟨t0, hZs, hT0⟩ := start_Z hts hg
  have ht0 : t0 < s.heap.size := Nat.not_le.mp hT0.out
  have hbt : b ≠ t0 := start_bt hXs hT0
  have hT := start_T hts hg
  have C : z_Cx p l s m #[Value.ref b] meth c cL_law 19 RL ret G s.heap.size t0 := ⟨⟨hx, hb, hml, hown, fun w hw => hts w (wsL_law_in w hw)⟩, hr, hlocks, .inl rfl, Nat.le_refl _, hK, hZs, hT⟩
  have hlv := lv_entry ([.ref b]) (n := 19) (Nat.le_of_ble_eq_true rfl)
  rw [lg_entry_eq]
  have hp0 : z_hp G s.heap.size s (h0B t0 b L xs) s.heap := by
    intro q cq hq
    unfold h0B at hq
    by_cases h : q = t0
    · rw [if_pos h] at hq
      cases hq
      subst h
      refine ⟨fun e he => (by cases he), fun w hw => ?_⟩
      cases hw
      exact hT0
    · rw [if_neg h] at hq
      by_cases h2 : q = b
      · rw [if_pos h2] at hq
        cases hq
        subst h2
        refine ⟨fun e he => (by cases he), fun w hw => ?_⟩
        cases hw
        exact ⟨hXs, hbl, Nat.not_le.mpr hbl⟩
      · rw [if_neg h2] at hq; cases hq
  have hB0 : h0B t0 b L xs t0 = some zE := if_pos rfl
  have hBb : h0B t0 b L xs b = some (zT L xs) := by
    unfold h0B
    rw [if_neg hbt, if_pos rfl]
  generalize hlo : s.heap.size = lo at *
  have walk : z_R p l e room_1 s m #[Value.ref b] below meth c G lo 19 0 0 (lw_Z below #[Value.ref b] s) 0 [(0, .ref b)] [] (h0B t0 b L xs) lo := by
    refine z_new (pc := 0) C [.null, .null, .null, .null, .int 0, .int 0, .int 0] (ci := 5) rfl inlX4 tyX4 tyX4_ok q_0 q_1 q_2 (fun j hj => by rcases (show j = 0 ∨ j = 1 ∨ j = 2 ∨ j = 3 ∨ j = 4 ∨ j = 5 ∨ j = 6 by omega) with rfl | rfl | rfl | rfl | rfl | rfl | rfl <;> rfl) (Nat.le_of_ble_eq_true rfl) (Nat.le_of_ble_eq_true rfl) dL_law_0 ?_
    refine z_dup (pc := 3) C dL_law_3 rfl ?_
    refine z_goN (kc := 11) (ks := 2913) ([.ref lo]) (z_callI (pc := 4) (As := []) (rest := [.ref lo]) (n := 0) C (c_X4_init l hl G lo t0 _ (lo + 1) lo _ (p_X4init (h0B t0 b L xs) lo t0)) rfl q_7 q_8 q_2 q_9 ⟨by decide +kernel, by decide +kernel, by decide +kernel⟩ ⟨Nat.le_of_ble_eq_true rfl, Nat.le_of_ble_eq_true rfl⟩ rfl (Nat.le_of_ble_eq_true rfl) dL_law_4 ⟨(Nat.le_of_ble_eq_true rfl), (Nat.le_of_ble_eq_true rfl)⟩) rfl (Nat.le_of_ble_eq_true rfl) (Nat.le_of_ble_eq_true rfl) ?_
    refine z_astore_n (lv' := [(1, .ref lo), (0, .ref b)]) (pc := 7) C dL_law_7 (by decide) rfl ?_
    refine z_aload_n (k := 0) (pc := 8) C dL_law_8 rfl ?_
    refine z_aload_n (k := 1) (pc := 9) C dL_law_9 rfl ?_
    refine z_callB (pc := 10) (As := [.ref lo, .ref b]) (rest := []) (n := 2) C (c_build l hl G ht0 hbl hbt hB0 hBb (by omega)) q_65 q_66 q_67 q_68 ⟨by decide +kernel, by decide +kernel, by decide +kernel⟩ ⟨Nat.le_of_ble_eq_true rfl, Nat.le_of_ble_eq_true rfl⟩ rfl (Nat.le_of_ble_eq_true rfl) dL_law_10 ⟨Nat.le_of_ble_eq_true rfl, Nat.le_of_ble_eq_true rfl⟩ _ rfl ?_
    intro v9 h1 n1 I
    refine z_astore_n (lv' := [(2, .ref (lo + 11)), (1, .ref lo), (0, .ref b)]) (pc := 13) C dL_law_13 (by decide) rfl ?_
    refine z_aload_n (k := 0) (pc := 14) C dL_law_14 rfl ?_
    refine z_ifnn (pc := 15) (tgt := 20) C dL_law_15 (by decide) ?_
    obtain ⟨Z, N, n, A, D, sn, S, B, G', hr', ro, ⟨hN0, hN, hm⟩, J⟩ := id I
    have k8 : M_X4_count h1 lo 8 = some (.inr (zi (tot fun x y => (G' x y).toInt), h1)) := c_count_h J.1 (w := 8) (by omega) (by omega)
    have k9 : M_X4_count h1 lo 9 = some (.inr (ro, h1)) := c_count_h J.1 (w := 9) (by omega) (by omega)
    have all := PG_all J.2.2
    have go := (PG_go (N := N) (d := 0) (by omega)).2
    refine z_aload_n (k := 1) (pc := 20) C dL_law_20 rfl ?_
    refine z_bipush (v := (8 : Int32)) (pc := 21) C dL_law_21 (by decide) ?_
    refine z_goN (kc := 363) (ks := 11242) ([.int (zi (tot fun x y => (G' x y).toInt))]) (z_callV (pc := 23) (As := [.int (8 : Int32)]) (rest := []) (n := 1) (ci := 5) C (c_X4_count l hl G lo t0 h1 n1 lo (8 : Int32) _ k8) J.1.x5 rfl q_403 q_404 q_405 q_2 q_406 ⟨rfl, by decide +kernel, by decide +kernel, by decide +kernel⟩ ⟨Nat.le_of_ble_eq_true rfl, Nat.le_of_ble_eq_true rfl⟩ rfl (Nat.le_of_ble_eq_true rfl) dL_law_23 ⟨Nat.le_of_ble_eq_true rfl, Nat.le_of_ble_eq_true rfl⟩) rfl (Nat.le_of_ble_eq_true rfl) (Nat.le_of_ble_eq_true rfl) ?_
    refine z_aload_n (k := 1) (pc := 26) C dL_law_26 rfl ?_
    refine z_bipush (v := (9 : Int32)) (pc := 27) C dL_law_27 (by decide) ?_
    refine z_goN (kc := 363) (ks := 11242) ([.int ro, .int (zi (tot fun x y => (G' x y).toInt))]) (z_callV (pc := 29) (As := [.int (9 : Int32)]) (rest := [.int (zi (tot fun x y => (G' x y).toInt))]) (n := 1) (ci := 5) C (c_X4_count l hl G lo t0 h1 n1 lo (9 : Int32) _ k9) J.1.x5 rfl q_403 q_404 q_405 q_2 q_406 ⟨rfl, by decide +kernel, by decide +kernel, by decide +kernel⟩ ⟨Nat.le_of_ble_eq_true rfl, Nat.le_of_ble_eq_true rfl⟩ rfl (Nat.le_of_ble_eq_true rfl) dL_law_29 ⟨Nat.le_of_ble_eq_true rfl, Nat.le_of_ble_eq_true rfl⟩) rfl (Nat.le_of_ble_eq_true rfl) (Nat.le_of_ble_eq_true rfl) ?_
    refine z_iadd (pc := 32) C dL_law_32 ?_
    rw [all]
    refine z_istore_n (lv' := [(3, .int (zi (576 * (N : Int)))), (2, .ref (lo + 11)), (1, .ref lo), (0, .ref b)]) (pc := 33) C dL_law_33 (by decide) rfl ?_
    refine z_iload_n (k := 0) (pc := 34) C dL_law_34 rfl ?_
    refine z_sipush (v := (576 : Int32)) (pc := 35) C dL_law_35 (by decide) ?_
    refine z_irem (pc := 38) C dL_law_38 (by decide) ?_
    refine z_if_eq_t (pc := 39) (tgt := 44) C dL_law_39 (by decide) go ?_
    refine z_iconst (v := (0 : Int32)) (pc := 44) C dL_law_44 (by decide) ?_
    refine z_istore (lv' := lvL lo b 0 (zi (576 * (N : Int)))) (pc := 45) C dL_law_45 (by decide) rfl ?_
    exact law_loop hl C hlo.symm hXs (by rw [hlo]; exact hbl) hbt (by omega) 8 0 363 11242 N h1 n1 (by omega) (Nat.le_of_ble_eq_true rfl) (Nat.le_of_ble_eq_true rfl) ⟨Z, N, n, A, D, sn, S, B, G', hr', ro, ⟨Nat.le_refl _, hN, hm⟩, J⟩
  exact walk _ [] _ hlo hp0 (va_S.rf) hlv
