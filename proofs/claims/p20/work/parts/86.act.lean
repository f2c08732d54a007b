/-! ACT, pure -/
/-- what is known where the stall is asked for -/
def hkA (T0 : zH → Nat → Nat → Nat → Int32 → Int32 → Int32 → Option (Int32 × zH × Nat)) (o : Int32 × zH × Nat) (t0 lo : Nat) : Prop :=
  ∀ h1 n1 b0 b1 y5 y6 y7, T0 h1 n1 b0 b1 y5 y6 y7 = some o → b0 = lo ∧ b1 = lo + 11 ∧ z_ck h1 lo 5 = some () ∧ o.1 = 1 ∧
    ((∃ (h2 : zH) (n2 k rs : Nat), k < 8 ∧ M_X4_stall h1 n1 t0 lo y5 y6 = some (.inr (zi (k : Int), h2, n2)) ∧ y7 = 1 ∧ z_gR h2 (lo + 11) 6 1 = some rs ∧ z_al h2 rs = some (zi ((k + 1 : Nat) : Int)) ∧ o = (1, h2, n2)) ∨
      (M_X4_stall h1 n1 t0 lo y5 y6 = some (.inl sIS) ∧ y7 = 0 ∧ o = (1, h1, n1)))
theorem hkA_none {o : Int32 × zH × Nat} {t0 lo : Nat} : hkA (fun _ _ _ _ _ _ _ => none) o t0 lo := fun _ _ _ _ _ _ _ h => by cases h
section ACT
variable {Z : Nat → Prop} {N0 T N t0 lo : Nat} {h : zH} {nx n : Nat} {A : Nat → Nat → Int} {D : Nat → Int32} {sn : Nat} {S : Nat → Nat → Int} {B : Nat → Int32} {G : Nat → Nat → Int32} {hr ro : Int32}
theorem sI8 {h : zH} {nx m k : Nat} {f : Nat → Int32} {v : Int32} (hm : m ≤ 100) (hk : k < m) : z_sI (z_up h nx (cA m f)) nx (zi (k : Int)) v = some (z_up h nx (cA m fun p => if p = k then v else f p)) := by
  rw [csI_of (up_at ..) (by omega) (by omega) (by omega), Int.toNat_natCast, up_up]
theorem hs_z (b : Bool) : (zi (b1 b) &&& (1 : Int32)) = zi (b1 b) := by cases b <;> decide
theorem hs_0 (b : Bool) : (zi (b1 b) &&& (0 : Int32)) = zi (b1 false) := by cases b <;> decide
/-- a stall of the sim -/
theorem LJ.stall (L : LJ Z N t0 lo h nx n A D sn S B G hr ro) {c r : Nat} (hc : c < 24) (hr2 : r < 24) (hf : sn < 8 ∧ hsS S c r sn = false) : ∃ (rs : Nat) (h1 h2 h3 : zH) (n3 rs3 : Nat) (Z' : Nat → Prop) (S' : Nat → Nat → Int) (B' : Nat → Int32), z_gR h (lo + 11) 6 1 = some rs ∧ M_X5_with (z_up h nx (cA 3 (st3 (fun k => if k = 0 then (c : Int) else r) 0))) (nx + 1) rs nx = some (nx + 1, h1, nx + 1 + 1) ∧ z_pV h1 (lo + 11) 6 1 (.ref (nx + 1)) = some h2 ∧
    z_ck h2 lo 5 = some () ∧ M_X4_stall h2 (nx + 1 + 1) t0 lo (zi (c : Int)) (zi (r : Int)) = some (.inr (zi (sn : Int), h3, n3)) ∧ z_gR h3 (lo + 11) 6 1 = some rs3 ∧ z_al h3 rs3 = some (zi ((sn + 1 : Nat) : Int)) ∧ LJ Z' N t0 lo h3 n3 n A D (sn + 1) S' B' G hr ro := by
  obtain ⟨I, ⟨ra, rs, Pa, Ps, s⟩, F0, off, b, p1, p2, p3, p4, p5⟩ := L
  have i5 := s.2.2.2.2.1
  obtain ⟨f, q1, q2⟩ := s.2.2.1.2.1
  have hm : lo + 11 < nx := by have := i5.1; omega
  have ha : rs < nx := by have := i5.2.2.1; have := i5.1; omega
  obtain ⟨F, w1, w2, w3⟩ := y_with (h := z_up h nx (cA 3 (st3 (fun k => if k = 0 then (c : Int) else r) 0))) (nx := nx + 1) (b := nx) ((up_ne (by omega)).trans q1) q2 (fun j hj => ⟨by have := i5.2.2.2.2.1 j hj; omega, 3, _, (up_ne (by have := i5.2.2.2.2.1 j hj; omega)).trans (s.2.2.1.2.2.1 j hj)⟩) (by omega) ⟨by omega, 3, _, up_at ..⟩ (by omega)
  have s1 := s.stall hf.1 hc hr2 w2 w3
  have pe : z_pV (z_up (z_up h nx (cA 3 (st3 (fun k => if k = 0 then (c : Int) else r) 0))) (nx + 1) (zD (sn + 1) F)) (lo + 11) 6 1 (.ref (nx + 1)) = some (z_up (z_up (z_up h nx (cA 3 (st3 (fun k => if k = 0 then (c : Int) else r) 0))) (nx + 1) (zD (sn + 1) F)) (lo + 11) (zO 6 [.ref ra, .ref (nx + 1), .ref (lo + 14), .int hr, .int ro])) := by
    rw [pV_of (a := lo + 11) ((up_ne (by omega)).trans ((up_ne (by omega)).trans s.1)) (by simp)]; rfl
  have I1 := I.fr (Z' := fun q => Z q ∨ (nx ≤ q ∧ q < nx + 2)) (h' := z_up (z_up (z_up h nx (cA 3 (st3 (fun k => if k = 0 then (c : Int) else r) 0))) (nx + 1) (zD (sn + 1) F)) (lo + 11) (zO 6 [.ref ra, .ref (nx + 1), .ref (lo + 14), .int hr, .int ro])) (nx' := nx + 1 + 1) (fun q hq _ hqn => by
    have : q ≠ lo + 11 := fun e => hq (s.2.2.2.2.2.1 q (by omega) (by omega))
    rw [up_ne this, up_ne (by omega), up_ne (by omega)]) (by omega) (fun q hq => by omega)
  obtain ⟨-, g2⟩ := c_stall I1 (a := (c : Int)) (b := (r : Int)) (by omega) (by omega)
  obtain ⟨-, g3⟩ := g2 (by omega)
  obtain ⟨h3, n3, c1, hn3, I2, fr2⟩ := g3 hf
  simp only [Int.toNat_natCast] at I2
  have s2 := s1.fr fr2 hn3 (fun _ q => q)
  have eg : adG (gotS G S B) sn = gotS G (adS2 S sn c r) (adB B sn (G c r)) := by
    funext i
    unfold adG gotS adS2 adB
    by_cases e : i = sn
    · rw [if_pos e]
      simp only [if_pos e, if_true, Int.toNat_natCast, Nat.one_ne_zero, if_false]
      exact (Int32.sub_self _).symm
    · rw [if_neg e]
      simp only [if_neg e]
  rw [eg] at s2
  refine ⟨rs, _, _, h3, n3, nx + 1, _, _, _, gR_of s.1 (k := 1) rfl, w1, pe, IC.x5 I1, c1, gR_of s2.1 (k := 1) rfl, s_len s2.2.2.1, I2, ⟨ra, nx + 1, _, _, s2⟩, F0, off, fun i => if i = sn then F0 c r else b i, p1, p2, p3, p4, fun i hi => ?_⟩
  unfold adB adS2
  by_cases e : i = sn
  · simp only [if_pos e, if_true, Int.toNat_natCast, Nat.one_ne_zero, if_false]
    exact ⟨(p1 c r).1, (p1 c r).2, Int.le_refl _⟩
  · simp only [if_neg e]
    exact p5 i (by omega)
/-- whether the cell is free, as the law finds it -/
theorem LJ.free (L : LJ Z N t0 lo h nx n A D sn S B G hr ro) {c r : Nat} (hc : c < 24) (hr2 : r < 24) {R : Type} (K : Int32 → Option R) : ∃ rs, z_gR h (lo + 11) 6 1 = some rs ∧ z_al h rs = some (zi (sn : Int)) ∧
    wl2 (fun (rec72 : Int32 → Int32 → Option R) (x7_72 : Int32) (x10_72 : Int32) => (if zi (sn : Int) ≤ x10_72 then K x7_72 else (z_aD h rs x10_72).bind fun r81 => (z_aI h r81 (0 : Int32)).bind fun r82 => jn2 (fun (s0_83 : Int32) (s1_83 : Int32) => (rec72 (s0_83 &&& s1_83) (x10_72 + (1 : Int32)))) fun J83 => jn1 (fun (s0_84 : Int32) => (J83 s0_84 (1 : Int32))) fun J84 => (if r82 = zi (c : Int) then (z_aI h r81 (1 : Int32)).bind fun r85 => (if r85 = zi (r : Int) then (J83 x7_72 (0 : Int32)) else (J84 x7_72)) else (J84 x7_72)))) 700 (zi (b1 (decide (sn < 8)))) (0 : Int32) = K (zi (b1 (decide (sn < 8) && !hsS S c r sn))) := by
  obtain ⟨I, ⟨ra, rs, Pa, Ps, s⟩, -⟩ := L
  have hs8 := s.2.2.1.1
  refine ⟨rs, gR_of s.1 (k := 1) rfl, s_len s.2.2.1, ?_⟩
  refine wl2_st (fun k => zi (b1 (decide (sn < 8) && !hsS S c r k))) (fun k => zi (k : Int)) sn (by rw [hsS, Bool.not_false, Bool.and_true]) n_0 ?_ ?_ 700 (by omega)
  · intro rec k hk
    have e2 : (zi (sn : Int) ≤ zi (k : Int)) = ((sn : Int) ≤ k) := zi_le (by omega) (by omega) (by omega) (by omega)
    have o := s.2.2.1.2.2.2 k hk
    have q0 : (zi (S k 0) = zi (c : Int)) = (S k 0 = c) := zi_eq (by omega) (by omega) (by omega) (by omega)
    have q1 : (zi (S k 1) = zi (r : Int)) = (S k 1 = r) := zi_eq (by omega) (by omega) (by omega) (by omega)
    have e3 : zi (k : Int) + 1 = zi ((k + 1 : Nat) : Int) := zi_add _ 1
    rw [if_neg (by rw [e2]; omega), s_aw s.2.2.1 hk, ob_some, s_f0 s.2.2.1 hk, ob_some, jn2_e, jn1_e, e3]
    dsimp only
    rw [hs_z, hs_0, hsS]
    by_cases g0 : S k 0 = c
    · rw [if_pos (by rw [q0]; exact g0), s_f1 s.2.2.1 hk, ob_some]
      by_cases g1 : S k 1 = r
      · rw [if_pos (by rw [q1]; exact g1), decide_eq_true (p := S k 0 = (c : Int) ∧ S k 1 = (r : Int)) ⟨g0, g1⟩, Bool.or_true, Bool.not_true, Bool.and_false]
      · rw [if_neg (by rw [q1]; exact g1), decide_eq_false (p := S k 0 = (c : Int) ∧ S k 1 = (r : Int)) (fun w => g1 w.2), Bool.or_false]
    · rw [if_neg (by rw [q0]; exact g0), decide_eq_false (p := S k 0 = (c : Int) ∧ S k 1 = (r : Int)) (fun w => g0 w.1), Bool.or_false]
  · intro rec
    have e2 : (zi (sn : Int) ≤ zi (sn : Int)) = ((sn : Int) ≤ sn) := zi_le (by omega) (by omega) (by omega) (by omega)
    rw [if_pos (by rw [e2]; omega)]
set_option maxHeartbeats 4000000 in
theorem p_act (L : LI N0 T t0 lo h nx) (x : Int32) : ∃ T0 o, M_act T0 h nx t0 lo (lo + 11) x = some o ∧ (o.1 = 1 ∧ LI N0 (T + 1) t0 lo o.2.1 o.2.2) ∧ hkA T0 o t0 lo := by
  have L0 := L.up (T' := T + 1) (by omega)
  obtain ⟨Z, N, n, A, D, sn, S, B, G, hr, ro, hN, J⟩ := L
  obtain ⟨I, ⟨ra, rs, Pa, Ps, s⟩, P⟩ := id J
  have hn := s.2.1.1
  have g1 : z_gR h (lo + 11) 6 0 = some ra := gR_of s.1 (k := 0) rfl
  have g2 := y_len s.2.1
  have q0 : (zi (n : Int) = 0) = (n = 0) := by rw [show (zi (n : Int) = 0) = ((n : Int) = 0) from zi_eq (b := 0) (by omega) (by omega) (by omega) (by omega)]; exact propext (by omega)
  have q10 : (zi (n : Int) = 10) = (n = 10) := by rw [show (zi (n : Int) = 10) = ((n : Int) = 10) from zi_eq (b := 10) (by omega) (by omega) (by omega) (by omega)]; exact propext (by omega)
  have q3 : ((3 : Int32) ≤ zi (n : Int)) = (3 ≤ n) := by rw [show ((3 : Int32) ≤ zi (n : Int)) = ((3 : Int) ≤ (n : Int)) from zi_le (a := 3) (by omega) (by omega) (by omega) (by omega)]; exact propext (by omega)
  -- the awning that is meant
  obtain ⟨i, hi, e3⟩ : ∃ i : Nat, (0 < n → i < n) ∧ ∀ K : Int32 → Option (Int32 × zH × Nat), (jn1 K fun J3 => (if zi (n : Int) = 0 then (J3 (0 : Int32)) else (M_L_below (x >>> ((3 : Int32) &&& 31)) (zi (n : Int))).bind fun r128 => (J3 r128))) = K (zi (i : Int)) := by
    by_cases z : n = 0
    · exact ⟨0, fun w => by omega, fun K => by rw [jn1_e, if_pos (by rw [q0]; exact z)]; rfl⟩
    · obtain ⟨r, h1, h2⟩ := y_below (x >>> ((3 : Int32) &&& 31)) (n := n) (by omega) (by omega)
      exact ⟨r, fun _ => h1, fun K => by rw [jn1_e, if_neg (by rw [q0]; exact z), h2, ob_some]⟩
  obtain ⟨r4, h4, e4⟩ := y_below x (n := 12) (by omega) (by omega)
  have e4' : M_L_below x 12 = some (zi (r4 : Int)) := e4
  have kk : ∀ k : Nat, k < 20 → (zi (r4 : Int) = zi (k : Int)) = (r4 = k) := fun k hk => by rw [show (zi (r4 : Int) = zi (k : Int)) = ((r4 : Int) = (k : Int)) from zi_eq (by omega) (by omega) (by omega) (by omega)]; exact propext (by omega)
  have k0 : (zi (r4 : Int) = 0) = (r4 = 0) := kk 0 (by omega)
  have k1 : (zi (r4 : Int) = 1) = (r4 = 1) := kk 1 (by omega)
  have k2 : (zi (r4 : Int) = 2) = (r4 = 2) := kk 2 (by omega)
  have k3 : (zi (r4 : Int) = 3) = (r4 = 3) := kk 3 (by omega)
  have k4 : (zi (r4 : Int) = 4) = (r4 = 4) := kk 4 (by omega)
  have k5 : (zi (r4 : Int) = 5) = (r4 = 5) := kk 5 (by omega)
  have k6 : (zi (r4 : Int) = 6) = (r4 = 6) := kk 6 (by omega)
  have k7 : (zi (r4 : Int) = 7) = (r4 = 7) := kk 7 (by omega)
  have k8 : (zi (r4 : Int) = 8) = (r4 = 8) := kk 8 (by omega)
  have k9 : (zi (r4 : Int) = 9) = (r4 = 9) := kk 9 (by omega)
  by_cases c0 : r4 ≤ 3
  · -- hang
    have go : ∀ {T0 o}, (if zi (n : Int) = 10 then (some ((1 : Int32), h, nx)) else (M_L_below (x >>> ((2 : Int32) &&& 31)) (3 : Int32)).bind fun r6 => jn1 (fun (s0_7 : Int32) => (M_L_below (x >>> ((4 : Int32) &&& 31)) s0_7).bind fun r8 => (M_L_below (x >>> ((6 : Int32) &&& 31)) s0_7).bind fun r9 => (M_L_below (x >>> ((5 : Int32) &&& 31)) ((25 : Int32) - ((1 : Int32) + r8))).bind fun r10 => (z_sI (z_up h nx (zI 8 (fun _ => 0))) nx (0 : Int32) r10).bind fun h_11 => (M_L_below (x >>> ((7 : Int32) &&& 31)) ((25 : Int32) - ((1 : Int32) + r9))).bind fun r12 => (z_sI h_11 nx (1 : Int32) r12).bind fun h_13 => (z_sI h_13 nx (2 : Int32) ((1 : Int32) + r8)).bind fun h_14 => (z_sI h_14 nx (3 : Int32) ((1 : Int32) + r9)).bind fun h_15 => (M_L_below (x >>> ((3 : Int32) &&& 31)) (2 : Int32)).bind fun r16 => jn6 (fun (b0_17 : Nat) (b1_17 : Nat) (s2_17 : Int32) (s3_17 : Int32) (s4_17 : Int32) (s5_17 : Int32) => (M_L_below s4_17 s5_17).bind fun r18 => (z_sI h_15 b1_17 s2_17 (s3_17 + r18)).bind fun h_19 => (M_L_below (x >>> ((9 : Int32) &&& 31)) (4 : Int32)).bind fun r20 => (z_sI h_19 b0_17 (5 : Int32) r20).bind fun h_21 => (z_sI h_21 b0_17 (6 : Int32) (1 : Int32)).bind fun h_22 => (z_sI h_22 b0_17 (7 : Int32) (0 : Int32)).bind fun h_23 => (z_gR h_23 (lo + 11) 6 0).bind fun r24 => (M_X5_with h_23 (nx + 1) r24 b0_17).bind fun r25 => (z_pV r25.2.1 (lo + 11) 6 0 (.ref r25.1)).bind fun h_26 => (z_aI h_26 b0_17 (0 : Int32)).bind fun r27 => (z_aI h_26 b0_17 (1 : Int32)).bind fun r28 => (z_aI h_26 b0_17 (4 : Int32)).bind fun r29 => (z_aI h_26 b0_17 (5 : Int32)).bind fun r30 => (z_ck h_26 lo 5).bind fun _ => z_tn (M_X4_hang h_26 r25.2.2 t0 lo r27 r28 ((1 : Int32) + r8) ((1 : Int32) + r9) r29 r30) fun r32 => (if r32.1 = zi (n : Int) then (some ((1 : Int32), r32.2.1, r32.2.2)) else (some ((0 : Int32), r32.2.1, r32.2.2)))) fun J17 => (if r16 = 0 then (J17 nx nx (4 : Int32) (1 : Int32) (x >>> ((8 : Int32) &&& 31)) (9 : Int32)) else (J17 nx nx (4 : Int32) (1 : Int32) (x >>> ((8 : Int32) &&& 31)) (3 : Int32)))) fun J7 => (if r6 = 0 then (J7 (24 : Int32)) else (J7 (9 : Int32)))) = some o → M_act T0 h nx t0 lo (lo + 11) x = some o := by
      intro T0 o hh
      unfold M_act
      rw [g1, ob_some, g2, ob_some, e3, e4', ob_some, jn0_e, jn0_e, jn0_e]
      by_cases w0 : r4 = 0
      · rw [if_pos (by rw [k0]; exact w0)]; exact hh
      · rw [if_neg (by rw [k0]; exact w0)]
        by_cases w1 : r4 = 1
        · rw [if_pos (by rw [k1]; exact w1)]; exact hh
        · rw [if_neg (by rw [k1]; exact w1)]
          by_cases w2 : r4 = 2
          · rw [if_pos (by rw [k2]; exact w2)]; exact hh
          · rw [if_neg (by rw [k2]; exact w2), if_pos (by rw [k3]; omega)]; exact hh
    by_cases c1 : n = 10
    · exact ⟨_, (1, h, nx), go (T0 := fun _ _ _ _ _ _ _ => none) (by rw [if_pos (by rw [q10]; exact c1)]), ⟨rfl, L0⟩, hkA_none⟩
    obtain ⟨r6, h6, e6⟩ := y_below (x >>> ((2 : Int32) &&& 31)) (n := 3) (by omega) (by omega)
    have e6' : M_L_below (x >>> ((2 : Int32) &&& 31)) 3 = some (zi (r6 : Int)) := e6
    obtain ⟨wd, hwd, ewd⟩ : ∃ wd : Nat, (wd = 24 ∨ wd = 9) ∧ ∀ K : Int32 → Option (Int32 × zH × Nat), (jn1 K fun J7 => (if zi (r6 : Int) = 0 then (J7 (24 : Int32)) else (J7 (9 : Int32)))) = K (zi (wd : Int)) := by
      by_cases z : zi (r6 : Int) = 0
      · exact ⟨24, .inl rfl, fun K => by rw [jn1_e, if_pos z]; rfl⟩
      · exact ⟨9, .inr rfl, fun K => by rw [jn1_e, if_neg z]; rfl⟩
    obtain ⟨r8, h8, e8⟩ := y_below (x >>> ((4 : Int32) &&& 31)) (n := wd) (by omega) (by omega)
    obtain ⟨r9, h9, e9⟩ := y_below (x >>> ((6 : Int32) &&& 31)) (n := wd) (by omega) (by omega)
    obtain ⟨r10, h10, e10⟩ := y_below (x >>> ((5 : Int32) &&& 31)) (n := 24 - r8) (by omega) (by omega)
    obtain ⟨r12, h12, e12⟩ := y_below (x >>> ((7 : Int32) &&& 31)) (n := 24 - r9) (by omega) (by omega)
    obtain ⟨r16, h16, e16⟩ := y_below (x >>> ((3 : Int32) &&& 31)) (n := 2) (by omega) (by omega)
    have e16' : M_L_below (x >>> ((3 : Int32) &&& 31)) 2 = some (zi (r16 : Int)) := e16
    obtain ⟨lw, hlw, elw⟩ : ∃ lw : Nat, (lw = 9 ∨ lw = 3) ∧ ∀ K : Nat → Nat → Int32 → Int32 → Int32 → Int32 → Option (Int32 × zH × Nat), (jn6 K fun J17 => (if zi (r16 : Int) = 0 then (J17 nx nx (4 : Int32) (1 : Int32) (x >>> ((8 : Int32) &&& 31)) (9 : Int32)) else (J17 nx nx (4 : Int32) (1 : Int32) (x >>> ((8 : Int32) &&& 31)) (3 : Int32)))) = K nx nx 4 1 (x >>> ((8 : Int32) &&& 31)) (zi (lw : Int)) := by
      by_cases z : zi (r16 : Int) = 0
      · exact ⟨9, .inl rfl, fun K => by rw [jn6_e, if_pos z]; rfl⟩
      · exact ⟨3, .inr rfl, fun K => by rw [jn6_e, if_neg z]; rfl⟩
    obtain ⟨r18, h18, e18⟩ := y_below (x >>> ((8 : Int32) &&& 31)) (n := lw) (by omega) (by omega)
    obtain ⟨r20, h20, e20⟩ := y_below (x >>> ((9 : Int32) &&& 31)) (n := 4) (by omega) (by omega)
    have e20' : M_L_below (x >>> ((9 : Int32) &&& 31)) 4 = some (zi (r20 : Int)) := e20
    have f8 : (1 : Int32) + zi (r8 : Int) = zi (1 + (r8 : Int)) := zi_add 1 _
    have f9 : (1 : Int32) + zi (r9 : Int) = zi (1 + (r9 : Int)) := zi_add 1 _
    have f18 : (1 : Int32) + zi (r18 : Int) = zi (1 + (r18 : Int)) := zi_add 1 _
    have f8' : (25 : Int32) - zi (1 + (r8 : Int)) = zi ((24 - r8 : Nat) : Int) := (zi_sub 25 _).trans (congrArg zi (by omega))
    have f9' : (25 : Int32) - zi (1 + (r9 : Int)) = zi ((24 - r9 : Nat) : Int) := (zi_sub 25 _).trans (congrArg zi (by omega))
    have o : okA (hanA (r10 : Int) r12 (1 + (r8 : Int)) (1 + (r9 : Int)) (1 + (r18 : Int)) r20) := by
      show 0 ≤ (r10 : Int) ∧ 0 ≤ (r12 : Int) ∧ 1 ≤ 1 + (r8 : Int) ∧ 1 ≤ 1 + (r9 : Int) ∧ (r10 : Int) + (1 + (r8 : Int)) ≤ 24 ∧ (r12 : Int) + (1 + (r9 : Int)) ≤ 24 ∧ 1 ≤ 1 + (r18 : Int) ∧ 1 + (r18 : Int) ≤ 9 ∧ 0 ≤ (r20 : Int) ∧ (r20 : Int) ≤ 3 ∧ (0 : Int) ≤ 1 ∧ (1 : Int) ≤ 1
      omega
    obtain ⟨ra', h1, h2, h3, nx', Z', A', D', a1, a2, a3, a4, a5, a6, a7⟩ := J.hang (by omega) o
    have own : z_up h nx (cA 8 fun p => if p = 7 then 0 else if p = 6 then 1 else if p = 5 then zi (r20 : Int) else if p = 4 then zi (1 + (r18 : Int)) else if p = 3 then zi (1 + (r9 : Int)) else if p = 2 then zi (1 + (r8 : Int)) else if p = 1 then zi (r12 : Int) else if p = 0 then zi (r10 : Int) else 0) = z_up h nx (cA 8 (aw8 (hanA (r10 : Int) r12 (1 + (r8 : Int)) (1 + (r9 : Int)) (1 + (r18 : Int)) r20) 0)) := by
      refine up_congr fun p hp => ?_
      rcases (show p = 0 ∨ p = 1 ∨ p = 2 ∨ p = 3 ∨ p = 4 ∨ p = 5 ∨ p = 6 ∨ p = 7 by omega) with rfl | rfl | rfl | rfl | rfl | rfl | rfl | rfl <;> rfl
    refine ⟨_, (1, h3, nx'), go (T0 := fun _ _ _ _ _ _ _ => none) ?_, ⟨rfl, Z', N, n + 1, A', D', sn, S, B, G, hr, ro, by omega, a7⟩, hkA_none⟩
    have t0' : z_sI (z_up h nx (zI 8 (fun _ => 0))) nx (0 : Int32) (zi (r10 : Int)) = some (z_up h nx (cA 8 fun p => if p = 0 then zi (r10 : Int) else 0)) := by
      rw [zc0]; exact sI8 (k := 0) (by omega) (by omega)
    have t1 : ∀ f v, z_sI (z_up h nx (cA 8 f)) nx (1 : Int32) v = some (z_up h nx (cA 8 fun p => if p = 1 then v else f p)) := fun f v => sI8 (k := 1) (by omega) (by omega)
    have t2 : ∀ f v, z_sI (z_up h nx (cA 8 f)) nx (2 : Int32) v = some (z_up h nx (cA 8 fun p => if p = 2 then v else f p)) := fun f v => sI8 (k := 2) (by omega) (by omega)
    have t3 : ∀ f v, z_sI (z_up h nx (cA 8 f)) nx (3 : Int32) v = some (z_up h nx (cA 8 fun p => if p = 3 then v else f p)) := fun f v => sI8 (k := 3) (by omega) (by omega)
    have t4 : ∀ f v, z_sI (z_up h nx (cA 8 f)) nx (4 : Int32) v = some (z_up h nx (cA 8 fun p => if p = 4 then v else f p)) := fun f v => sI8 (k := 4) (by omega) (by omega)
    have t5 : ∀ f v, z_sI (z_up h nx (cA 8 f)) nx (5 : Int32) v = some (z_up h nx (cA 8 fun p => if p = 5 then v else f p)) := fun f v => sI8 (k := 5) (by omega) (by omega)
    have t6 : ∀ f v, z_sI (z_up h nx (cA 8 f)) nx (6 : Int32) v = some (z_up h nx (cA 8 fun p => if p = 6 then v else f p)) := fun f v => sI8 (k := 6) (by omega) (by omega)
    have t7 : ∀ f v, z_sI (z_up h nx (cA 8 f)) nx (7 : Int32) v = some (z_up h nx (cA 8 fun p => if p = 7 then v else f p)) := fun f v => sI8 (k := 7) (by omega) (by omega)
    have b0 : z_aI h2 nx 0 = some (zi (r10 : Int)) := by
      have e : z_aI h2 nx (zi ((0 : Nat) : Int)) = some (zi (r10 : Int)) := by rw [cI_of a4 (by omega) (by omega) (by omega)]; rfl
      exact e
    have b1 : z_aI h2 nx 1 = some (zi (r12 : Int)) := by
      have e : z_aI h2 nx (zi ((1 : Nat) : Int)) = some (zi (r12 : Int)) := by rw [cI_of a4 (by omega) (by omega) (by omega)]; rfl
      exact e
    have b4 : z_aI h2 nx 4 = some (zi (1 + (r18 : Int))) := by
      have e : z_aI h2 nx (zi ((4 : Nat) : Int)) = some (zi (1 + (r18 : Int))) := by rw [cI_of a4 (by omega) (by omega) (by omega)]; rfl
      exact e
    have b5 : z_aI h2 nx 5 = some (zi (r20 : Int)) := by
      have e : z_aI h2 nx (zi ((5 : Nat) : Int)) = some (zi (r20 : Int)) := by rw [cI_of a4 (by omega) (by omega) (by omega)]; rfl
      exact e
    rw [if_neg (by rw [q10]; exact c1), e6', ob_some, ewd, e8, ob_some, e9, ob_some, f8, f9, f8', e10, ob_some, t0', ob_some, f9', e12, ob_some, t1, ob_some, t2, ob_some, t3, ob_some, e16', ob_some, elw, e18, ob_some, f18, t4, ob_some, e20', ob_some, t5, ob_some, t6, ob_some, t7, ob_some, own, a1, ob_some, a2, ob_some, a3, ob_some, b0, ob_some, b1, ob_some, b4, ob_some, b5, ob_some, a5, ob_some, a6]
    show (if zi (n : Int) = zi (n : Int) then _ else _) = _
    rw [if_pos rfl]
  · have z8 : ∀ (K : Int32 → Option (Int32 × zH × Nat)), (jn1 K fun J69 => (if (8 : Int32) ≤ zi (sn : Int) then (J69 (0 : Int32)) else (J69 (1 : Int32)))) = K (zi (b1 (decide (sn < 8)))) := fun K => by
      have hs8 := s.2.2.1.1
      have e : ((8 : Int32) ≤ zi (sn : Int)) = (8 ≤ sn) := by rw [show ((8 : Int32) ≤ zi (sn : Int)) = ((8 : Int) ≤ (sn : Int)) from zi_le (a := 8) (by omega) (by omega) (by omega) (by omega)]; exact propext (by omega)
      rw [jn1_e]
      by_cases z : sn < 8
      · rw [if_neg (by rw [e]; omega), decide_eq_true z]; rfl
      · rw [if_pos (by rw [e]; omega), decide_eq_false z]; rfl
    by_cases c4 : r4 = 4
    · -- roll
      by_cases z : n = 0
      · refine ⟨fun _ _ _ _ _ _ _ => none, (1, h, nx), ?_, ⟨rfl, L0⟩, hkA_none⟩
        unfold M_act
        rw [g1, ob_some, g2, ob_some, e3, e4', ob_some, jn0_e, jn0_e, jn0_e, if_neg (by rw [k0]; omega), if_neg (by rw [k1]; omega), if_neg (by rw [k2]; omega), if_neg (by rw [k3]; omega), if_pos (by rw [k4]; exact c4), if_pos (by rw [q0]; exact z)]
      · obtain ⟨ra', Pi, h1, h2, rv, a1, a2, a3, a4, a5, a6, a7, a8, a9, a10, a11⟩ := J.roll (i := i) (hi (by omega))
        refine ⟨fun _ _ _ _ _ _ _ => none, (1, h2, nx), ?_, ⟨rfl, Z, N, n, _, D, sn, S, B, G, hr, ro, by omega, a11⟩, hkA_none⟩
        have q : (zi rv = 1) = (rv = 1) := zi_b1 (by omega)
        obtain rfl : ra = ra' := Option.some.inj (g1.symm.trans a1)
        unfold M_act
        rw [g1, ob_some, g2, ob_some, e3, e4', ob_some, jn0_e, jn0_e, jn0_e, if_neg (by rw [k0]; omega), if_neg (by rw [k1]; omega), if_neg (by rw [k2]; omega), if_neg (by rw [k3]; omega), if_pos (by rw [k4]; exact c4), if_neg (by rw [q0]; exact z), ob_some, a2, ob_some, ob_some, a2, ob_some, a3, ob_some, a4, ob_some, a5, ob_some, a6]
        show (z_gR h2 (lo + 11) 6 0).bind _ = _
        rw [a7, ob_some, a8, ob_some, a9, ob_some, jn2_e]
        rcases a10 with e | e
        · rw [if_neg (by rw [q]; omega), e]
          exact if_pos rfl
        · rw [if_pos (by rw [q]; omega), e]
          exact if_pos rfl
    by_cases c5 : r4 = 5 ∨ r4 = 6
    · -- move
      by_cases z : n = 0
      · refine ⟨fun _ _ _ _ _ _ _ => none, (1, h, nx), ?_, ⟨rfl, L0⟩, hkA_none⟩
        unfold M_act
        rw [g1, ob_some, g2, ob_some, e3, e4', ob_some, jn0_e, jn0_e, jn0_e, if_neg (by rw [k0]; omega), if_neg (by rw [k1]; omega), if_neg (by rw [k2]; omega), if_neg (by rw [k3]; omega), if_neg (by rw [k4]; omega)]
        by_cases w5 : r4 = 5
        · rw [if_pos (by rw [k5]; exact w5), if_pos (by rw [q0]; exact z)]
        · rw [if_neg (by rw [k5]; exact w5), if_pos (by rw [k6]; omega), if_pos (by rw [q0]; exact z)]
      · have hin := hi (by omega)
        have o := (s.2.1.2.2 i hin).2
        unfold okA at o
        have f2 : (25 : Int32) - zi (A i 2) = zi ((25 - A i 2).toNat : Int) := (zi_sub 25 _).trans (congrArg zi (by omega))
        have f3 : (25 : Int32) - zi (A i 3) = zi ((25 - A i 3).toNat : Int) := (zi_sub 25 _).trans (congrArg zi (by omega))
        obtain ⟨X, hX, eX⟩ := y_below (x >>> ((5 : Int32) &&& 31)) (n := (25 - A i 2).toNat) (by omega) (by omega)
        obtain ⟨Y, hY, eY⟩ := y_below (x >>> ((7 : Int32) &&& 31)) (n := (25 - A i 3).toNat) (by omega) (by omega)
        obtain ⟨ra', Pi, h1, h2, h3, v, a1, a2, a3, a4, a5, a6, a7, a8, a9, a10, a11, a12, a13, a14, a15, a16, a17⟩ := J.move (i := i) hin (X := X) (Y := Y) (by omega) (by omega)
        obtain rfl : ra = ra' := Option.some.inj (g1.symm.trans a1)
        refine ⟨fun _ _ _ _ _ _ _ => none, (1, h3, nx), ?_, ⟨rfl, Z, N, n, _, D, sn, S, B, G, hr, ro, by omega, a17⟩, hkA_none⟩
        have go : (if zi (n : Int) = 0 then (some ((1 : Int32), h, nx)) else (z_gR h (lo + 11) 6 0).bind fun r38 => (z_aD h r38 (zi (i : Int))).bind fun r39 => (z_gR h (lo + 11) 6 0).bind fun r40 => (z_aD h r40 (zi (i : Int))).bind fun r41 => (z_aI h r41 (2 : Int32)).bind fun r42 => (M_L_below (x >>> ((5 : Int32) &&& 31)) ((25 : Int32) - r42)).bind fun r43 => (z_sI h r39 (0 : Int32) r43).bind fun h_44 => (z_gR h_44 (lo + 11) 6 0).bind fun r45 => (z_aD h_44 r45 (zi (i : Int))).bind fun r46 => (z_gR h_44 (lo + 11) 6 0).bind fun r47 => (z_aD h_44 r47 (zi (i : Int))).bind fun r48 => (z_aI h_44 r48 (3 : Int32)).bind fun r49 => (M_L_below (x >>> ((7 : Int32) &&& 31)) ((25 : Int32) - r49)).bind fun r50 => (z_sI h_44 r46 (1 : Int32) r50).bind fun h_51 => (z_gR h_51 (lo + 11) 6 0).bind fun r52 => (z_aD h_51 r52 (zi (i : Int))).bind fun r53 => (z_aI h_51 r53 (0 : Int32)).bind fun r54 => (z_gR h_51 (lo + 11) 6 0).bind fun r55 => (z_aD h_51 r55 (zi (i : Int))).bind fun r56 => (z_aI h_51 r56 (1 : Int32)).bind fun r57 => (z_ck h_51 lo 5).bind fun _ => z_tn (M_X4_move h_51 lo (zi (i : Int)) r54 r57) fun r59 => (z_ck r59.2 (lo + 11) 6).bind fun _ => (M_X5_covered r59.2 (lo + 11)).bind fun r61 => (if r59.1 = r61 then (some ((1 : Int32), r59.2, nx)) else (some ((0 : Int32), r59.2, nx)))) = some (1, h3, nx) := by
          rw [if_neg (by rw [q0]; exact z), g1, ob_some, a2, ob_some, ob_some, a2, ob_some, a3, ob_some, f2, eX, ob_some, a4, ob_some, a5, ob_some, a6, ob_some, ob_some, a6, ob_some, a7, ob_some, f3, eY, ob_some, a8, ob_some, a9, ob_some, a10, ob_some, a11, ob_some, ob_some, a10, ob_some, a12, ob_some, a13, ob_some, a14]
          show (z_ck h3 (lo + 11) 6).bind _ = _
          rw [a15, ob_some, a16, ob_some]
          exact if_pos rfl
        rw [g1] at go
        unfold M_act
        rw [g1, ob_some, g2, ob_some, e3, e4', ob_some, jn0_e, jn0_e, jn0_e, if_neg (by rw [k0]; omega), if_neg (by rw [k1]; omega), if_neg (by rw [k2]; omega), if_neg (by rw [k3]; omega), if_neg (by rw [k4]; omega)]
        by_cases w5 : r4 = 5
        · rw [if_pos (by rw [k5]; exact w5)]; exact go
        · rw [if_neg (by rw [k5]; exact w5), if_pos (by rw [k6]; omega)]; exact go
    by_cases c7 : r4 = 7
    · -- take
      by_cases z : 3 ≤ n
      · obtain ⟨ra', n1, h1, h2, h3, Z', A', D', a1, a2, a3, a4, a5, a6, a7⟩ := J.take (i := i) (hi (by omega)) z
        obtain rfl : ra = ra' := Option.some.inj (g1.symm.trans a1)
        refine ⟨fun _ _ _ _ _ _ _ => none, (1, h3, nx + 1), ?_, ⟨rfl, Z', N, n1, A', D', sn, S, B, G, hr, ro, by omega, a7⟩, hkA_none⟩
        unfold M_act
        rw [g1, ob_some, g2, ob_some, e3, e4', ob_some, jn0_e, jn0_e, jn0_e, if_neg (by rw [k0]; omega), if_neg (by rw [k1]; omega), if_neg (by rw [k2]; omega), if_neg (by rw [k3]; omega), if_neg (by rw [k4]; omega), if_neg (by rw [k5]; omega), if_neg (by rw [k6]; omega), if_pos (by rw [k7]; exact c7), if_pos (by rw [q3]; exact z), ob_some, a2, ob_some, a3, ob_some, a4, ob_some, a6]
        show (if zi (n1 : Int) = zi (n : Int) - 1 then _ else _) = _
        rw [if_pos]
        exact (congrArg zi (by omega)).trans (zi_sub (n : Int) 1).symm
      · refine ⟨fun _ _ _ _ _ _ _ => none, (1, h, nx), ?_, ⟨rfl, L0⟩, hkA_none⟩
        unfold M_act
        rw [g1, ob_some, g2, ob_some, e3, e4', ob_some, jn0_e, jn0_e, jn0_e, if_neg (by rw [k0]; omega), if_neg (by rw [k1]; omega), if_neg (by rw [k2]; omega), if_neg (by rw [k3]; omega), if_neg (by rw [k4]; omega), if_neg (by rw [k5]; omega), if_neg (by rw [k6]; omega), if_pos (by rw [k7]; exact c7), if_neg (by rw [q3]; exact z)]
    by_cases c8 : r4 = 8 ∨ r4 = 9
    · -- stall
      obtain ⟨c, hc, ec⟩ := y_below (x >>> ((4 : Int32) &&& 31)) (n := 24) (by omega) (by omega)
      obtain ⟨r, hr2, er⟩ := y_below (x >>> ((6 : Int32) &&& 31)) (n := 24) (by omega) (by omega)
      have ec' : M_L_below (x >>> ((4 : Int32) &&& 31)) 24 = some (zi (c : Int)) := ec
      have er' : M_L_below (x >>> ((6 : Int32) &&& 31)) 24 = some (zi (r : Int)) := er
      have fin : ∀ T0 o, (∀ rs, z_gR h (lo + 11) 6 1 = some rs → (jn2 (fun (h_73 : zH) (n_73 : Nat) => (T0 h_73 n_73 lo (lo + 11) (zi (c : Int)) (zi (r : Int)) (zi (b1 (decide (sn < 8) && !hsS S c r sn))))) fun J73 => (if zi (b1 (decide (sn < 8) && !hsS S c r sn)) = 0 then (J73 h nx) else (z_gR h (lo + 11) 6 1).bind fun r74 => (z_sI (z_up h nx (zI 3 (fun _ => 0))) nx (0 : Int32) (zi (c : Int))).bind fun h_75 => (z_sI h_75 nx (1 : Int32) (zi (r : Int))).bind fun h_76 => (z_sI h_76 nx (2 : Int32) (0 : Int32)).bind fun h_77 => (M_X5_with h_77 (nx + 1) r74 nx).bind fun r78 => (z_pV r78.2.1 (lo + 11) 6 1 (.ref r78.1)).bind fun h_79 => (J73 h_79 r78.2.2))) = some o) → M_act T0 h nx t0 lo (lo + 11) x = some o := by
        intro T0 o hh
        unfold M_act
        rw [g1, ob_some, g2, ob_some, e3, e4', ob_some, jn0_e, jn0_e, jn0_e, if_neg (by rw [k0]; omega), if_neg (by rw [k1]; omega), if_neg (by rw [k2]; omega), if_neg (by rw [k3]; omega), if_neg (by rw [k4]; omega), if_neg (by rw [k5]; omega), if_neg (by rw [k6]; omega), if_neg (by rw [k7]; omega)]
        have body : ∀ (K8 : Option (Int32 × zH × Nat)), K8 = ((M_L_below (x >>> ((4 : Int32) &&& 31)) (24 : Int32)).bind fun r65 => (M_L_below (x >>> ((6 : Int32) &&& 31)) (24 : Int32)).bind fun r66 => (z_gR h (lo + 11) 6 1).bind fun r67 => (z_al h r67).bind fun r68 => jn1 (fun (s0_69 : Int32) => (z_gR h (lo + 11) 6 1).bind fun r70 => (z_al h r70).bind fun r71 => wl2 (fun (rec72 : Int32 → Int32 → Option (Int32 × zH × Nat)) (x7_72 : Int32) (x10_72 : Int32) => (if r71 ≤ x10_72 then jn2 (fun (h_73 : zH) (n_73 : Nat) => (T0 h_73 n_73 lo (lo + 11) r65 r66 x7_72)) fun J73 => (if x7_72 = 0 then (J73 h nx) else (z_gR h (lo + 11) 6 1).bind fun r74 => (z_sI (z_up h nx (zI 3 (fun _ => 0))) nx (0 : Int32) r65).bind fun h_75 => (z_sI h_75 nx (1 : Int32) r66).bind fun h_76 => (z_sI h_76 nx (2 : Int32) (0 : Int32)).bind fun h_77 => (M_X5_with h_77 (nx + 1) r74 nx).bind fun r78 => (z_pV r78.2.1 (lo + 11) 6 1 (.ref r78.1)).bind fun h_79 => (J73 h_79 r78.2.2)) else (z_aD h r70 x10_72).bind fun r81 => (z_aI h r81 (0 : Int32)).bind fun r82 => jn2 (fun (s0_83 : Int32) (s1_83 : Int32) => (rec72 (s0_83 &&& s1_83) (x10_72 + (1 : Int32)))) fun J83 => jn1 (fun (s0_84 : Int32) => (J83 s0_84 (1 : Int32))) fun J84 => (if r82 = r65 then (z_aI h r81 (1 : Int32)).bind fun r85 => (if r85 = r66 then (J83 x7_72 (0 : Int32)) else (J84 x7_72)) else (J84 x7_72)))) 700 s0_69 (0 : Int32)) fun J69 => (if (8 : Int32) ≤ r68 then (J69 (0 : Int32)) else (J69 (1 : Int32)))) → K8 = some o := by
          intro K8 e
          obtain ⟨rs', b1', b2, b3⟩ := J.free hc hr2 (fun (x7_72 : Int32) => jn2 (fun (h_73 : zH) (n_73 : Nat) => (T0 h_73 n_73 lo (lo + 11) (zi (c : Int)) (zi (r : Int)) x7_72)) fun J73 => (if x7_72 = 0 then (J73 h nx) else (z_gR h (lo + 11) 6 1).bind fun r74 => (z_sI (z_up h nx (zI 3 (fun _ => 0))) nx (0 : Int32) (zi (c : Int))).bind fun h_75 => (z_sI h_75 nx (1 : Int32) (zi (r : Int))).bind fun h_76 => (z_sI h_76 nx (2 : Int32) (0 : Int32)).bind fun h_77 => (M_X5_with h_77 (nx + 1) r74 nx).bind fun r78 => (z_pV r78.2.1 (lo + 11) 6 1 (.ref r78.1)).bind fun h_79 => (J73 h_79 r78.2.2)))
          have h5 := hh rs' b1'
          rw [b1'] at b3 h5
          rw [e, ec', ob_some, er', ob_some, b1', ob_some, b2, ob_some, z8, ob_some, b2, ob_some, b3]
          exact h5
        by_cases w8 : r4 = 8
        · rw [if_pos (by rw [k8]; exact w8)]; exact body _ rfl
        · rw [if_neg (by rw [k8]; exact w8), if_pos (by rw [k9]; omega)]; exact body _ rfl
      by_cases fr : sn < 8 ∧ hsS S c r sn = false
      · obtain ⟨rs', h1, h2, h3, n3, rs3, Z', S', B', a1, a2, a3, a4, a5, a6, a7, a8⟩ := J.stall hc hr2 fr
        have eb : (decide (sn < 8) && !hsS S c r sn) = true := by rw [decide_eq_true fr.1, fr.2]; rfl
        refine ⟨fun h' n' b0 b1 y5 y6 y7 => tk (h' = h2 ∧ n' = nx + 1 + 1 ∧ b0 = lo ∧ b1 = lo + 11 ∧ y5 = zi (c : Int) ∧ y6 = zi (r : Int) ∧ y7 = 1) (1, h3, n3), (1, h3, n3), fin _ _ fun rs9 e9 => ?_, ⟨rfl, Z', N, n, A, D, sn + 1, S', B', G, hr, ro, by omega, a8⟩, ?_⟩
        · obtain rfl : rs' = rs9 := Option.some.inj (a1.symm.trans e9)
          have t0' : z_sI (z_up h nx (zI 3 (fun _ => 0))) nx (0 : Int32) (zi (c : Int)) = some (z_up h nx (cA 3 fun p => if p = 0 then zi (c : Int) else 0)) := by
            rw [zc0]; exact sI8 (k := 0) (by omega) (by omega)
          have t1 : ∀ f v, z_sI (z_up h nx (cA 3 f)) nx (1 : Int32) v = some (z_up h nx (cA 3 fun p => if p = 1 then v else f p)) := fun f v => sI8 (k := 1) (by omega) (by omega)
          have t2 : ∀ f v, z_sI (z_up h nx (cA 3 f)) nx (2 : Int32) v = some (z_up h nx (cA 3 fun p => if p = 2 then v else f p)) := fun f v => sI8 (k := 2) (by omega) (by omega)
          have own : z_up h nx (cA 3 fun p => if p = 2 then 0 else if p = 1 then zi (r : Int) else if p = 0 then zi (c : Int) else 0) = z_up h nx (cA 3 (st3 (fun k => if k = 0 then (c : Int) else r) 0)) := by
            refine up_congr fun p hp => ?_
            rcases (show p = 0 ∨ p = 1 ∨ p = 2 by omega) with rfl | rfl | rfl <;> rfl
          rw [eb, jn2_e, if_neg (by decide), e9, ob_some, t0', ob_some, t1, ob_some, t2, ob_some, own, a2, ob_some, a3, ob_some]
          exact tk_pos ⟨rfl, rfl, rfl, rfl, rfl, rfl, rfl⟩
        · intro h' n' b0 b1' y5 y6 y7 e
          obtain ⟨⟨rfl, rfl, rfl, rfl, rfl, rfl, rfl⟩, -⟩ := tk_some e
          exact ⟨rfl, rfl, a4, rfl, .inl ⟨h3, n3, sn, rs3, fr.1, a5, rfl, a6, a7, rfl⟩⟩
      · have eb : (decide (sn < 8) && !hsS S c r sn) = false := by
          cases hq : hsS S c r sn
          · rw [decide_eq_false (fun w => fr ⟨w, hq⟩)]; rfl
          · rw [Bool.not_true, Bool.and_false]
        have cs := ((c_stall I (a := (c : Int)) (b := (r : Int)) (by omega) (by omega)).2 (by omega)).1 fr
        refine ⟨fun h' n' b0 b1 y5 y6 y7 => tk (h' = h ∧ n' = nx ∧ b0 = lo ∧ b1 = lo + 11 ∧ y5 = zi (c : Int) ∧ y6 = zi (r : Int) ∧ y7 = 0) (1, h, nx), (1, h, nx), fin _ _ fun rs9 e9 => ?_, ⟨rfl, L0⟩, ?_⟩
        · rw [eb, jn2_e, if_pos (by decide)]
          exact tk_pos ⟨rfl, rfl, rfl, rfl, rfl, rfl, rfl⟩
        · intro h' n' b0 b1' y5 y6 y7 e
          obtain ⟨⟨rfl, rfl, rfl, rfl, rfl, rfl, rfl⟩, -⟩ := tk_some e
          exact ⟨rfl, rfl, IC.x5 I, rfl, .inr ⟨cs, rfl, rfl⟩⟩
    · -- rain
      obtain ⟨d, hd, ed⟩ := y_below (x >>> ((4 : Int32) &&& 31)) (n := 20) (by omega) (by omega)
      have ed' : M_L_below (x >>> ((4 : Int32) &&& 31)) 20 = some (zi (d : Int)) := ed
      obtain ⟨v, ha, hb, Z', D', G', ro', a1, a2, a3, a4, a5, a6⟩ := J.rain (d := d + 1) (by omega) (by omega)
      rw [show zi (hr : Int) + 1 = zi ((hr + 1 : Nat) : Int) from zi_add _ 1] at a4
      refine ⟨fun _ _ _ _ _ _ _ => none, (1, hb, nx + 1 + 25 + 1), ?_, ⟨rfl, Z', N + (d + 1), n, A, D', sn, S, B, G', hr + 1, ro', by omega, a4⟩, hkA_none⟩
      have f1 : (1 : Int32) + zi (d : Int) = zi ((d + 1 : Nat) : Int) := (zi_add 1 _).trans (congrArg zi (by omega))
      unfold M_act
      rw [g1, ob_some, g2, ob_some, e3, e4', ob_some, jn0_e, jn0_e, jn0_e, if_neg (by rw [k0]; omega), if_neg (by rw [k1]; omega), if_neg (by rw [k2]; omega), if_neg (by rw [k3]; omega), if_neg (by rw [k4]; omega), if_neg (by rw [k5]; omega), if_neg (by rw [k6]; omega), if_neg (by rw [k7]; omega), if_neg (by rw [k8]; omega), if_neg (by rw [k9]; omega), ed', ob_some, IC.x5 I, ob_some, f1, a1]
      show (z_ck ha (lo + 11) 6).bind _ = _
      rw [a2, ob_some, a3, ob_some]
      exact if_pos rfl
end ACT
