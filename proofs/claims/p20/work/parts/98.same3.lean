/-! isSame, pure: all of it -/
section SAME3
theorem lp_in {H : zH} {a ci j r : Nat} {x y : Int32} {R : Type} {P Q : Option R} (e1 : z_gR H a ci j = some r) (e2 : z_al H r = some x) (e3 : ¬ x ≤ y) : ((z_gR H a ci j).bind fun r26 => (z_al H r26).bind fun r27 => if r27 ≤ y then P else Q) = Q := by rw [e1, ob_some, e2, ob_some, if_neg e3]
variable {N0 T t0 lo : Nat} {h : zH} {nx : Nat}
set_option maxHeartbeats 8000000 in
set_option maxRecDepth 10000 in
theorem p_same (L : LI N0 T t0 lo h nx) (hT : T ≤ 1000) : ∃ (hf : zH) (nf : Nat) (Z1 : Nat → Prop) (n : Nat) (A : Nat → Nat → Int) (D : Nat → Int32) (sn : Nat) (S : Nat → Nat → Int) (B : Nat → Int32) (G : Nat → Nat → Int32) (hr ro : Int32) (rs : Nat) (T0 : zH → Nat → Nat → Nat → Int32 → Option Unit), IC Z1 t0 lo hf nf n A D sn S B G hr ro ∧ z_gR hf (lo + 11) 6 1 = some rs ∧ z_al hf rs = some (zi (sn : Int)) ∧ sn ≤ 8 ∧ M_same T0 h nx t0 (lo + 11) lo = some () ∧
    ∀ h1 n1 b0 b1 y3, T0 h1 n1 b0 b1 y3 = some () → h1 = hf ∧ n1 = nf ∧ b0 = lo + 11 ∧ b1 = lo ∧ y3 = sgS G S B sn := by
  obtain ⟨Z, N, n, A, D, sn, S, B, G, m, ro, ⟨hN0, hN, hm⟩, J⟩ := L
  obtain ⟨I, ⟨ra, rs, Pa, Ps, s⟩, -⟩ := J
  obtain ⟨hn, ho⟩ := I.ok
  have hs8 := s.2.2.1.1
  have i5 := s.2.2.2.2.1
  have i51 : lo + 39 ≤ nx := i5.1
  have i52 : ra = lo + 12 ∨ lo + 39 ≤ ra ∧ ra < nx := i5.2.1
  have h0 : ¬ Z nx := fun w => by have := I.low w; omega
  have SU : ∀ F, SR Z lo (z_up h nx (cA 11 F)) nx n A D sn S (gotS G S B) G (zi (m : Int)) ro ra rs Pa Ps := fun F => S_up s h0 _
  -- up to the parts
  have q0 : ∀ F, z_gR (z_up h nx (cA 11 F)) (lo + 11) 6 0 = some ra := fun F => gR_of (SU F).1 (k := 0) rfl
  have q1 : ∀ F, z_al (z_up h nx (cA 11 F)) ra = some (zi (n : Int)) := fun F => y_len (SU F).2.1
  have q2 : ∀ F, z_gR (z_up h nx (cA 11 F)) (lo + 11) 6 1 = some rs := fun F => gR_of (SU F).1 (k := 1) rfl
  have q3 : ∀ F, z_al (z_up h nx (cA 11 F)) rs = some (zi (sn : Int)) := fun F => s_len (SU F).2.2.1
  have q4 : ∀ F, z_ck (z_up h nx (cA 11 F)) (lo + 11) 6 = some () := fun F => ck_of (SU F).1
  have q5 : ∀ F, M_X5_covered (z_up h nx (cA 11 F)) (lo + 11) = some (zi (tot fun x y => b1 (pq A n x y))) := fun F => y_covered (SU F).1 (SU F).2.1
  have q6 : ∀ F, M_X5_outline (z_up h nx (cA 11 F)) (lo + 11) = some (zi (tot (olS A n))) := fun F => y_outline (SU F).1 (SU F).2.1
  have j0 : ∀ F v, z_sI (z_up h nx (cA 11 F)) nx 0 v = some (z_up h nx (cA 11 fun p => if p = 0 then v else F p)) := fun F v => sI8 (k := 0) (by omega) (by omega)
  have j1 : ∀ F v, z_sI (z_up h nx (cA 11 F)) nx 1 v = some (z_up h nx (cA 11 fun p => if p = 1 then v else F p)) := fun F v => sI8 (k := 1) (by omega) (by omega)
  have j2 : ∀ F v, z_sI (z_up h nx (cA 11 F)) nx 2 v = some (z_up h nx (cA 11 fun p => if p = 2 then v else F p)) := fun F v => sI8 (k := 2) (by omega) (by omega)
  have j3 : ∀ F v, z_sI (z_up h nx (cA 11 F)) nx 3 v = some (z_up h nx (cA 11 fun p => if p = 3 then v else F p)) := fun F v => sI8 (k := 3) (by omega) (by omega)
  have j4 : ∀ F v, z_sI (z_up h nx (cA 11 F)) nx 4 v = some (z_up h nx (cA 11 fun p => if p = 4 then v else F p)) := fun F v => sI8 (k := 4) (by omega) (by omega)
  generalize eF : (fun p => if p = 4 then zi (tot (olS A n)) else if p = 3 then zi (tot fun x y => b1 (pq A n x y)) else if p = 2 then zi (sn : Int) else if p = 1 then 0 else if p = 0 then zi (n : Int) else (0 : Int32) : Nat → Int32) = F5
  obtain ⟨hq, nq, e1, e2, e3⟩ := y_parts (nx := nx + 1) (SU F5).1 (SU F5).2.1 (by omega) (by omega) (fun i hi => by have := i5.2.2.2.1 i hi; omega)
  have hqc : hq nx = some (cA 11 F5) := (e2 nx (by omega)).trans (up_at ..)
  have Iq : IC (fun q => Z q ∨ (nx ≤ q ∧ q < nx + 1)) t0 lo hq nq n A D sn S B G (zi (m : Int)) ro := (I.fr (Z' := fun q => Z q ∨ (nx ≤ q ∧ q < nx + 1)) (h' := h) (nx' := nx + 1) (fun _ _ _ _ => rfl) (by omega) (fun q w => w)).fr (fun q w _ w2 => by rw [e2 q w2, up_ne (by omega)]) (by omega) (fun q w => .inl w)
  have sq : SR Z lo hq nx n A D sn S (gotS G S B) G (zi (m : Int)) ro ra rs Pa Ps := s.fr (fun q w => by have := I.low w; rw [e2 q (by omega), up_ne (by omega)]) (Nat.le_refl _) (fun _ w => w)
  have hc1 : (fun q => Z q ∨ (nx ≤ q ∧ q < nx + 1)) nx := .inr ⟨by omega, by omega⟩
  have p5 : ∀ v, z_sI hq nx 5 v = some (z_up hq nx (cA 11 fun p => if p = 5 then v else F5 p)) := fun v => by
    have := csI_of (i := 5) (x := v) hqc (by omega) (by omega) (by omega)
    exact this
  have p6 : ∀ F v, z_sI (z_up hq nx (cA 11 F)) nx 6 v = some (z_up hq nx (cA 11 fun p => if p = 6 then v else F p)) := fun F v => sI8 (k := 6) (by omega) (by omega)
  have p7 : ∀ F v, z_sI (z_up hq nx (cA 11 F)) nx 7 v = some (z_up hq nx (cA 11 fun p => if p = 7 then v else F p)) := fun F v => sI8 (k := 7) (by omega) (by omega)
  have p8 : ∀ F v, z_sI (z_up hq nx (cA 11 F)) nx 8 v = some (z_up hq nx (cA 11 fun p => if p = 8 then v else F p)) := fun F v => sI8 (k := 8) (by omega) (by omega)
  have p9 : ∀ F v, z_sI (z_up hq nx (cA 11 F)) nx 9 v = some (z_up hq nx (cA 11 fun p => if p = 9 then v else F p)) := fun F v => sI8 (k := 9) (by omega) (by omega)
  have p10 : ∀ F v, z_sI (z_up hq nx (cA 11 F)) nx 10 v = some (z_up hq nx (cA 11 fun p => if p = 10 then v else F p)) := fun F v => sI8 (k := 10) (by omega) (by omega)
  have Sq : ∀ F, SR Z lo (z_up hq nx (cA 11 F)) nx n A D sn S (gotS G S B) G (zi (m : Int)) ro ra rs Pa Ps := fun F => S_up sq h0 _
  have g3 : ∀ F, z_gI (z_up hq nx (cA 11 F)) (lo + 11) 6 3 = some (zi (m : Int)) := fun F => gI_of (Sq F).1 (k := 3) rfl
  have g4 : ∀ F, z_gI (z_up hq nx (cA 11 F)) (lo + 11) 6 4 = some ro := fun F => gI_of (Sq F).1 (k := 4) rfl
  have g0 : ∀ F, z_gR (z_up hq nx (cA 11 F)) (lo + 11) 6 0 = some ra := fun F => gR_of (Sq F).1 (k := 0) rfl
  have g1 : ∀ F, z_gR (z_up hq nx (cA 11 F)) (lo + 11) 6 1 = some rs := fun F => gR_of (Sq F).1 (k := 1) rfl
  have l0 : ∀ F, z_al (z_up hq nx (cA 11 F)) ra = some (zi (n : Int)) := fun F => y_len (Sq F).2.1
  have l1 : ∀ F, z_al (z_up hq nx (cA 11 F)) rs = some (zi (sn : Int)) := fun F => s_len (Sq F).2.2.1
  generalize eG : (fun p => if p = 10 then 0 else if p = 9 then ro else if p = 8 then 0 else if p = 7 then zi (m : Int) else if p = 6 then 0 else if p = 5 then zi (pcnt (pV A n) (pV A n)) else F5 p : Nat → Int32) = Fz
  obtain ⟨hf, If, frf, ef⟩ := s_cnt (c := nx) (g := f10 (f1 (gg Fz (tot fun x y => b1 (decide (2 ≤ lay A n x y))) (tot fun x y => (G x y).toInt)) (outS A n)) (opnS A n S sn)) Iq hc1 (fun k hk => by
    subst eG
    subst eF
    rcases (show k = 0 ∨ k = 1 ∨ k = 2 ∨ k = 3 ∨ k = 4 ∨ k = 5 ∨ k = 6 ∨ k = 7 ∨ k = 8 ∨ k = 9 ∨ k = 10 by omega) with rfl | rfl | rfl | rfl | rfl | rfl | rfl | rfl | rfl | rfl | rfl <;> rfl)
  have Sf : SR Z lo hf nx n A D sn S (gotS G S B) G (zi (m : Int)) ro ra rs Pa Ps := (Sq _).fr (fun q w => frf q (.inl w)) (Nat.le_refl _) (fun _ w => w)
  refine ⟨hf, nq, _, n, A, D, sn, S, B, G, zi (m : Int), ro, rs, fun H n' b0 b1 y3 => tk (H = hf ∧ n' = nq ∧ b0 = lo + 11 ∧ b1 = lo ∧ y3 = sgS G S B sn) (), If, gR_of Sf.1 (k := 1) rfl, s_len Sf.2.2.1, hs8, ?_, ?_⟩
  · unfold M_same
    rw [zc0, q0, ob_some, q1, ob_some, j0, ob_some, j1, ob_some, q2, ob_some, q3, ob_some, j2, ob_some, q4, ob_some, q5, ob_some, j3, ob_some, q4, ob_some, q6, ob_some, j4, ob_some, q4, ob_some, eF, e1, ob_some]
    dsimp only
    rw [p5, ob_some, p6, ob_some, g3, ob_some, p7, ob_some, p8, ob_some, g4, ob_some, p9, ob_some, p10, ob_some, eG]
    refine wl2_st (fun k => zi (k : Int)) (fun k => z_up hq nx (cA 11 (gg Fz (sm k fun x => sm 24 fun y => b1 (decide (2 ≤ lay A n x y))) (sm k fun x => sm 24 fun y => (G x y).toInt)))) 24 rfl ?_ ?_ ?_ 700 (by omega)
    · refine up_congr fun p hp => ?_
      subst eG
      unfold gg
      by_cases w8 : p = 8
      · subst w8; rfl
      · rw [if_neg w8]
        by_cases w6 : p = 6
        · subst w6; rfl
        · rw [if_neg w6]
    · intro rec k hk
      rw [if_neg (by rw [le24 (by omega)]; omega), s_col Iq hc1 sq h0 hk, show zi (k : Int) + 1 = zi ((k + 1 : Nat) : Int) from zi_add _ 1]
      rfl
    · intro rec
      rw [if_pos (by rw [le24 (by omega)]; omega)]
      refine wl2_st (fun k => zi (k : Int)) (fun k => z_up hq nx (cA 11 (f1 (gg Fz (tot fun x y => b1 (decide (2 ≤ lay A n x y))) (tot fun x y => (G x y).toInt)) (sm k fun i => A i 6)))) n rfl ?_ ?_ ?_ 700 (by omega)
      · refine up_congr fun p hp => ?_
        subst eG
        subst eF
        unfold f1
        by_cases w1 : p = 1
        · subst w1; rfl
        · rw [if_neg w1]; rfl
      · intro rec k hk
        have e : (zi (n : Int) ≤ zi (k : Int)) = ((n : Int) ≤ k) := zi_le (by omega) (by omega) (by omega) (by omega)
        rw [lp_in (g0 _) (l0 _) (by rw [e]; omega), s_awn Iq hc1 sq h0 rfl (by omega) hk, show zi (k : Int) + 1 = zi ((k + 1 : Nat) : Int) from zi_add _ 1]
        rfl
      · intro rec
        have e : (zi (n : Int) ≤ zi (n : Int)) = ((n : Int) ≤ n) := zi_le (by omega) (by omega) (by omega) (by omega)
        rw [g0, ob_some, l0, ob_some, if_pos (by rw [e]; omega)]
        refine wl3_st (fun k => sgS G S B k) (fun k => zi (k : Int)) (fun k => z_up hq nx (cA 11 (f10 (f1 (gg Fz (tot fun x y => b1 (decide (2 ≤ lay A n x y))) (tot fun x y => (G x y).toInt)) (outS A n)) (sm k fun i => b1 (decide (lay A n (S i 0) (S i 1) = 0)))))) sn rfl rfl ?_ ?_ ?_ 700 (by omega)
        · refine up_congr fun p hp => ?_
          subst eG
          subst eF
          unfold f10
          by_cases w1 : p = 10
          · subst w1; rfl
          · rw [if_neg w1]; rfl
        · intro rec k hk
          have e : (zi (sn : Int) ≤ zi (k : Int)) = ((sn : Int) ≤ k) := zi_le (by omega) (by omega) (by omega) (by omega)
          rw [lp_in (g1 _) (l1 _) (by rw [e]; omega), s_stl Iq hc1 sq h0 hk, show zi (k : Int) + 1 = zi ((k + 1 : Nat) : Int) from zi_add _ 1]
          rfl
        · intro rec
          have e : (zi (sn : Int) ≤ zi (sn : Int)) = ((sn : Int) ≤ sn) := zi_le (by omega) (by omega) (by omega) (by omega)
          rw [g1, ob_some, l1, ob_some, if_pos (by rw [e]; omega)]
          refine (ef _ _).trans (tk_pos ⟨rfl, rfl, rfl, rfl, rfl⟩)
  · intro H n' b0 b1 y3 e
    obtain ⟨⟨rfl, rfl, rfl, rfl, rfl⟩, -⟩ := tk_some e
    exact ⟨rfl, rfl, rfl, rfl, rfl⟩
end SAME3
