/-! isSame, pure: a column -/
theorem wl7_st {A1 A2 A3 A4 A5 A6 A7 R : Type} {f : (A1 → A2 → A3 → A4 → A5 → A6 → A7 → Option R) → A1 → A2 → A3 → A4 → A5 → A6 → A7 → Option R} {r : Option R} (a1 : Nat → A1) (a2 : Nat → A2) (a3 : Nat → A3) (a4 : Nat → A4) (a5 : Nat → A5) (a6 : Nat → A6) (a7 : Nat → A7) (N : Nat) {x1 : A1} {x2 : A2} {x3 : A3} {x4 : A4} {x5 : A5} {x6 : A6} {x7 : A7} (h1 : x1 = a1 0) (h2 : x2 = a2 0) (h3 : x3 = a3 0) (h4 : x4 = a4 0) (h5 : x5 = a5 0) (h6 : x6 = a6 0) (h7 : x7 = a7 0)
    (hs : ∀ rec k, k < N → f rec (a1 k) (a2 k) (a3 k) (a4 k) (a5 k) (a6 k) (a7 k) = rec (a1 (k + 1)) (a2 (k + 1)) (a3 (k + 1)) (a4 (k + 1)) (a5 (k + 1)) (a6 (k + 1)) (a7 (k + 1))) (he : ∀ rec, f rec (a1 N) (a2 N) (a3 N) (a4 N) (a5 N) (a6 N) (a7 N) = r) (fuel : Nat) (hf : N < fuel) : wl7 f fuel x1 x2 x3 x4 x5 x6 x7 = r := by
  subst h1 h2 h3 h4 h5 h6 h7
  have key : ∀ e k fuel, k + e = N → e < fuel → wl7 f fuel (a1 k) (a2 k) (a3 k) (a4 k) (a5 k) (a6 k) (a7 k) = r := by
    intro e
    induction e with
    | zero =>
      intro k fuel hk hf
      obtain ⟨g, rfl⟩ : ∃ g, fuel = g + 1 := ⟨fuel - 1, by omega⟩
      have : k = N := by omega
      subst this
      exact he _
    | succ e ih =>
      intro k fuel hk hf
      obtain ⟨g, rfl⟩ : ∃ g, fuel = g + 1 := ⟨fuel - 1, by omega⟩
      exact (hs _ k (by omega)).trans (ih (k + 1) g (by omega) (by omega))
  exact key N 0 fuel (by omega) hf
theorem jn4_if {A1 A2 A3 A4 R : Type} {P : Prop} [Decidable P] (K : A1 → A2 → A3 → A4 → Option R) (x : A1) (y : A2) (z : A3) (a b : A4) : (jn4 K fun J => if P then J x y z a else J x y z b) = K x y z (if P then a else b) := by
  rw [jn4_e]; split <;> rfl
/-- counts 6 and 8 -/
def gg (g : Nat → Int32) (a b : Int) : Nat → Int32 := fun p => if p = 8 then zi b else if p = 6 then zi a else g p
section SAME1
variable {Z0 Z1 : Nat → Prop} {t0 lo : Nat} {h : zH} {nx nx0 n : Nat} {A : Nat → Nat → Int} {D : Nat → Int32} {sn : Nat} {S : Nat → Nat → Int} {B g0 : Nat → Int32} {G : Nat → Nat → Int32} {hr ro : Int32} {ra rs : Nat} {Pa Ps : Nat → Nat} {c : Nat} {g : Nat → Int32}
theorem I_up (I : IC Z1 t0 lo h nx n A D sn S B G hr ro) (hc : Z1 c) (x : zC) : IC Z1 t0 lo (z_up h c x) nx n A D sn S B G hr ro := I.fr (fun q hq _ _ => up_ne fun e => hq (e ▸ hc)) (Nat.le_refl _) (fun q hq => .inl hq)
theorem S_up (s : SR Z0 lo h nx0 n A D sn S g0 G hr ro ra rs Pa Ps) (hc : ¬ Z0 c) (x : zC) : SR Z0 lo (z_up h c x) nx0 n A D sn S g0 G hr ro ra rs Pa Ps := s.fr (fun q hq => up_ne fun e => hc (e ▸ hq)) (Nat.le_refl _) (fun _ q => q)
set_option maxHeartbeats 2000000 in
theorem s_col (I : IC Z1 t0 lo h nx n A D sn S B G hr ro) (h1 : Z1 c) (s : SR Z0 lo h nx0 n A D sn S g0 G hr ro ra rs Pa Ps) (h0 : ¬ Z0 c) {X : Nat} (hX : X < 24) (a b : Int) {R : Type} (rec24 : Int32 → zH → Option R) : (wl7 (fun rec96 (x4_96 : Int32) (x5_96 : Int32) (x6_96 : Int32) (x7_96 : Int32) (x8_96 : Int32) (x9_96 : Int32) (h_96 : zH) => (if (24 : Int32) ≤ x9_96 then (z_ck h_96 lo 5).bind fun _ => z_tn (M_X4_cord h_96 lo (zi (X : Int)) (0 : Int32)) fun r98 => (if r98 = x4_96 then z_tn (M_X4_cord h_96 lo (zi (X : Int)) (1 : Int32)) fun r99 => (if r99 = x5_96 then z_tn (M_X4_cord h_96 lo (zi (X : Int)) (2 : Int32)) fun r100 => (if r100 = x6_96 then z_tn (M_X4_cord h_96 lo (zi (X : Int)) (3 : Int32)) fun r101 => (if r101 = x8_96 then (rec24 ((zi (X : Int)) + (1 : Int32)) h_96) else none) else none) else none) else none) else (z_ck h_96 (lo + 11) 6).bind fun _ => (M_X5_lying h_96 (lo + 11) (zi (X : Int)) x9_96).bind fun r107 => (z_aI h_96 c (6 : Int32)).bind fun r108 => jn4 (fun (b0_109 : Nat) (s1_109 : Int32) (s2_109 : Int32) (s3_109 : Int32) => (z_sI h_96 b0_109 s1_109 (s2_109 + s3_109)).bind fun h_110 => (z_aI h_110 c (8 : Int32)).bind fun r111 => (z_gR h_110 (lo + 11) 6 2).bind fun r112 => (z_aD h_110 r112 (zi (X : Int))).bind fun r113 => (z_aI h_110 r113 x9_96).bind fun r114 => (z_sI h_110 c (8 : Int32) (r111 + r114)).bind fun h_115 => (z_ck h_115 lo 5).bind fun _ => z_tn (M_X4_cell h_115 lo (zi (X : Int)) x9_96 (0 : Int32)) fun r117 => (if r117 = r107 then z_tn (M_X4_cell h_115 lo (zi (X : Int)) x9_96 (1 : Int32)) fun r118 => (z_ck h_115 (lo + 11) 6).bind fun _ => (M_X5_highest h_115 (lo + 11) (zi (X : Int)) x9_96 (10 : Int32)).bind fun r120 => (if r118 = r120 then z_tn (M_X4_cell h_115 lo (zi (X : Int)) x9_96 (2 : Int32)) fun r121 => (z_gR h_115 (lo + 11) 6 2).bind fun r122 => (z_aD h_115 r122 (zi (X : Int))).bind fun r123 => (z_aI h_115 r123 x9_96).bind fun r124 => (if r121 = r124 then jn1 (fun (s0_125 : Int32) => jn2 (fun (s0_126 : Int32) (s1_126 : Int32) => jn2 (fun (s0_127 : Int32) (s1_127 : Int32) => (rec96 (s0_126 + s1_126) (s0_127 + s1_127) (if x6_96 < s0_125 then s0_125 else x6_96) s0_125 (if x8_96 < r107 then r107 else x8_96) (x9_96 + (1 : Int32)) h_115)) fun J127 => (if s0_125 = (1 : Int32) then (J127 x5_96 (1 : Int32)) else (J127 x5_96 (0 : Int32)))) fun J126 => (if r107 ≤ 0 then (J126 x4_96 (0 : Int32)) else (J126 x4_96 (1 : Int32)))) fun J125 => (if r107 ≤ 0 then (J125 (0 : Int32)) else (J125 (x7_96 + (1 : Int32)))) else none) else none) else none)) fun J109 => (if r107 ≤ (1 : Int32) then (J109 c (6 : Int32) r108 (0 : Int32)) else (J109 c (6 : Int32) r108 (1 : Int32))))) 700 (0 : Int32) (0 : Int32) (0 : Int32) (0 : Int32) (0 : Int32) (0 : Int32) (z_up h c (cA 11 (gg g a b)))) = rec24 (zi (X : Int) + 1) (z_up h c (cA 11 (gg g (a + sm 24 fun y => b1 (decide (2 ≤ lay A n X y))) (b + sm 24 fun y => (G X y).toInt)))) := by
  obtain ⟨hn, ho⟩ := I.ok
  have IU : ∀ F, IC Z1 t0 lo (z_up h c (cA 11 F)) nx n A D sn S B G hr ro := fun F => I_up I h1 _
  have SU : ∀ F, SR Z0 lo (z_up h c (cA 11 F)) nx0 n A D sn S g0 G hr ro ra rs Pa Ps := fun F => S_up s h0 _
  refine wl7_st (fun y => zi (sm y fun y => b1 (decide (0 < lay A n X y)))) (fun y => zi (sm y fun y => b1 (decide (0 < lay A n X y ∧ lay A n X ((y : Int) - 1) = 0)))) (fun y => zi (lgm A n X y)) (fun y => zi (lgr A n X y)) (fun y => zi (mxl A n X y)) (fun y => zi (y : Int)) (fun k => z_up h c (cA 11 (gg g (a + sm k fun y => b1 (decide (2 ≤ lay A n X y))) (b + sm k fun y => (G X y).toInt)))) 24 rfl rfl rfl rfl rfl rfl ?_ ?_ ?_ 700 (by omega)
  · show _ = z_up h c (cA 11 (gg g (a + 0) (b + 0)))
    rw [Int.add_zero, Int.add_zero]
  · intro rec y hy
    generalize ea : (a + sm y fun y => b1 (decide (2 ≤ lay A n X y))) = a'
    generalize eb : (b + sm y fun y => (G X y).toInt) = b'
    have lb := lay_bd A n X y
    have r1 : ∀ F, M_X5_lying (z_up h c (cA 11 F)) (lo + 11) (zi (X : Int)) (zi (y : Int)) = some (zi (lay A n X y)) := fun F => y_lying (SU F).1 (SU F).2.1 (by omega) (by omega)
    have r2 : ∀ F, M_X5_highest (z_up h c (cA 11 F)) (lo + 11) (zi (X : Int)) (zi (y : Int)) 10 = some (zi (hbS A 10 X y n).1) := fun F => y_highest (l := 10) (SU F).1 (SU F).2.1 (by omega) (by omega) (by omega)
    have r3 : ∀ F, z_gR (z_up h c (cA 11 F)) (lo + 11) 6 2 = some (lo + 14) := fun F => gR_of (SU F).1 (k := 2) rfl
    have r4 : ∀ F, z_aD (z_up h c (cA 11 F)) (lo + 14) (zi (X : Int)) = some (lo + 15 + X) := fun F => g_col (SU F).2.2.2.1 hX
    have r5 : ∀ F, z_aI (z_up h c (cA 11 F)) (lo + 15 + X) (zi (y : Int)) = some (G X y) := fun F => g_at (SU F).2.2.2.1 hX hy
    have r6 : ∀ F, z_ck (z_up h c (cA 11 F)) (lo + 11) 6 = some () := fun F => ck_of (SU F).1
    have l0 : ∀ F, M_X4_cell (z_up h c (cA 11 F)) lo (zi (X : Int)) (zi (y : Int)) 0 = some (.inr (zi (lay A n X y))) := fun F => (c_cell (IU F) (a := (X : Int)) (b := (y : Int)) (w := 0) (by omega) (by omega) (by omega)).1 (by omega)
    have l1 : ∀ F, M_X4_cell (z_up h c (cA 11 F)) lo (zi (X : Int)) (zi (y : Int)) 1 = some (.inr (zi (hbS A 10 X y n).1)) := fun F => (c_cell (IU F) (a := (X : Int)) (b := (y : Int)) (w := 1) (by omega) (by omega) (by omega)).1 (by omega)
    have l2 : ∀ F, M_X4_cell (z_up h c (cA 11 F)) lo (zi (X : Int)) (zi (y : Int)) 2 = some (.inr (G X y)) := fun F => by
      have := (c_cell (IU F) (a := (X : Int)) (b := (y : Int)) (w := 2) (by omega) (by omega) (by omega)).1 (by omega)
      exact this
    have i6 : ∀ F, z_aI (z_up h c (cA 11 F)) c 6 = some (F 6) := fun F => cI_of (up_at ..) (i := 6) (by omega) (by omega) (by omega)
    have i8 : ∀ F, z_aI (z_up h c (cA 11 F)) c 8 = some (F 8) := fun F => cI_of (up_at ..) (i := 8) (by omega) (by omega) (by omega)
    have j6 : ∀ F v, z_sI (z_up h c (cA 11 F)) c 6 v = some (z_up h c (cA 11 fun p => if p = 6 then v else F p)) := fun F v => sI8 (k := 6) (by omega) (by omega)
    have j8 : ∀ F v, z_sI (z_up h c (cA 11 F)) c 8 v = some (z_up h c (cA 11 fun p => if p = 8 then v else F p)) := fun F v => sI8 (k := 8) (by omega) (by omega)
    have c0 : (zi (lay A n X y) ≤ 0) = (lay A n X y ≤ 0) := zi_le (b := 0) (by omega) (by omega) (by omega) (by omega)
    have c1 : (zi (lay A n X y) ≤ 1) = (lay A n X y ≤ 1) := zi_le (b := 1) (by omega) (by omega) (by omega) (by omega)
    rw [if_neg (by rw [le24 (by omega)]; omega), r6, ob_some, r1, ob_some, i6, ob_some, jn4_if, j6, ob_some, i8, ob_some, r3, ob_some, r4, ob_some, r5, ob_some, j8, ob_some, (IU _).x5, ob_some, l0, tn_e, if_pos rfl, l1, tn_e, r6, ob_some, r2, ob_some, if_pos rfl, l2, tn_e, r3, ob_some, r4, ob_some, r5, ob_some, if_pos rfl, jn1_if, jn2_if, jn2_if]
    have key : ∀ {p1 q1 p2 q2 p3 q3 p4 q4 p5 q5 p6 q6 : Int32} {p7 q7 : zH}, p1 = q1 → p2 = q2 → p3 = q3 → p4 = q4 → p5 = q5 → p6 = q6 → p7 = q7 → rec p1 p2 p3 p4 p5 p6 p7 = rec q1 q2 q3 q4 q5 q6 q7 := by
      intros
      subst_vars
      rfl
    have rb := lgr_bd A n X y
    have rb' := lgr_bd A n X (y + 1)
    have mb := lgm_bd A n X y
    have xb := mxl_bd A n X y
    have run := (run_sm ho X y (by omega)).2
    have e4 : (if zi (lay A n X y) ≤ 0 then (0 : Int32) else zi (lgr A n X y) + 1) = zi (lgr A n X (y + 1)) := by
      rw [lgr]
      by_cases q : 0 < lay A n X y
      · rw [if_neg (by rw [c0]; omega), if_pos q]; exact zi_add _ 1
      · rw [if_pos (by rw [c0]; omega), if_neg q]; rfl
    have c2 : (zi (lgr A n X (y + 1)) = 1) = (lgr A n X (y + 1) = 1) := zi_eq (b := 1) (by omega) (by omega) (by omega) (by omega)
    have c3 : (zi (lgm A n X y) < zi (lgr A n X (y + 1))) = (lgm A n X y < lgr A n X (y + 1)) := zi_lt (by omega) (by omega) (by omega) (by omega)
    have c4 : (zi (mxl A n X y) < zi (lay A n X y)) = (mxl A n X y < lay A n X y) := zi_lt (by omega) (by omega) (by omega) (by omega)
    rw [e4]
    refine key ?_ ?_ ?_ rfl ?_ (zi_add _ 1) ?_
    · rw [sm]
      by_cases q : 0 < lay A n X y
      · rw [if_neg (by rw [c0]; omega), b1d_t q]; exact zi_add _ 1
      · rw [if_pos (by rw [c0]; omega), b1d_f q]; exact zi_add _ 0
    · rw [sm]
      have lb' := lay_bd A n X ((y : Int) - 1)
      have lr : lgr A n X (y + 1) = if 0 < lay A n X y then lgr A n X y + 1 else 0 := rfl
      by_cases q : 0 < lay A n X y ∧ lay A n X ((y : Int) - 1) = 0
      · rw [b1d_t q, if_pos]
        · exact zi_add _ 1
        · rw [c2, lr, if_pos q.1]
          have := fun w => run.mp w
          omega
      · rw [b1d_f q, if_neg]
        · exact zi_add _ 0
        · rw [c2, lr]
          intro w
          by_cases q1 : 0 < lay A n X y
          · rw [if_pos q1] at w
            refine q ⟨q1, ?_⟩
            have := fun w => run.mpr w
            omega
          · rw [if_neg q1] at w; omega
    · rw [lgm]
      by_cases q : lgm A n X y < lgr A n X (y + 1)
      · rw [if_pos (by rw [c3]; exact q), if_pos q]
      · rw [if_neg (by rw [c3]; exact q), if_neg q]
    · rw [mxl]
      by_cases q : mxl A n X y < lay A n X y
      · rw [if_pos (by rw [c4]; exact q), if_pos q]
      · rw [if_neg (by rw [c4]; exact q), if_neg q]
    · have s1 : (a + sm (y + 1) fun y => b1 (decide (2 ≤ lay A n X y))) = a' + b1 (decide (2 ≤ lay A n X y)) := by rw [← ea, sm, Int.add_assoc]
      have s2 : (b + sm (y + 1) fun y => (G X y).toInt) = b' + (G X y).toInt := by rw [← eb, sm, Int.add_assoc]
      rw [s1, s2]
      refine up_congr fun p _ => ?_
      show (if p = 8 then zi b' + G X y else if p = 6 then zi a' + (if zi (lay A n X y) ≤ 1 then (0 : Int32) else 1) else gg g a' b' p) = gg g (a' + b1 (decide (2 ≤ lay A n X y))) (b' + (G X y).toInt) p
      unfold gg
      by_cases q8 : p = 8
      · rw [if_pos q8, if_pos q8, ← zi_add, zi_self]
      · simp only [if_neg q8]
        by_cases q6 : p = 6
        · simp only [if_pos q6]
          by_cases q : lay A n X y ≤ 1
          · rw [if_pos (by rw [c1]; exact q), b1d_f (by omega)]; exact zi_add _ 0
          · rw [if_neg (by rw [c1]; exact q), b1d_t (by omega)]; exact zi_add _ 1
        · simp only [if_neg q6]
  · intro rec
    have cd : ∀ (F) (w : Nat), w ≤ 3 → M_X4_cord (z_up h c (cA 11 F)) lo (zi (X : Int)) (zi (w : Int)) = some (.inr (zi (cordS A n X w))) := fun F w hw => (c_cord (IU F) (a := (X : Int)) (w := (w : Int)) (by omega) (by omega)).1 (by omega)
    have k0 : ∀ F, M_X4_cord (z_up h c (cA 11 F)) lo (zi (X : Int)) 0 = some (.inr (zi (cordS A n X 0))) := fun F => cd F 0 (by omega)
    have k1 : ∀ F, M_X4_cord (z_up h c (cA 11 F)) lo (zi (X : Int)) 1 = some (.inr (zi (cordS A n X 1))) := fun F => cd F 1 (by omega)
    have k2 : ∀ F, M_X4_cord (z_up h c (cA 11 F)) lo (zi (X : Int)) 2 = some (.inr (zi (cordS A n X 2))) := fun F => cd F 2 (by omega)
    have k3 : ∀ F, M_X4_cord (z_up h c (cA 11 F)) lo (zi (X : Int)) 3 = some (.inr (zi (cordS A n X 3))) := fun F => cd F 3 (by omega)
    rw [if_pos (by rw [le24 (by omega)]; omega), (IU _).x5, ob_some, k0, tn_e]
    have d0 : zi (cordS A n X 0) = zi (sm 24 fun y => b1 (decide (0 < lay A n X (y : Nat)))) := rfl
    have d1 : zi (cordS A n X 1) = zi (sm 24 fun y => b1 (decide (0 < lay A n X (y : Nat) ∧ lay A n X ((y : Int) - 1) = 0))) := rfl
    have d2 : zi (cordS A n X 2) = zi (lgm A n X 24) := rfl
    have d3 : zi (cordS A n X 3) = zi (mxl A n X 24) := rfl
    rw [if_pos d0, k1, tn_e, if_pos d1, k2, tn_e, if_pos d2, k3, tn_e, if_pos d3]
end SAME1
