/-! isSame, pure: an awning, a stall, the counts -/
def f1 (g : Nat → Int32) (a : Int) : Nat → Int32 := fun p => if p = 1 then zi a else g p
def f10 (g : Nat → Int32) (a : Int) : Nat → Int32 := fun p => if p = 10 then zi a else g p
section SAME2
variable {Z0 Z1 : Nat → Prop} {t0 lo : Nat} {h : zH} {nx nx0 n : Nat} {A : Nat → Nat → Int} {D : Nat → Int32} {sn : Nat} {S : Nat → Nat → Int} {B : Nat → Int32} {G : Nat → Nat → Int32} {hr ro : Int32} {ra rs : Nat} {Pa Ps : Nat → Nat} {c : Nat} {g : Nat → Int32}
set_option maxHeartbeats 2000000 in
theorem s_awn (I : IC Z1 t0 lo h nx n A D sn S B G hr ro) (h1 : Z1 c) (s : SR Z0 lo h nx0 n A D sn S (gotS G S B) G hr ro ra rs Pa Ps) (h0 : ¬ Z0 c) {m : Nat} (hm : hr = zi (m : Int)) (hm2 : m ≤ 100000) {i : Nat} (hi : i < n) (a : Int) {R : Type} (rec25 : Int32 → zH → Option R) : ((z_aI (z_up h c (cA 11 (f1 g a))) c (1 : Int32)).bind fun r65 => (z_gR (z_up h c (cA 11 (f1 g a))) (lo + 11) 6 0).bind fun r66 => (z_aD (z_up h c (cA 11 (f1 g a))) r66 (zi (i : Int))).bind fun r67 => (z_aI (z_up h c (cA 11 (f1 g a))) r67 (6 : Int32)).bind fun r68 => (z_sI (z_up h c (cA 11 (f1 g a))) c (1 : Int32) (r65 + r68)).bind fun h_69 => wl1 (fun rec70 (x4_70 : Int32) => (if (7 : Int32) ≤ x4_70 then (z_ck h_69 lo 5).bind fun _ => z_tn (M_X4_about h_69 lo (zi (i : Int)) (7 : Int32)) fun r72 => (z_ck h_69 (lo + 11) 6).bind fun _ => (M_X5_own h_69 (lo + 11) (zi (i : Int))).bind fun r74 => (if r72 = r74 then z_tn (M_X4_about h_69 lo (zi (i : Int)) (8 : Int32)) fun r75 => (z_gR h_69 (lo + 11) 6 0).bind fun r76 => (z_aD h_69 r76 (zi (i : Int))).bind fun r77 => (z_aI h_69 r77 (7 : Int32)).bind fun r78 => (if r75 = r78 then (z_gI h_69 (lo + 11) 6 3).bind fun r79 => (z_gR h_69 (lo + 11) 6 0).bind fun r80 => (z_al h_69 r80).bind fun r81 => (if r81 = 0 then none else z_tn (M_X4_share h_69 lo (zi (i : Int)) (((zi (i : Int)) + r79) - ((zi (i : Int)) + r79) / r81 * r81)) fun r83 => (M_X5_shared h_69 (lo + 11) (zi (i : Int)) (((zi (i : Int)) + r79) - ((zi (i : Int)) + r79) / r81 * r81)).bind fun r84 => (if r83 = r84 then (rec25 ((zi (i : Int)) + (1 : Int32)) h_69) else none)) else none) else none) else (z_ck h_69 lo 5).bind fun _ => z_tn (M_X4_about h_69 lo (zi (i : Int)) x4_70) fun r89 => (z_gR h_69 (lo + 11) 6 0).bind fun r90 => (z_aD h_69 r90 (zi (i : Int))).bind fun r91 => (z_aI h_69 r91 x4_70).bind fun r92 => (if r89 = r92 then (rec70 (x4_70 + (1 : Int32))) else none))) 700 (0 : Int32)) = rec25 (zi (i : Int) + 1) (z_up h c (cA 11 (f1 g (a + A i 6)))) := by
  obtain ⟨hn, ho⟩ := I.ok
  have IU : ∀ F, IC Z1 t0 lo (z_up h c (cA 11 F)) nx n A D sn S B G hr ro := fun F => I_up I h1 _
  have SU : ∀ F, SR Z0 lo (z_up h c (cA 11 F)) nx0 n A D sn S (gotS G S B) G hr ro ra rs Pa Ps := fun F => S_up s h0 _
  have q0 : ∀ F, z_gR (z_up h c (cA 11 F)) (lo + 11) 6 0 = some ra := fun F => gR_of (SU F).1 (k := 0) rfl
  have q1 : ∀ F, z_aD (z_up h c (cA 11 F)) ra (zi (i : Int)) = some (Pa i) := fun F => y_aw (SU F).2.1 hi
  have q2 : ∀ F, z_aI (z_up h c (cA 11 F)) (Pa i) 6 = some (zi (A i 6)) := fun F => y_f6 (SU F).2.1 hi
  have q3 : ∀ F, z_aI (z_up h c (cA 11 F)) (Pa i) 7 = some (D i) := fun F => y_f7 (SU F).2.1 hi
  have q4 : ∀ F, z_ck (z_up h c (cA 11 F)) (lo + 11) 6 = some () := fun F => ck_of (SU F).1
  have q5 : ∀ F, M_X5_own (z_up h c (cA 11 F)) (lo + 11) (zi (i : Int)) = some (zi (ownS A n i)) := fun F => y_own (SU F).1 (SU F).2.1 hi
  have q6 : ∀ F, z_gI (z_up h c (cA 11 F)) (lo + 11) 6 3 = some (zi (m : Int)) := fun F => by rw [← hm]; exact gI_of (SU F).1 (k := 3) rfl
  have q7 : ∀ F, z_al (z_up h c (cA 11 F)) ra = some (zi (n : Int)) := fun F => y_len (SU F).2.1
  have i1 : ∀ F, z_aI (z_up h c (cA 11 F)) c 1 = some (F 1) := fun F => cI_of (up_at ..) (i := 1) (by omega) (by omega) (by omega)
  have j1 : ∀ F v, z_sI (z_up h c (cA 11 F)) c 1 v = some (z_up h c (cA 11 fun p => if p = 1 then v else F p)) := fun F v => sI8 (k := 1) (by omega) (by omega)
  have eu : z_up h c (cA 11 fun p => if p = 1 then f1 g a 1 + zi (A i 6) else f1 g a p) = z_up h c (cA 11 (f1 g (a + A i 6))) := by
    refine up_congr fun p _ => ?_
    unfold f1
    by_cases e : p = 1
    · rw [if_pos e, if_pos e, if_pos rfl, zi_add]
    · simp only [if_neg e]
  rw [i1, ob_some, q0, ob_some, q1, ob_some, q2, ob_some, j1, ob_some, eu]
  generalize f1 g (a + A i 6) = F
  have x5 := (IU F).x5
  have u7 := a_o (IU F) hi
  have u8 : M_X4_about (z_up h c (cA 11 F)) lo (zi (i : Int)) 8 = some (.inr (D i)) := by
    have := (c_about (IU F) (a := (i : Int)) (w := 8) (by omega) (by omega)).1 (by omega)
    rw [Int.toNat_natCast] at this
    exact this
  refine wl1_st (fun k => zi (k : Int)) 7 n_0 ?_ ?_ 700 (by omega)
  · intro rec k hk
    have e : ((7 : Int32) ≤ zi (k : Int)) = ((7 : Int) ≤ k) := zi_le (a := 7) (by omega) (by omega) (by omega) (by omega)
    have e9 : zi (k : Int) + 1 = zi ((k + 1 : Nat) : Int) := zi_add _ 1
    rw [if_neg (by rw [e]; omega), x5, ob_some, a_f (IU F) hi hk, tn_e, q0, ob_some, q1, ob_some, y_f (SU F).2.1 hi hk, ob_some, if_pos rfl, e9]
  · intro rec
    have e : ((7 : Int32) ≤ zi ((7 : Nat) : Int)) := by decide
    have z : (zi (n : Int) = 0) = ((n : Int) = 0) := zi_eq (b := 0) (by omega) (by omega) (by omega) (by omega)
    obtain ⟨j, hj, ej⟩ : ∃ j : Nat, j < n ∧ zi (i : Int) + zi (m : Int) - (zi (i : Int) + zi (m : Int)) / zi (n : Int) * zi (n : Int) = zi (j : Int) := by
      refine ⟨(i + m) % n, Nat.mod_lt _ (by omega), ?_⟩
      rw [zi_add, zi_div (by omega) (by omega) (by omega) (by omega), zi_mul, zi_sub]
      congr 1
      have := Int.emod_add_mul_ediv ((i : Int) + m) n
      rw [Int.natCast_emod, Int.natCast_add, Int.mul_comm]
      omega
    have sh : M_X4_share (z_up h c (cA 11 F)) lo (zi (i : Int)) (zi (j : Int)) = some (.inr (zi (shrS A i j))) := by
      have := (c_share (IU F) (a := (i : Int)) (w := (j : Int)) (by omega) (by omega)).1 (by omega)
      rw [Int.toNat_natCast, Int.toNat_natCast] at this
      exact this
    have sy : M_X5_shared (z_up h c (cA 11 F)) (lo + 11) (zi (i : Int)) (zi (j : Int)) = some (zi (shrS A i j)) := y_shared (SU F).1 (SU F).2.1 hi hj
    rw [if_pos e, x5, ob_some, u7, tn_e, q4, ob_some, q5, ob_some, if_pos rfl, u8, tn_e, q0, ob_some, q1, ob_some, q3, ob_some, if_pos rfl, q6, ob_some, ob_some, q7, ob_some, if_neg (by rw [z]; omega), ej, sh, tn_e, sy, ob_some, if_pos rfl]
set_option maxHeartbeats 2000000 in
theorem s_stl (I : IC Z1 t0 lo h nx n A D sn S B G hr ro) (h1 : Z1 c) (s : SR Z0 lo h nx0 n A D sn S (gotS G S B) G hr ro ra rs Pa Ps) (h0 : ¬ Z0 c) {i : Nat} (hi : i < sn) (a : Int) (x3 : Int32) {R : Type} (rec28 : Int32 → Int32 → zH → Option R) : ((z_gR (z_up h c (cA 11 (f10 g a))) (lo + 11) 6 1).bind fun r37 => (z_aD (z_up h c (cA 11 (f10 g a))) r37 (zi (i : Int))).bind fun r38 => (z_aI (z_up h c (cA 11 (f10 g a))) c (10 : Int32)).bind fun r39 => (z_aI (z_up h c (cA 11 (f10 g a))) r38 (0 : Int32)).bind fun r40 => (z_aI (z_up h c (cA 11 (f10 g a))) r38 (1 : Int32)).bind fun r41 => (z_ck (z_up h c (cA 11 (f10 g a))) (lo + 11) 6).bind fun _ => (M_X5_isCovered (z_up h c (cA 11 (f10 g a))) (lo + 11) r40 r41).bind fun r43 => jn4 (fun (b0_44 : Nat) (s1_44 : Int32) (s2_44 : Int32) (s3_44 : Int32) => (z_sI (z_up h c (cA 11 (f10 g a))) b0_44 s1_44 (s2_44 + s3_44)).bind fun h_45 => (z_aI h_45 r38 (2 : Int32)).bind fun r46 => (z_ck h_45 lo 5).bind fun _ => z_tn (M_X4_told h_45 lo (zi (i : Int)) (0 : Int32)) fun r48 => (z_aI h_45 r38 (0 : Int32)).bind fun r49 => (if r48 = r49 then z_tn (M_X4_told h_45 lo (zi (i : Int)) (1 : Int32)) fun r50 => (z_aI h_45 r38 (1 : Int32)).bind fun r51 => (if r50 = r51 then z_tn (M_X4_told h_45 lo (zi (i : Int)) (2 : Int32)) fun r52 => (z_aI h_45 r38 (2 : Int32)).bind fun r53 => (if r52 = r53 then z_tn (M_X4_told h_45 lo (zi (i : Int)) (3 : Int32)) fun r54 => (z_aI h_45 r38 (0 : Int32)).bind fun r55 => (z_aI h_45 r38 (1 : Int32)).bind fun r56 => (z_ck h_45 (lo + 11) 6).bind fun _ => (M_X5_lying h_45 (lo + 11) r55 r56).bind fun r58 => (if r54 = r58 then (rec28 (x3 + r46) ((zi (i : Int)) + (1 : Int32)) h_45) else none) else none) else none) else none)) fun J44 => (if r43 = 0 then (J44 c (10 : Int32) r39 (1 : Int32)) else (J44 c (10 : Int32) r39 (0 : Int32)))) = rec28 (x3 + gotS G S B i) (zi (i : Int) + 1) (z_up h c (cA 11 (f10 g (a + b1 (decide (lay A n (S i 0) (S i 1) = 0)))))) := by
  obtain ⟨hn, ho⟩ := I.ok
  have hs8 := s.2.2.1.1
  have o := s.2.2.1.2.2.2 i hi
  have lb := lay_bd A n (S i 0) (S i 1)
  have IU : ∀ F, IC Z1 t0 lo (z_up h c (cA 11 F)) nx n A D sn S B G hr ro := fun F => I_up I h1 _
  have SU : ∀ F, SR Z0 lo (z_up h c (cA 11 F)) nx0 n A D sn S (gotS G S B) G hr ro ra rs Pa Ps := fun F => S_up s h0 _
  have q0 : ∀ F, z_gR (z_up h c (cA 11 F)) (lo + 11) 6 1 = some rs := fun F => gR_of (SU F).1 (k := 1) rfl
  have q1 : ∀ F, z_aD (z_up h c (cA 11 F)) rs (zi (i : Int)) = some (Ps i) := fun F => s_aw (SU F).2.2.1 hi
  have p0 : ∀ F, z_aI (z_up h c (cA 11 F)) (Ps i) 0 = some (zi (S i 0)) := fun F => s_f0 (SU F).2.2.1 hi
  have p1 : ∀ F, z_aI (z_up h c (cA 11 F)) (Ps i) 1 = some (zi (S i 1)) := fun F => s_f1 (SU F).2.2.1 hi
  have p2 : ∀ F, z_aI (z_up h c (cA 11 F)) (Ps i) 2 = some (gotS G S B i) := fun F => s_f2 (SU F).2.2.1 hi
  have q4 : ∀ F, z_ck (z_up h c (cA 11 F)) (lo + 11) 6 = some () := fun F => ck_of (SU F).1
  have q5 : ∀ F, M_X5_isCovered (z_up h c (cA 11 F)) (lo + 11) (zi (S i 0)) (zi (S i 1)) = some (zi (b1 (pq A n (S i 0) (S i 1)))) := fun F => y_isCov (SU F).1 (SU F).2.1 (by omega) (by omega)
  have q6 : ∀ F, M_X5_lying (z_up h c (cA 11 F)) (lo + 11) (zi (S i 0)) (zi (S i 1)) = some (zi (lay A n (S i 0) (S i 1))) := fun F => y_lying (SU F).1 (SU F).2.1 (by omega) (by omega)
  have i10 : ∀ F, z_aI (z_up h c (cA 11 F)) c 10 = some (F 10) := fun F => cI_of (up_at ..) (i := 10) (by omega) (by omega) (by omega)
  have j10 : ∀ F v, z_sI (z_up h c (cA 11 F)) c 10 v = some (z_up h c (cA 11 fun p => if p = 10 then v else F p)) := fun F v => sI8 (k := 10) (by omega) (by omega)
  have td : ∀ (F) (w : Nat), w ≤ 3 → M_X4_told (z_up h c (cA 11 F)) lo (zi (i : Int)) (zi (w : Int)) = some (.inr (toldS A n G S B i w)) := fun F w hw => by
    have := (c_told (IU F) (a := (i : Int)) (w := (w : Int)) (by omega) (by omega)).1 (by omega)
    rw [Int.toNat_natCast] at this
    exact this
  have t0' : ∀ F, M_X4_told (z_up h c (cA 11 F)) lo (zi (i : Int)) 0 = some (.inr (zi (S i 0))) := fun F => td F 0 (by omega)
  have t1 : ∀ F, M_X4_told (z_up h c (cA 11 F)) lo (zi (i : Int)) 1 = some (.inr (zi (S i 1))) := fun F => td F 1 (by omega)
  have t2 : ∀ F, M_X4_told (z_up h c (cA 11 F)) lo (zi (i : Int)) 2 = some (.inr (gotS G S B i)) := fun F => td F 2 (by omega)
  have t3 : ∀ F, M_X4_told (z_up h c (cA 11 F)) lo (zi (i : Int)) 3 = some (.inr (zi (lay A n (S i 0) (S i 1)))) := fun F => td F 3 (by omega)
  have ev : f10 g a 10 + (if zi (b1 (pq A n (S i 0) (S i 1))) = 0 then (1 : Int32) else 0) = zi (a + b1 (decide (lay A n (S i 0) (S i 1) = 0))) := by
    have e0 : f10 g a 10 = zi a := rfl
    rw [e0]
    by_cases q : lay A n (S i 0) (S i 1) = 0
    · rw [b1d_t q, if_pos]
      · exact zi_add _ 1
      · unfold pq; rw [b1d_f (by omega)]; rfl
    · rw [b1d_f q, if_neg]
      · exact zi_add _ 0
      · unfold pq; rw [b1d_t (by omega)]; decide
  have eu : z_up h c (cA 11 fun p => if p = 10 then zi (a + b1 (decide (lay A n (S i 0) (S i 1) = 0))) else f10 g a p) = z_up h c (cA 11 (f10 g (a + b1 (decide (lay A n (S i 0) (S i 1) = 0))))) := by
    refine up_congr fun p _ => ?_
    unfold f10
    by_cases e : p = 10
    · simp only [if_pos e]
    · simp only [if_neg e]
  rw [q0, ob_some, q1, ob_some, i10, ob_some, p0, ob_some, p1, ob_some, q4, ob_some, q5, ob_some, jn4_if, j10, ob_some, ev, eu]
  generalize f10 g (a + b1 (decide (lay A n (S i 0) (S i 1) = 0))) = F
  rw [p2, ob_some, (IU F).x5, ob_some, t0', tn_e, p0, ob_some, if_pos rfl, t1, tn_e, p1, ob_some, if_pos rfl, t2, tn_e, ob_some, if_pos rfl, t3, tn_e, ob_some, ob_some, q4, ob_some, q6, ob_some, if_pos rfl]
set_option maxHeartbeats 2000000 in
theorem s_cnt (I : IC Z1 t0 lo h nx n A D sn S B G hr ro) (h1 : Z1 c) (hg : ∀ k : Nat, k < 11 → ctS A n S sn G hr ro k = g k) : ∃ hf, IC Z1 t0 lo hf nx n A D sn S B G hr ro ∧ frC Z1 (z_up h c (cA 11 g)) hf ∧ ∀ (R : Type) (K : zH → Option R), (wl2 (fun rec31 (x4_31 : Int32) (h_31 : zH) => (if (11 : Int32) ≤ x4_31 then (K h_31) else (z_ck h_31 lo 5).bind fun _ => z_tn (M_X4_count h_31 lo x4_31) fun r33 => (z_aI r33.2 c x4_31).bind fun r34 => (if r33.1 = r34 then (rec31 (x4_31 + (1 : Int32)) r33.2) else none))) 700 (0 : Int32) (z_up h c (cA 11 (g)))) = K hf := by
  have IU : IC Z1 t0 lo (z_up h c (cA 11 g)) nx n A D sn S B G hr ro := I_up I h1 _
  obtain ⟨h5, e5, I5, fr5⟩ := (c_count IU (w := 5) (by omega)).1 (by omega)
  have hc5 : h5 c = some (cA 11 g) := (fr5 c h1).trans (up_at ..)
  refine ⟨h5, I5, fr5, fun R K => ?_⟩
  refine wl2_st (fun k => zi (k : Int)) (fun k => if k ≤ 5 then z_up h c (cA 11 g) else h5) 11 rfl rfl ?_ ?_ 700 (by omega)
  · intro rec k hk
    have e : ((11 : Int32) ≤ zi (k : Int)) = ((11 : Int) ≤ k) := zi_le (a := 11) (by omega) (by omega) (by omega) (by omega)
    have e9 : zi (k : Int) + 1 = zi ((k + 1 : Nat) : Int) := zi_add _ 1
    have g9 := hg k hk
    have step : ∀ H H' : zH, z_ck H lo 5 = some () → M_X4_count H lo (zi (k : Int)) = some (.inr (ctS A n S sn G hr ro k, H')) → z_aI H' c (zi (k : Int)) = some (g k) → ((z_ck H lo 5).bind fun _ => z_tn (M_X4_count H lo (zi (k : Int))) fun r33 => (z_aI r33.2 c (zi (k : Int))).bind fun r34 => (if r33.1 = r34 then (rec (zi (k : Int) + (1 : Int32)) r33.2) else none)) = rec (zi ((k + 1 : Nat) : Int)) H' := by
      intro H H' a1 a2 a3
      rw [a1, ob_some, a2, tn_e]
      show (z_aI H' c (zi (k : Int))).bind _ = _
      rw [a3, ob_some, e9]
      exact if_pos g9
    have rd : ∀ H : zH, H c = some (cA 11 g) → z_aI H c (zi (k : Int)) = some (g k) := fun H e => by
      rw [cI_of e (by omega) (by omega) (by omega), Int.toNat_natCast]
    rw [if_neg (by rw [e]; omega)]
    rcases (show k < 5 ∨ k = 5 ∨ 5 < k by omega) with q | q | q
    · rw [if_pos (show k ≤ 5 by omega), if_pos (show k + 1 ≤ 5 by omega)]
      exact step _ _ IU.x5 (c_count_h IU (w := (k : Int)) (by omega) (by omega)) (rd _ (up_at ..))
    · subst q
      rw [if_pos (show 5 ≤ 5 by omega), if_neg (show ¬ 5 + 1 ≤ 5 by omega)]
      exact step _ _ IU.x5 e5 (rd _ hc5)
    · rw [if_neg (show ¬ k ≤ 5 by omega), if_neg (show ¬ k + 1 ≤ 5 by omega)]
      exact step _ _ I5.x5 (c_count_h I5 (w := (k : Int)) (by omega) (by omega)) (rd _ hc5)
  · intro rec
    have e : ((11 : Int32) ≤ zi ((11 : Nat) : Int)) := by decide
    rw [if_pos e]
    rfl
end SAME2
