/-! THE SIM: its cells, all of them; rain -/
def st3 (S : Nat → Int) (g : Int32) : Nat → Int32 := fun k => if k = 2 then g else zi (S k)
def kSs (h : zH) (rs sn : Nat) (Ps : Nat → Nat) (S : Nat → Nat → Int) (g : Nat → Int32) : Prop := sn ≤ 8 ∧ (∃ f, h rs = some (zD sn f) ∧ ∀ i, i < sn → f i = some (Ps i)) ∧ (∀ i, i < sn → h (Ps i) = some (cA 3 (st3 (S i) (g i)))) ∧ okS2 S sn
def kSg (h : zH) (lo : Nat) (G : Nat → Nat → Int32) : Prop := (∃ f, h (lo + 14) = some (zD 24 f) ∧ ∀ x, x < 24 → f x = some (lo + 15 + x)) ∧ ∀ x, x < 24 → h (lo + 15 + x) = some (cA 24 (G x))
/-- addresses, apart -/
def ISm (lo nx n sn ra rs : Nat) (Pa Ps : Nat → Nat) : Prop :=
  lo + 39 ≤ nx ∧ (ra = lo + 12 ∨ lo + 39 ≤ ra ∧ ra < nx) ∧ (rs = lo + 13 ∨ lo + 39 ≤ rs ∧ rs < nx) ∧ (∀ i, i < n → lo + 39 ≤ Pa i ∧ Pa i < nx) ∧ (∀ i, i < sn → lo + 39 ≤ Ps i ∧ Ps i < nx) ∧ ra ≠ rs ∧
    (∀ i, i < n → Pa i ≠ ra ∧ Pa i ≠ rs) ∧ (∀ i, i < sn → Ps i ≠ ra ∧ Ps i ≠ rs) ∧ (∀ i j, i < n → j < n → i ≠ j → Pa i ≠ Pa j) ∧ (∀ i j, i < sn → j < sn → i ≠ j → Ps i ≠ Ps j) ∧ ∀ i j, i < n → j < sn → Pa i ≠ Ps j
/-- .. are among Z -/
def IZm (Z : Nat → Prop) (lo n sn ra rs : Nat) (Pa Ps : Nat → Nat) : Prop := (∀ q, lo + 11 ≤ q → q < lo + 39 → Z q) ∧ Z ra ∧ Z rs ∧ (∀ i, i < n → Z (Pa i)) ∧ ∀ i, i < sn → Z (Ps i)
def SR (Z : Nat → Prop) (lo : Nat) (h : zH) (nx n : Nat) (A : Nat → Nat → Int) (D : Nat → Int32) (sn : Nat) (S : Nat → Nat → Int) (g : Nat → Int32) (G : Nat → Nat → Int32) (hr ro : Int32) (ra rs : Nat) (Pa Ps : Nat → Nat) : Prop :=
  kSm h (lo + 11) ra rs (lo + 14) hr ro ∧ kSa h ra n Pa A D ∧ kSs h rs sn Ps S g ∧ kSg h lo G ∧ ISm lo nx n sn ra rs Pa Ps ∧ IZm Z lo n sn ra rs Pa Ps
def SM (Z : Nat → Prop) (lo : Nat) (h : zH) (nx n : Nat) (A : Nat → Nat → Int) (D : Nat → Int32) (sn : Nat) (S : Nat → Nat → Int) (g : Nat → Int32) (G : Nat → Nat → Int32) (hr ro : Int32) : Prop := ∃ (ra rs : Nat) (Pa Ps : Nat → Nat), SR Z lo h nx n A D sn S g G hr ro ra rs Pa Ps
theorem kSs_eq {h h' : zH} {rs sn : Nat} {Ps : Nat → Nat} {S : Nat → Nat → Int} {g : Nat → Int32} (k : kSs h rs sn Ps S g) (e1 : h' rs = h rs) (e2 : ∀ i, i < sn → h' (Ps i) = h (Ps i)) : kSs h' rs sn Ps S g := by
  obtain ⟨h1, ⟨f, h2, h3⟩, h4, h5⟩ := k
  exact ⟨h1, ⟨f, e1.trans h2, h3⟩, fun i hi => (e2 i hi).trans (h4 i hi), h5⟩
theorem kSg_eq {h h' : zH} {lo : Nat} {G : Nat → Nat → Int32} (k : kSg h lo G) (e : ∀ q, lo + 14 ≤ q → q < lo + 39 → h' q = h q) : kSg h' lo G := by
  obtain ⟨⟨f, h2, h3⟩, h4⟩ := k
  exact ⟨⟨f, (e _ (by omega) (by omega)).trans h2, h3⟩, fun x hx => (e _ (by omega) (by omega)).trans (h4 x hx)⟩
theorem ISm.up {lo nx nx' n sn ra rs : Nat} {Pa Ps : Nat → Nat} (i : ISm lo nx n sn ra rs Pa Ps) (e : nx ≤ nx') : ISm lo nx' n sn ra rs Pa Ps := by
  obtain ⟨i1, i2, i3, i4, i5, i6⟩ := i
  exact ⟨by omega, by omega, by omega, fun j hj => by have := i4 j hj; omega, fun j hj => by have := i5 j hj; omega, i6⟩
theorem IZm.up {Z Z' : Nat → Prop} {lo n sn ra rs : Nat} {Pa Ps : Nat → Nat} (i : IZm Z lo n sn ra rs Pa Ps) (e : ∀ q, Z q → Z' q) : IZm Z' lo n sn ra rs Pa Ps := by
  obtain ⟨i1, i2, i3, i4, i5⟩ := i
  exact ⟨fun q a b => e q (i1 q a b), e _ i2, e _ i3, fun j hj => e _ (i4 j hj), fun j hj => e _ (i5 j hj)⟩
/-- the sim's cells stand in any heap that leaves Z -/
theorem SR.fr {Z Z' : Nat → Prop} {lo : Nat} {h h' : zH} {nx nx' n : Nat} {A : Nat → Nat → Int} {D : Nat → Int32} {sn : Nat} {S : Nat → Nat → Int} {g : Nat → Int32} {G : Nat → Nat → Int32} {hr ro : Int32} {ra rs : Nat} {Pa Ps : Nat → Nat} (s : SR Z lo h nx n A D sn S g G hr ro ra rs Pa Ps) (e : ∀ q, Z q → h' q = h q) (hn : nx ≤ nx') (hz : ∀ q, Z q → Z' q) : SR Z' lo h' nx' n A D sn S g G hr ro ra rs Pa Ps := by
  obtain ⟨s1, s2, s3, s4, s5, s6⟩ := s
  obtain ⟨i1, i2, i3, i4, i5⟩ := id s6
  exact ⟨(e _ (i1 _ (by omega) (by omega))).trans s1, kSa_eq s2 (e _ i2) fun i hi => e _ (i4 i hi), kSs_eq s3 (e _ i3) fun i hi => e _ (i5 i hi), kSg_eq s4 fun q a b => e _ (i1 q (by omega) b), s5.up hn, s6.up hz⟩
/-- cells set one after the other -/
def upL (H : zH) (P : Nat → Nat) (C : Nat → zC) : Nat → zH
  | 0 => H
  | k + 1 => z_up (upL H P C k) (P k) (C k)
theorem upL_ne {H : zH} {P : Nat → Nat} {C : Nat → zC} {q : Nat} (k : Nat) (e : ∀ i, i < k → q ≠ P i) : upL H P C k q = H q := by
  induction k with
  | zero => rfl
  | succ k ih => rw [upL, up_ne (e k (by omega)), ih fun i hi => e i (by omega)]
theorem upL_at {H : zH} {P : Nat → Nat} {C : Nat → zC} {k i : Nat} (e : ∀ i j, i < k → j < k → i ≠ j → P i ≠ P j) (hi : i < k) : upL H P C k (P i) = some (C i) := by
  induction k with
  | zero => omega
  | succ k ih =>
    rw [upL]
    by_cases g : i = k
    · rw [g, up_at]
    · rw [up_ne (e i k (by omega) (by omega) g), ih (fun a b ha hb => e a b (by omega) (by omega)) (by omega)]
section RAIN
variable {Z : Nat → Prop} {lo : Nat} {h : zH} {nx n : Nat} {A : Nat → Nat → Int} {D : Nat → Int32} {sn : Nat} {S : Nat → Nat → Int} {g : Nat → Int32} {G : Nat → Nat → Int32} {hr ro : Int32} {ra rs : Nat} {Pa Ps : Nat → Nat}
theorem s_len (k : kSs h rs sn Ps S g) : z_al h rs = some (zi sn) := by
  obtain ⟨f, g1, -⟩ := k.2.1
  exact alD_of g1
theorem s_aw (k : kSs h rs sn Ps S g) {i : Nat} (hi : i < sn) : z_aD h rs (zi i) = some (Ps i) := by
  obtain ⟨f, g1, g2⟩ := k.2.1
  have := k.1
  rw [aD_of g1 (by omega) (by omega) (by omega), Int.toNat_natCast, g2 i hi]
theorem s_f0 (k : kSs h rs sn Ps S g) {i : Nat} (hi : i < sn) : z_aI h (Ps i) 0 = some (zi (S i 0)) := by
  have e : z_aI h (Ps i) (zi (0 : Nat)) = some (zi (S i 0)) := by rw [cI_of (k.2.2.1 i hi) (by omega) (by omega) (by omega)]; rfl
  exact e
theorem s_f1 (k : kSs h rs sn Ps S g) {i : Nat} (hi : i < sn) : z_aI h (Ps i) 1 = some (zi (S i 1)) := by
  have e : z_aI h (Ps i) (zi (1 : Nat)) = some (zi (S i 1)) := by rw [cI_of (k.2.2.1 i hi) (by omega) (by omega) (by omega)]; rfl
  exact e
theorem s_f2 (k : kSs h rs sn Ps S g) {i : Nat} (hi : i < sn) : z_aI h (Ps i) 2 = some (g i) := by
  have e : z_aI h (Ps i) (zi (2 : Nat)) = some (g i) := by rw [cI_of (k.2.2.1 i hi) (by omega) (by omega) (by omega)]; rfl
  exact e
theorem g_col (k : kSg h lo G) {x : Nat} (hx : x < 24) : z_aD h (lo + 14) (zi x) = some (lo + 15 + x) := by
  obtain ⟨⟨f, g1, g2⟩, -⟩ := k
  rw [aD_of g1 (by omega) (by omega) (by omega), Int.toNat_natCast, g2 x hx]
theorem g_at (k : kSg h lo G) {x y : Nat} (hx : x < 24) (hy : y < 24) : z_aI h (lo + 15 + x) (zi y) = some (G x y) := by
  rw [cI_of (k.2 x hx) (by omega) (by omega) (by omega), Int.toNat_natCast]
/-- ground, with some of the hour's drops -/
def gdS (G : Nat → Nat → Int32) (F : Nat → Nat → Int) (x y : Nat) : Nat → Nat → Int32 := fun c p => if c < x ∨ (c = x ∧ p < y) then G c p + zi (F c p) else G c p
def hGd (lo : Nat) (G : Nat → Nat → Int32) (H : zH) : zH := fun q => if lo + 15 ≤ q ∧ q < lo + 39 then some (cA 24 (G (q - lo - 15))) else H q
theorem hGd_at {G : Nat → Nat → Int32} {H : zH} {x : Nat} (hx : x < 24) : hGd lo G H (lo + 15 + x) = some (cA 24 (G x)) := by
  rw [hGd, if_pos (by omega), show lo + 15 + x - lo - 15 = x by omega]
theorem hGd_ne {G : Nat → Nat → Int32} {H : zH} {q : Nat} (hq : q < lo + 15 ∨ lo + 39 ≤ q) : hGd lo G H q = H q := by rw [hGd, if_neg (by omega)]
theorem hGd_congr {G G' : Nat → Nat → Int32} {H : zH} (e : ∀ x y, x < 24 → y < 24 → G x y = G' x y) : hGd lo G H = hGd lo G' H := by
  funext q
  unfold hGd
  by_cases hq : lo + 15 ≤ q ∧ q < lo + 39
  · rw [if_pos hq, if_pos hq]
    exact congrArg some (cA_congr fun p hp => e _ _ (by omega) hp)
  · rw [if_neg hq, if_neg hq]
theorem hGd_self {H : zH} (k : ∀ x, x < 24 → H (lo + 15 + x) = some (cA 24 (G x))) : hGd lo G H = H := by
  funext q
  unfold hGd
  by_cases hq : lo + 15 ≤ q ∧ q < lo + 39
  · rw [if_pos hq, ← k (q - lo - 15) (by omega), show lo + 15 + (q - lo - 15) = q by omega]
  · rw [if_neg hq]
theorem hGd_up {G G' : Nat → Nat → Int32} {H : zH} {x : Nat} {F : Nat → Int32} (hx : x < 24) (e : ∀ p, p < 24 → F p = G' x p) (e2 : ∀ c p, c < 24 → p < 24 → c ≠ x → G c p = G' c p) : z_up (hGd lo G H) (lo + 15 + x) (cA 24 F) = hGd lo G' H := by
  funext q
  by_cases hq : q = lo + 15 + x
  · rw [hq, up_at, hGd_at hx]
    exact congrArg some (cA_congr e)
  · rw [up_ne hq]
    unfold hGd
    by_cases hq2 : lo + 15 ≤ q ∧ q < lo + 39
    · rw [if_pos hq2, if_pos hq2]
      exact congrArg some (cA_congr fun p hp => e2 _ _ (by omega) hp (by omega))
    · rw [if_neg hq2, if_neg hq2]
theorem kSs_o (k : kSs h rs sn Ps S g) {i : Nat} (hi : i < sn) : (∃ x y : Nat, S i 0 = x ∧ S i 1 = y ∧ x < 24 ∧ y < 24) := by
  have := k.2.2.2 i hi
  exact ⟨(S i 0).toNat, (S i 1).toNat, by omega, by omega, by omega, by omega⟩
theorem y_rain (s : SR Z lo h nx n A D sn S g G hr ro ra rs Pa Ps) {d : Int} (hd : 0 ≤ d ∧ d ≤ 100) :
    ∃ h', M_X5_rain h nx (lo + 11) (zi d) = some (zi (tot (pL A n d 9).1), h', nx + 1 + 25 + 1) ∧
      SR (fun q => Z q ∨ (nx ≤ q ∧ q < nx + 1 + 25 + 1)) lo h' (nx + 1 + 25 + 1) n A (fun i => D i + zi ((pL A n d 9).2.1 i)) sn S (fun i => g i + zi ((pL A n d 9).1 (S i 0).toNat (S i 1).toNat)) (fun x y => G x y + zi ((pL A n d 9).1 x y)) (hr + 1) (ro + zi (pL A n d 9).2.2) ra rs Pa Ps ∧
      ∀ q, ¬ Z q → q < nx → h' q = h q := by
  obtain ⟨s1, s2, s3, s4, s5, s6⟩ := s
  obtain ⟨i1, i2, i3, i4, i5, i6, i7, i8, i9, i10, i11⟩ := id s5
  have hn := s2.1
  have hsn := s3.1
  have hour := y_hour (nx := nx) s1 s2 (by omega) (by omega) (fun i hi => (i4 i hi).2) hd
  simp only [M_X5_rain, ck_of s1, ob_some, hour]
  generalize pL A n d 9 = σ
  -- what any of these heaps holds
  have t0 : ∀ q, q < nx → hH nx n σ h q = h q := fun q hq => hH_ne (.inl hq)
  have gx : ∀ (H : zH), (∀ q, nx ≤ q → q < nx + 27 → H q = hH nx n σ h q) → (∀ x : Nat, x < 24 → z_aD H nx (zi x) = some (nx + 1 + x)) ∧ (∀ x y : Nat, x < 24 → y < 24 → z_aI H (nx + 1 + x) (zi y) = some (zi (σ.1 x y))) ∧ z_aD H nx 24 = some (nx + 1 + 25) ∧ (∀ i : Nat, i < n → z_aI H (nx + 1 + 25) (zi i) = some (zi (σ.2.1 i))) ∧ z_aI H (nx + 1 + 25) (zi n) = some (zi σ.2.2) := by
    intro H hH0
    have q0 : H nx = some (zD 25 (oF nx)) := (hH0 _ (by omega) (by omega)).trans hH_0
    have q1 : H (nx + 1 + 25) = some (cA (n + 1) (onF n σ)) := (hH0 _ (by omega) (by omega)).trans hH_on
    refine ⟨fun x hx => ?_, fun x y hx hy => ?_, ?_, fun i hi => ?_, ?_⟩
    · rw [aD_of q0 (by omega) (by omega) (by omega), Int.toNat_natCast, oF_lt hx]
    · have q2 : H (nx + 1 + x) = some (cA 24 fun y => zi (σ.1 x y)) := (hH0 _ (by omega) (by omega)).trans (hH_c hx)
      rw [cI_of q2 (by omega) (by omega) (by omega), Int.toNat_natCast]
    · have e : z_aD H nx (zi (24 : Nat)) = some (nx + 1 + 25) := by
        rw [aD_of q0 (by omega) (by omega) (by omega), Int.toNat_natCast, oF_24]
      exact e
    · rw [cI_of q1 (by omega) (by omega) (by omega), Int.toNat_natCast, onF, if_pos hi]
    · rw [cI_of q1 (by omega) (by omega) (by omega), Int.toNat_natCast, onF, if_neg (by omega)]
  have key : ∀ r : Option (Int32 × zH × Nat), r = some (zi (tot σ.1), z_up (upL (upL (hGd lo (fun x y => G x y + zi (σ.1 x y)) (hH nx n σ h)) Pa (fun i => cA 8 (aw8 (A i) (D i + zi (σ.2.1 i)))) n) Ps (fun i => cA 3 (st3 (S i) (g i + zi (σ.1 (S i 0).toNat (S i 1).toNat)))) sn) (lo + 11) (zO 6 [.ref ra, .ref rs, .ref (lo + 14), .int (hr + 1), .int (ro + zi σ.2.2)]), nx + 1 + 25 + 1) → ∃ h', r = some (zi (tot σ.1), h', nx + 1 + 25 + 1) ∧
      SR (fun q => Z q ∨ (nx ≤ q ∧ q < nx + 1 + 25 + 1)) lo h' (nx + 1 + 25 + 1) n A (fun i => D i + zi (σ.2.1 i)) sn S (fun i => g i + zi (σ.1 (S i 0).toNat (S i 1).toNat)) (fun x y => G x y + zi (σ.1 x y)) (hr + 1) (ro + zi σ.2.2) ra rs Pa Ps ∧
      ∀ q, ¬ Z q → q < nx → h' q = h q := by
    intro r hr9
    refine ⟨_, hr9, ⟨up_at .., ?_, ?_, ?_, s5.up (by omega), s6.up fun q hq => .inl hq⟩, fun q hq hqn => ?_⟩
    · refine ⟨hn, ?_, fun i hi => ⟨?_, (s2.2.2 i hi).2⟩⟩
      · obtain ⟨f, q1, q2⟩ := s2.2.1
        refine ⟨f, ?_, q2⟩
        rw [up_ne (by omega), upL_ne sn (fun j hj => (i8 j hj).1.symm), upL_ne n (fun j hj => (i7 j hj).1.symm), hGd_ne (by omega), t0 _ (by omega), q1]
      · have := i4 i hi
        rw [up_ne (by omega), upL_ne sn (fun j hj => i11 i j hi hj), upL_at i9 hi]
    · obtain ⟨f, q1, q2⟩ := s3.2.1
      refine ⟨hsn, ⟨f, ?_, q2⟩, fun i hi => ?_, s3.2.2.2⟩
      · rw [up_ne (by omega), upL_ne sn (fun j hj => (i8 j hj).2.symm), upL_ne n (fun j hj => (i7 j hj).2.symm), hGd_ne (by omega), t0 _ (by omega), q1]
      · have := i5 i hi
        rw [up_ne (by omega), upL_at i10 hi]
    · obtain ⟨f, q1, q2⟩ := s4.1
      have lw : ∀ q, lo + 14 ≤ q → q < lo + 39 → z_up (upL (upL (hGd lo (fun x y => G x y + zi (σ.1 x y)) (hH nx n σ h)) Pa (fun i => cA 8 (aw8 (A i) (D i + zi (σ.2.1 i)))) n) Ps (fun i => cA 3 (st3 (S i) (g i + zi (σ.1 (S i 0).toNat (S i 1).toNat)))) sn) (lo + 11) (zO 6 [.ref ra, .ref rs, .ref (lo + 14), .int (hr + 1), .int (ro + zi σ.2.2)]) q = hGd lo (fun x y => G x y + zi (σ.1 x y)) (hH nx n σ h) q := by
        intro q a b
        rw [up_ne (by omega), upL_ne sn (fun j hj => by have := i5 j hj; omega), upL_ne n (fun j hj => by have := i4 j hj; omega)]
      refine ⟨⟨f, ?_, q2⟩, fun x hx => ?_⟩
      · rw [lw _ (by omega) (by omega), hGd_ne (by omega), t0 _ (by omega), q1]
      · rw [lw _ (by omega) (by omega), hGd_at hx]
    · obtain ⟨z1, z2, z3, z4, z5⟩ := id s6
      have a1 : q ≠ lo + 11 := fun e => hq (z1 q (by omega) (by omega))
      have a2 : ¬(lo + 15 ≤ q ∧ q < lo + 39) := fun e => hq (z1 q (by omega) (by omega))
      rw [up_ne a1, upL_ne sn (fun j hj e => hq (by rw [e]; exact z5 j hj)), upL_ne n (fun j hj e => hq (by rw [e]; exact z4 j hj)), hGd_ne (by omega), t0 q hqn]
  refine key _ ?_
  refine wl3_st (fun x => zi (sm x fun x => sm 24 (σ.1 x))) (fun x => zi (x : Int)) (fun x => hGd lo (gdS G σ.1 x 0) (hH nx n σ h)) 24 n_0 n_0 ?_ ?_ ?_ 700 (by omega)
  · rw [hGd_congr (G := gdS G σ.1 0 0) (G' := G) (fun x y _ _ => if_neg (by omega)), hGd_self fun x hx => (t0 _ (by omega)).trans (s4.2 x hx)]
  · intro rec x hx
    rw [if_neg (by rw [le24 (by omega)]; omega)]
    refine wl3_st (fun y => zi ((sm x fun x => sm 24 (σ.1 x)) + sm y (σ.1 x))) (fun y => zi (y : Int)) (fun y => hGd lo (gdS G σ.1 x y) (hH nx n σ h)) 24 (by rw [sm, Int.add_zero]) n_0 rfl ?_ ?_ 700 (by omega)
    · intro rec2 y hy
      have kg : kSg (hGd lo (gdS G σ.1 x y) (hH nx n σ h)) lo (gdS G σ.1 x y) := by
        obtain ⟨f, q1, q2⟩ := s4.1
        exact ⟨⟨f, by rw [hGd_ne (by omega), t0 _ (by omega), q1], q2⟩, fun c hc => hGd_at hc⟩
      have km : kSm (hGd lo (gdS G σ.1 x y) (hH nx n σ h)) (lo + 11) ra rs (lo + 14) hr ro := (hGd_ne (by omega)).trans ((t0 _ (by omega)).trans s1)
      have gq := gx (hGd lo (gdS G σ.1 x y) (hH nx n σ h)) fun q a b => hGd_ne (by omega)
      have e1 : gdS G σ.1 x y x y = G x y := if_neg (by omega)
      have hup : z_up (hGd lo (gdS G σ.1 x y) (hH nx n σ h)) (lo + 15 + x) (cA 24 fun p => if p = y then G x y + zi (σ.1 x y) else gdS G σ.1 x y x p) = hGd lo (gdS G σ.1 x (y + 1)) (hH nx n σ h) := by
        refine hGd_up hx (fun p hp => ?_) fun c p hc hp hcx => ?_
        · unfold gdS
          by_cases q : p = y
          · rw [if_pos q, if_pos (by omega), q]
          · rw [if_neg q]
            by_cases q2 : p < y
            · rw [if_pos (.inr ⟨rfl, q2⟩), if_pos (by omega)]
            · rw [if_neg (by omega), if_neg (by omega)]
        · unfold gdS
          by_cases q2 : c < x
          · rw [if_pos (.inl q2), if_pos (.inl q2)]
          · rw [if_neg (by omega), if_neg (by omega)]
      have gq2 := gx (hGd lo (gdS G σ.1 x (y + 1)) (hH nx n σ h)) fun q a b => hGd_ne (by omega)
      rw [if_neg (by rw [le24 (by omega)]; omega), gR_of km (k := 2) rfl, ob_some, g_col kg hx, ob_some, g_at kg hx hy, ob_some, gq.1 x hx, ob_some, gq.2.1 x y hx hy, ob_some, e1, csI_of (kg.2 x hx) (by omega) (by omega) (by omega), ob_some, Int.toNat_natCast, hup, gq2.1 x hx, ob_some, gq2.2.1 x y hx hy, ob_some, zi_add, Int.add_assoc]
      exact congrArg (fun z => rec2 _ z _) (zi_add _ 1)
    · intro rec2
      rw [if_pos (by rw [le24 (by omega)]; omega)]
      rw [hGd_congr (G := gdS G σ.1 x 24) (G' := gdS G σ.1 (x + 1) 0) (fun c p hc hp => by
        unfold gdS
        by_cases q2 : c < x + 1
        · rw [if_pos (by omega), if_pos (by omega)]
        · rw [if_neg (by omega), if_neg (by omega)])]
      exact congrArg (fun z => rec _ z _) (zi_add _ 1)
  · intro rec
    rw [if_pos (by rw [le24 (by omega)]; omega), hGd_congr (G := gdS G σ.1 24 0) (G' := fun x y => G x y + zi (σ.1 x y)) (fun c p hc hp => if_pos (by omega))]
    generalize hGG : hGd lo (fun x y => G x y + zi (σ.1 x y)) (hH nx n σ h) = H1
    have u1 : ∀ q, q < nx → (q < lo + 15 ∨ lo + 39 ≤ q) → H1 q = h q := fun q a b => by rw [← hGG, hGd_ne b, t0 q a]
    have u2 : ∀ q, nx ≤ q → q < nx + 27 → H1 q = hH nx n σ h q := fun q a b => by rw [← hGG, hGd_ne (by omega)]
    refine wl2_st (fun k => zi (k : Int)) (fun k => upL H1 Pa (fun i => cA 8 (aw8 (A i) (D i + zi (σ.2.1 i)))) k) n n_0 rfl ?_ ?_ 700 (by omega)
    · intro rec2 k hk
      have ne : ∀ q, (∀ j, j < n → q ≠ Pa j) → upL H1 Pa (fun i => cA 8 (aw8 (A i) (D i + zi (σ.2.1 i)))) k q = H1 q := fun q e => upL_ne k fun j hj => e j (by omega)
      have km : kSm (upL H1 Pa (fun i => cA 8 (aw8 (A i) (D i + zi (σ.2.1 i)))) k) (lo + 11) ra rs (lo + 14) hr ro := (ne _ fun j hj => by have := i4 j hj; omega).trans ((u1 _ (by omega) (by omega)).trans s1)
      obtain ⟨f, q1, q2⟩ := s2.2.1
      have hra : upL H1 Pa (fun i => cA 8 (aw8 (A i) (D i + zi (σ.2.1 i)))) k ra = some (zD n f) := (ne _ fun j hj => (i7 j hj).1.symm).trans ((u1 _ (by omega) (by omega)).trans q1)
      have hPk : upL H1 Pa (fun i => cA 8 (aw8 (A i) (D i + zi (σ.2.1 i)))) k (Pa k) = some (cA 8 (aw8 (A k) (D k))) := by
        have := i4 k hk
        rw [upL_ne k fun j hj => i9 k j hk (by omega) (by omega), u1 _ (by omega) (by omega), (s2.2.2 k hk).1]
      have gq := gx (upL H1 Pa (fun i => cA 8 (aw8 (A i) (D i + zi (σ.2.1 i)))) k) fun q a b => (ne q fun j hj => by have := i4 j hj; omega).trans (u2 q a b)
      have e1 : (zi (n : Int) ≤ zi (k : Int)) = ((n : Int) ≤ k) := zi_le (by omega) (by omega) (by omega) (by omega)
      have e7 : (7 : Int32) = zi ((7 : Nat) : Int) := rfl
      rw [gR_of km (k := 0) rfl, ob_some, alD_of hra, ob_some, if_neg (by rw [e1]; omega), ob_some, aD_of hra (by omega) (by omega) (by omega), Int.toNat_natCast, q2 k hk, ob_some, e7, cI_of hPk (by omega) (by omega) (by omega), ob_some, gq.2.2.1, ob_some, gq.2.2.2.1 k hk, ob_some, csI_of hPk (by omega) (by omega) (by omega), ob_some]
      have e9 : z_up (upL H1 Pa (fun i => cA 8 (aw8 (A i) (D i + zi (σ.2.1 i)))) k) (Pa k) (cA 8 fun p => if p = ((7 : Nat) : Int).toNat then aw8 (A k) (D k) ((7 : Nat) : Int).toNat + zi (σ.2.1 k) else aw8 (A k) (D k) p) = upL H1 Pa (fun i => cA 8 (aw8 (A i) (D i + zi (σ.2.1 i)))) (k + 1) := by
        rw [upL]
        refine up_congr fun p hp => ?_
        rw [Int.toNat_natCast]
        unfold aw8
        by_cases q : p = 7
        · rw [if_pos q, if_pos q, if_pos rfl]
        · rw [if_neg q, if_neg q, if_neg q]
      rw [e9]
      exact congrArg (fun z => rec2 z _) (zi_add _ 1)
    · intro rec2
      generalize hH2 : upL H1 Pa (fun i => cA 8 (aw8 (A i) (D i + zi (σ.2.1 i)))) n = H2
      have v1 : ∀ q, q < nx → (q < lo + 15 ∨ lo + 39 ≤ q) → (∀ j, j < n → q ≠ Pa j) → H2 q = h q := fun q a b c => by rw [← hH2, upL_ne n c, u1 q a b]
      have v2 : ∀ q, nx ≤ q → q < nx + 27 → H2 q = hH nx n σ h q := fun q a b => by rw [← hH2, upL_ne n (fun j hj => by have := i4 j hj; omega), u2 q a b]
      have km2 : kSm H2 (lo + 11) ra rs (lo + 14) hr ro := (v1 _ (by omega) (by omega) fun j hj => by have := i4 j hj; omega).trans s1
      obtain ⟨f, q1, q2⟩ := s2.2.1
      have hra : H2 ra = some (zD n f) := (v1 _ (by omega) (by omega) fun j hj => (i7 j hj).1.symm).trans q1
      obtain ⟨f', q3, q4⟩ := s3.2.1
      have hrs : H2 rs = some (zD sn f') := (v1 _ (by omega) (by omega) fun j hj => (i7 j hj).2.symm).trans q3
      have e1 : (zi (n : Int) ≤ zi (n : Int)) = ((n : Int) ≤ n) := zi_le (by omega) (by omega) (by omega) (by omega)
      rw [gR_of km2 (k := 0) rfl, ob_some, alD_of hra, ob_some, if_pos (by rw [e1]; omega), gR_of km2 (k := 1) rfl, ob_some, alD_of hrs, ob_some]
      refine wl2_st (fun k => zi (k : Int)) (fun k => upL H2 Ps (fun i => cA 3 (st3 (S i) (g i + zi (σ.1 (S i 0).toNat (S i 1).toNat)))) k) sn n_0 rfl ?_ ?_ 700 (by omega)
      · intro rec3 k hk
        have ne : ∀ q, (∀ j, j < sn → q ≠ Ps j) → upL H2 Ps (fun i => cA 3 (st3 (S i) (g i + zi (σ.1 (S i 0).toNat (S i 1).toNat)))) k q = H2 q := fun q e => upL_ne k fun j hj => e j (by omega)
        have hPk : upL H2 Ps (fun i => cA 3 (st3 (S i) (g i + zi (σ.1 (S i 0).toNat (S i 1).toNat)))) k (Ps k) = some (cA 3 (st3 (S k) (g k))) := by
          have := i5 k hk
          rw [upL_ne k fun j hj => i10 k j hk (by omega) (by omega), v1 _ (by omega) (by omega) (fun j hj => (i11 j k hj hk).symm), s3.2.2.1 k hk]
        have hrk : upL H2 Ps (fun i => cA 3 (st3 (S i) (g i + zi (σ.1 (S i 0).toNat (S i 1).toNat)))) k rs = some (zD sn f') := (ne _ fun j hj => (i8 j hj).2.symm).trans hrs
        have gq := gx (upL H2 Ps (fun i => cA 3 (st3 (S i) (g i + zi (σ.1 (S i 0).toNat (S i 1).toNat)))) k) fun q a b => (ne q fun j hj => by have := i5 j hj; omega).trans (v2 q a b)
        have e2 : (zi (sn : Int) ≤ zi (k : Int)) = ((sn : Int) ≤ k) := zi_le (by omega) (by omega) (by omega) (by omega)
        obtain ⟨x, y, ex, ey, hx, hy⟩ := kSs_o s3 hk
        have f0 : z_aI (upL H2 Ps (fun i => cA 3 (st3 (S i) (g i + zi (σ.1 (S i 0).toNat (S i 1).toNat)))) k) (Ps k) 0 = some (zi x) := by
          have e : z_aI (upL H2 Ps (fun i => cA 3 (st3 (S i) (g i + zi (σ.1 (S i 0).toNat (S i 1).toNat)))) k) (Ps k) (zi (0 : Nat)) = some (zi (S k 0)) := by rw [cI_of hPk (by omega) (by omega) (by omega)]; rfl
          rw [ex] at e; exact e
        have f1 : z_aI (upL H2 Ps (fun i => cA 3 (st3 (S i) (g i + zi (σ.1 (S i 0).toNat (S i 1).toNat)))) k) (Ps k) 1 = some (zi y) := by
          have e : z_aI (upL H2 Ps (fun i => cA 3 (st3 (S i) (g i + zi (σ.1 (S i 0).toNat (S i 1).toNat)))) k) (Ps k) (zi (1 : Nat)) = some (zi (S k 1)) := by rw [cI_of hPk (by omega) (by omega) (by omega)]; rfl
          rw [ey] at e; exact e
        have e7 : (2 : Int32) = zi ((2 : Nat) : Int) := rfl
        rw [if_neg (by rw [e2]; omega), aD_of hrk (by omega) (by omega) (by omega), Int.toNat_natCast, q4 k hk, ob_some, e7, cI_of hPk (by omega) (by omega) (by omega), ob_some, f0, ob_some, gq.1 x hx, ob_some, f1, ob_some, gq.2.1 x y hx hy, ob_some, csI_of hPk (by omega) (by omega) (by omega), ob_some]
        have e9 : z_up (upL H2 Ps (fun i => cA 3 (st3 (S i) (g i + zi (σ.1 (S i 0).toNat (S i 1).toNat)))) k) (Ps k) (cA 3 fun p => if p = ((2 : Nat) : Int).toNat then st3 (S k) (g k) ((2 : Nat) : Int).toNat + zi (σ.1 x y) else st3 (S k) (g k) p) = upL H2 Ps (fun i => cA 3 (st3 (S i) (g i + zi (σ.1 (S i 0).toNat (S i 1).toNat)))) (k + 1) := by
          rw [upL]
          refine up_congr fun p hp => ?_
          rw [Int.toNat_natCast, ex, ey, Int.toNat_natCast, Int.toNat_natCast]
          unfold st3
          by_cases q : p = 2
          · rw [if_pos q, if_pos q, if_pos rfl]
          · rw [if_neg q, if_neg q, if_neg q]
        rw [e9]
        exact congrArg (fun z => rec3 z _) (zi_add _ 1)
      · intro rec3
        generalize hH3 : upL H2 Ps (fun i => cA 3 (st3 (S i) (g i + zi (σ.1 (S i 0).toNat (S i 1).toNat)))) sn = H3
        have w1 : ∀ q, (∀ j, j < sn → q ≠ Ps j) → H3 q = H2 q := fun q c => by rw [← hH3, upL_ne sn c]
        have km3 : kSm H3 (lo + 11) ra rs (lo + 14) hr ro := (w1 _ fun j hj => by have := i5 j hj; omega).trans km2
        have hra3 : H3 ra = some (zD n f) := (w1 _ fun j hj => (i8 j hj).1.symm).trans hra
        have gq := gx H3 fun q a b => (w1 q fun j hj => by have := i5 j hj; omega).trans (v2 q a b)
        have e2 : (zi (sn : Int) ≤ zi (sn : Int)) = ((sn : Int) ≤ sn) := zi_le (by omega) (by omega) (by omega) (by omega)
        have km4 : kSm (z_up H3 (lo + 11) (zO 6 [.ref ra, .ref rs, .ref (lo + 14), .int hr, .int (ro + zi σ.2.2)])) (lo + 11) ra rs (lo + 14) hr (ro + zi σ.2.2) := up_at ..
        have p1 : z_pV H3 (lo + 11) 6 4 (.int (ro + zi σ.2.2)) = some (z_up H3 (lo + 11) (zO 6 [.ref ra, .ref rs, .ref (lo + 14), .int hr, .int (ro + zi σ.2.2)])) := by rw [pV_of km3 (k := 4) (by simp)]; rfl
        have p2 : z_pV (z_up H3 (lo + 11) (zO 6 [.ref ra, .ref rs, .ref (lo + 14), .int hr, .int (ro + zi σ.2.2)])) (lo + 11) 6 3 (.int (hr + 1)) = some (z_up H3 (lo + 11) (zO 6 [.ref ra, .ref rs, .ref (lo + 14), .int (hr + 1), .int (ro + zi σ.2.2)])) := by
          rw [pV_of km4 (k := 3) (by simp), up_up]; rfl
        rw [if_pos (by rw [e2]; omega), gI_of km3 (k := 4) rfl, ob_some, gq.2.2.1, ob_some, gR_of km3 (k := 0) rfl, ob_some, alD_of hra3, ob_some, gq.2.2.2.2, ob_some, p1, ob_some, gI_of km4 (k := 3) rfl, ob_some, p2, ob_some]
        rfl
end RAIN
