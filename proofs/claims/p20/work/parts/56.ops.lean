/-! roll, move, would, count: the invariant stands -/
section OPS
variable {Z : Nat → Prop} {t0 lo : Nat} {h : zH} {nx n : Nat} {A : Nat → Nat → Int} {D : Nat → Int32} {sn : Nat} {S : Nat → Nat → Int} {B : Nat → Int32} {G : Nat → Nat → Int32} {hr ro th : Int32}
/-- an awning is set and the layers are laid out again -/
theorem IC.set {qd mc mc' og rf : Int32} {ea ea' : Nat} {P Q : Nat → Nat} {f1 f2 f3 f4 : Nat → Int32} (I : IR Z t0 lo h nx n A D sn S B G hr ro qd mc mc' og rf ea ea' P Q f1 f2 f3 f4) {i : Nat} (hi : i < n) {a : Nat → Int} (o : okA a) :
    IC Z t0 lo (hL (lo + 1) (upA A i a) n (z_up h (P i) (oA a (D i)))) nx n (upA A i a) D sn S B G hr ro ∧ frC Z h (hL (lo + 1) (upA A i a) n (z_up h (P i) (oA a (D i)))) := by
  obtain ⟨⟨x1, x2⟩, ⟨w1, w2, w3, w4⟩, ⟨s1, s2, s3⟩, ⟨t1, t2, t3⟩, s, k1, k2, k3, kz⟩ := I
  obtain ⟨i1, i2, i3, i4, i5, i6, i7, i8, i9, i10, i11⟩ := id s
  have hp := i3 i hi
  have e : ∀ q, q ≠ P i → q ≠ lo + 1 + 2 → hL (lo + 1) (upA A i a) n (z_up h (P i) (oA a (D i))) q = h q := fun q g1 g2 => (up_ne g2).trans (up_ne g1)
  have kw := kW_hL (A' := upA A i a) (kW_set w1 s.sepP hi (a := a) (d := D i) o) s.ly
  have eD : upD D i (D i) = D := by
    funext j
    unfold upD
    by_cases hj : j = i
    · rw [if_pos hj, hj]
    · rw [if_neg hj]
  rw [eD] at kw
  have he := (i8 i hi).1
  have he' := (i8 i hi).2
  refine ⟨⟨qd, mc, mc', og, rf, ea, ea', P, Q, f1, f2, f3, f4, ⟨(e _ (by omega) (by omega)).trans x1, (e _ (by omega) (by omega)).trans x2⟩, ⟨kw, up_at .., (e _ (by omega) (by omega)).trans w3, (e _ (by omega) (by omega)).trans w4⟩, ⟨(e _ (by omega) (by omega)).trans s1, (e _ (by omega) (by omega)).trans s2, (e _ (by omega) (by omega)).trans s3⟩, ⟨kSt_eq t1 (e _ (by omega) (by omega)) (fun _ => e _ (fun g => he' g.symm) (by omega)) (fun j hj => e _ (fun g => i10 i j hi hj g.symm) (by have := i4 j hj; omega)), t2, t3⟩, s, kE_eq k1 (e _ (fun g => he g.symm) (by omega)), kE_eq k2 (e _ (fun g => he' g.symm) (by omega)), (e _ (by omega) (by omega)).trans k3, kz⟩, fun q g => e _ ((kz q g).2.2.2.2.1 i hi) (by have := (kz q g).1; omega)⟩
theorem c_roll (I : IC Z t0 lo h nx n A D sn S B G hr ro) {a : Int} (ha : -2147483648 ≤ a ∧ a < 2147483648) :
    (0 ≤ a ∧ a < n → ∃ h', M_X4_roll h lo (zi a) = some (.inr (zi (1 - A a.toNat 6), h')) ∧ IC Z t0 lo h' nx n (upA A a.toNat (rolA (A a.toNat))) D sn S B G hr ro ∧ frC Z h h') ∧
    (¬(0 ≤ a ∧ a < n) → M_X4_roll h lo (zi a) = some (.inl sIO)) := by
  obtain ⟨qd, mc, mc', og, rf, ea, ea', P, Q, f1, f2, f3, f4, I⟩ := I
  obtain ⟨⟨x1, x2⟩, ⟨w1, w2, w3, w4⟩, -, -, s, -⟩ := id I
  have key := p_X4roll x1 w1 s.sepP s.ly (fun i hi => by have := s.2.2.1 i hi; omega) w2 ha
  refine ⟨fun g => ?_, fun g => by rw [key, if_neg g]⟩
  rw [if_pos g] at key
  have hi : a.toNat < n := by omega
  exact ⟨_, key, IC.set I hi (rolA_ok (w1.2.2 _ hi).2)⟩
theorem c_move (I : IC Z t0 lo h nx n A D sn S B G hr ro) {a X Y : Int} (ha : -2147483648 ≤ a ∧ a < 2147483648) (hX : -2147483648 ≤ X ∧ X < 2147483648) (hY : -2147483648 ≤ Y ∧ Y < 2147483648) :
    ((0 ≤ a ∧ a < n) ∧ 0 ≤ X ∧ X ≤ 24 - A a.toNat 2 ∧ 0 ≤ Y ∧ Y ≤ 24 - A a.toNat 3 → ∃ h', M_X4_move h lo (zi a) (zi X) (zi Y) = some (.inr (zi (tot fun p q => b1 (decide (1 ≤ lay (upA A a.toNat (movA (A a.toNat) X Y)) n p q))), h')) ∧ IC Z t0 lo h' nx n (upA A a.toNat (movA (A a.toNat) X Y)) D sn S B G hr ro ∧ frC Z h h') ∧
    (¬((0 ≤ a ∧ a < n) ∧ 0 ≤ X ∧ X ≤ 24 - A a.toNat 2 ∧ 0 ≤ Y ∧ Y ≤ 24 - A a.toNat 3) → M_X4_move h lo (zi a) (zi X) (zi Y) = some (.inl sIO)) := by
  obtain ⟨qd, mc, mc', og, rf, ea, ea', P, Q, f1, f2, f3, f4, I⟩ := I
  obtain ⟨⟨x1, x2⟩, ⟨w1, w2, w3, w4⟩, -, -, s, -⟩ := id I
  have key := p_X4move x1 w1 s.sepP s.ly (fun i hi => by have := s.2.2.1 i hi; omega) (by omega) w2 ha hX hY
  refine ⟨fun g => ?_, fun g => by rw [key, if_neg g]⟩
  rw [if_pos g] at key
  have hi : a.toNat < n := by omega
  exact ⟨_, key, IC.set I hi (movA_ok (w1.2.2 _ hi).2 g.2)⟩
/-- the shower has poured -/
theorem IR_hS {qd mc mc' og rf : Int32} {ea ea' : Nat} {P Q : Nat → Nat} {f1 f2 f3 f4 : Nat → Int32} (I : IR Z t0 lo h nx n A D sn S B G hr ro qd mc mc' og rf ea ea' P Q f1 f2 f3 f4) (σ : zS) :
    IR Z t0 lo (hS (lo + 6) (lo + 1) σ h) nx n A D sn S B G hr ro qd mc mc' (zi (tot σ.1)) (zi σ.2.2) ea ea' P Q f1 f2 (fun p => zi (σ.1 (p % 24) (p / 24))) (fun p => zi (σ.2.1 p)) ∧ frC Z h (hS (lo + 6) (lo + 1) σ h) := by
  obtain ⟨⟨x1, x2⟩, ⟨w1, w2, w3, w4⟩, ⟨s1, s2, s3⟩, ⟨t1, t2, t3⟩, s, k1, k2, k3, kz⟩ := I
  obtain ⟨i1, i2, i3, i4, i5, i6, i7, i8, i9, i10, i11⟩ := id s
  have e : ∀ q, q ≠ lo + 6 → q ≠ lo + 6 + 1 → q ≠ lo + 6 + 2 → hS (lo + 6) (lo + 1) σ h q = h q := fun q g1 g2 g3 => hS_ne ⟨g1, g2, g3⟩
  refine ⟨⟨⟨(e _ (by omega) (by omega) (by omega)).trans x1, (e _ (by omega) (by omega) (by omega)).trans x2⟩, ⟨kW_hS w1 s.sepW, (e _ (by omega) (by omega) (by omega)).trans w2, (e _ (by omega) (by omega) (by omega)).trans w3, (e _ (by omega) (by omega) (by omega)).trans w4⟩, ⟨hS_0 .., hS_1 .., hS_2 ..⟩, ⟨kSt_eq t1 (e _ (by omega) (by omega) (by omega)) (fun _ => e _ (by omega) (by omega) (by omega)) (fun j hj => ?_), t2, t3⟩, s, kE_eq k1 (e _ (by omega) (by omega) (by omega)), kE_eq k2 (e _ (by omega) (by omega) (by omega)), (e _ (by omega) (by omega) (by omega)).trans k3, kz⟩, fun q g => by have := (kz q g).1; exact e _ (by omega) (by omega) (by omega)⟩
  have := i4 j hj
  exact e _ (by omega) (by omega) (by omega)
/-! count -/
noncomputable def ctS (A : Nat → Nat → Int) (n : Nat) (S : Nat → Nat → Int) (sn : Nat) (G : Nat → Nat → Int32) (hr ro : Int32) (w : Int) : Int32 :=
  if w = 0 then zi n else if w = 1 then zi (outS A n) else if w = 2 then zi sn else if w = 3 then zi (tot fun x y => b1 (decide (1 ≤ lay A n x y))) else if w = 4 then zi (tot (olS A n)) else if w = 5 then zi (pcnt (pV A n) (pV A n))
    else if w = 6 then zi (tot fun x y => b1 (decide (2 ≤ lay A n x y))) else if w = 7 then hr else if w = 8 then zi (tot fun x y => (G x y).toInt) else if w = 9 then ro else zi (opnS A n S sn)
/-- the parts have been counted -/
theorem IR_hP {qd mc mc' og rf : Int32} {ea ea' : Nat} {P Q : Nat → Nat} {f1 f2 f3 f4 : Nat → Int32} (I : IR Z t0 lo h nx n A D sn S B G hr ro qd mc mc' og rf ea ea' P Q f1 f2 f3 f4) (T : Nat → Nat → Bool) (F : Nat → Int32) (q : Int32) :
    IR Z t0 lo (hP h (lo + 1) T F q) nx n A D sn S B G hr ro q mc mc' og rf ea ea' P Q (fun p => zi (b1 (T (p % 24) (p / 24)))) F f3 f4 ∧ frC Z h (hP h (lo + 1) T F q) := by
  obtain ⟨⟨x1, x2⟩, ⟨w1, w2, w3, w4⟩, ⟨s1, s2, s3⟩, ⟨t1, t2, t3⟩, s, k1, k2, k3, kz⟩ := I
  obtain ⟨i1, i2, i3, i4, i5, i6, i7, i8, i9, i10, i11⟩ := id s
  have e : ∀ z, z ≠ lo + 1 → z ≠ lo + 1 + 3 → z ≠ lo + 1 + 4 → hP h (lo + 1) T F q z = h z := fun z g1 g2 g3 => hP_ne ⟨g1, g2, g3⟩
  have kl : kL (hP h (lo + 1) T F q) (lo + 1 + 1) mc ea n P := by
    obtain ⟨g1, g2, g3⟩ := w1.2.1
    refine ⟨(e _ (by omega) (by omega) (by omega)).trans g1, g2, fun hn => ?_⟩
    obtain ⟨f, g4, g5⟩ := g3 hn
    exact ⟨f, (e _ (by omega) (by omega) (by omega)).trans g4, g5⟩
  refine ⟨⟨⟨(e _ (by omega) (by omega) (by omega)).trans x1, (e _ (by omega) (by omega) (by omega)).trans x2⟩, ⟨⟨hP_c, kl, fun j hj => ⟨(e _ ?_ ?_ ?_).trans (w1.2.2 j hj).1, (w1.2.2 j hj).2⟩⟩, (e _ (by omega) (by omega) (by omega)).trans w2, hP_3, hP_4⟩, ⟨(e _ (by omega) (by omega) (by omega)).trans s1, (e _ (by omega) (by omega) (by omega)).trans s2, (e _ (by omega) (by omega) (by omega)).trans s3⟩, ⟨kSt_eq t1 (e _ (by omega) (by omega) (by omega)) (fun _ => e _ (by omega) (by omega) (by omega)) (fun j hj => ?_), t2, t3⟩, s, kE_eq k1 (e _ (by omega) (by omega) (by omega)), kE_eq k2 (e _ (by omega) (by omega) (by omega)), (e _ (by omega) (by omega) (by omega)).trans k3, kz⟩, fun q g => by have := (kz q g).1; exact e _ (by omega) (by omega) (by omega)⟩
  · have := i3 j hj; omega
  · have := i3 j hj; omega
  · have := i3 j hj; omega
  · have := i4 j hj
    exact e _ (by omega) (by omega) (by omega)
theorem c_count (I : IC Z t0 lo h nx n A D sn S B G hr ro) {w : Int} (hw : -2147483648 ≤ w ∧ w < 2147483648) :
    (0 ≤ w ∧ w ≤ 10 → ∃ h', M_X4_count h lo (zi w) = some (.inr (ctS A n S sn G hr ro w, h')) ∧ IC Z t0 lo h' nx n A D sn S B G hr ro ∧ frC Z h h') ∧ (¬(0 ≤ w ∧ w ≤ 10) → M_X4_count h lo (zi w) = some (.inl sIO)) := by
  obtain ⟨qd, mc, mc', og, rf, ea, ea', P, Q, f1, f2, f3, f4, I⟩ := I
  obtain ⟨⟨x1, x2⟩, ⟨w1, w2, w3, w4⟩, ⟨s1, s2, s3⟩, ⟨t1, t2, t3⟩, s, -⟩ := id I
  have hn := w1.2.1.2.1
  have ho : ∀ i, i < n → okA (A i) := fun i hi => (w1.2.2 i hi).2
  obtain ⟨ZQ, z, hz⟩ := p_cparts hn w1.1 w2 ho w3 w4
  obtain ⟨I', fr'⟩ := IR_hP I (pV A n) ZQ z
  have same : ∀ v, ∃ h', (some (Sum.inr (v, h)) : Option (String ⊕ (Int32 × zH))) = some (.inr (v, h')) ∧ IC Z t0 lo h' nx n A D sn S B G hr ro ∧ frC Z h h' := fun v => ⟨h, rfl, ⟨_, _, _, _, _, _, _, _, _, _, _, _, _, I⟩, fun _ _ => rfl⟩
  have hcov : M_X1_cellsWithLayers h (lo + 1) 1 = some (zi (tot fun x y => b1 (decide (1 ≤ lay A n x y)))) := p_cells hn w1.1 w2 (t := 1) (by omega)
  have hcov2 : M_X1_cellsWithLayers h (lo + 1) 2 = some (zi (tot fun x y => b1 (decide (2 ≤ lay A n x y)))) := p_cells hn w1.1 w2 (t := 2) (by omega)
  simp only [M_X4_count, n_10, p_what hw (l := 10) (by omega), z_tb]
  refine ⟨fun g => ?_, fun g => by rw [if_neg g]; rfl⟩
  rw [if_pos g]
  simp only [ob_some, n_0, n_3, n_4, n_5, n_6, n_7, n_8, n_9, zi_q hw 0 (by omega), zi_q hw 3 (by omega), zi_q hw 4 (by omega), zi_q hw 5 (by omega), zi_q hw 6 (by omega), zi_q hw 7 (by omega), zi_q hw 8 (by omega), zi_q hw 9 (by omega), show (zi w = 1) = (w = 1) from zi_q hw 1 (by omega), show (zi w = 2) = (w = 2) from zi_q hw 2 (by omega)]
  unfold ctS
  by_cases q0 : w = 0
  · rw [if_pos q0, if_pos q0]
    simp only [gR_of x1 (k := 0) rfl, ck_of w1.1, ob_some, p_size w1.1 w1.2.1]
    exact same _
  rw [if_neg q0, if_neg q0]
  by_cases q1 : w = 1
  · rw [if_pos q1, if_pos q1]
    simp only [gR_of x1 (k := 0) rfl, ck_of w1.1, ob_some, p_sizeOut w1]
    exact same _
  rw [if_neg q1, if_neg q1]
  by_cases q2 : w = 2
  · rw [if_pos q2, if_pos q2]
    simp only [gR_of x1 (k := 2) rfl, ck_of t1.1.1, ob_some, p_lsize t1.1]
    exact same _
  rw [if_neg q2, if_neg q2]
  by_cases q3 : w = 3
  · rw [if_pos q3, if_pos q3]
    simp only [gR_of x1 (k := 0) rfl, ck_of w1.1, ob_some, M_X1_covered, hcov]
    exact same _
  rw [if_neg q3, if_neg q3]
  by_cases q4 : w = 4
  · rw [if_pos q4, if_pos q4]
    simp only [gR_of x1 (k := 0) rfl, ck_of w1.1, ob_some, p_coutline hn w1.1 w2 ho]
    exact same _
  rw [if_neg q4, if_neg q4]
  by_cases q5 : w = 5
  · rw [if_pos q5, if_pos q5]
    simp only [gR_of x1 (k := 0) rfl, ck_of w1.1, ob_some, hz]
    exact ⟨_, rfl, ⟨_, _, _, _, _, _, _, _, _, _, _, _, _, I'⟩, fr'⟩
  rw [if_neg q5, if_neg q5]
  by_cases q6 : w = 6
  · rw [if_pos q6, if_pos q6]
    simp only [gR_of x1 (k := 0) rfl, ck_of w1.1, ob_some, hcov2]
    exact same _
  rw [if_neg q6, if_neg q6]
  by_cases q7 : w = 7
  · rw [if_pos q7, if_pos q7, gI_of x1 (k := 4) rfl, ob_some]
    exact same _
  rw [if_neg q7, if_neg q7]
  by_cases q8 : w = 8
  · rw [if_pos q8, if_pos q8, gI_of x1 (k := 5) rfl, ob_some]
    exact same _
  rw [if_neg q8, if_neg q8]
  by_cases q9 : w = 9
  · rw [if_pos q9, if_pos q9, gI_of x1 (k := 6) rfl, ob_some]
    exact same _
  rw [if_neg q9, if_neg q9]
  simp only [ck_of x1, ob_some, p_notCov x1 w1 w2 t1 t2]
  exact same _
end OPS
