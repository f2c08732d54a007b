/-! stall, hang, take: the class -/
abbrev sIS : String := "java/lang/IllegalStateException"
def dl {α : Type} (f : Nat → α) (a : Nat) : Nat → α := fun i => if i < a then f i else f (i + 1)
def adP (P : Nat → Nat) (n v : Nat) : Nat → Nat := fun k => if k = n then v else P k
section GROW
variable {Z : Nat → Prop} {t0 lo : Nat} {h : zH} {nx n : Nat} {A : Nat → Nat → Int} {D : Nat → Int32} {sn : Nat} {S : Nat → Nat → Int} {B : Nat → Int32} {G : Nat → Nat → Int32} {hr ro th : Int32}
theorem c_stall (I : IC Z t0 lo h nx n A D sn S B G hr ro) {a b : Int} (ha : -2147483648 ≤ a ∧ a < 2147483648) (hb : -2147483648 ≤ b ∧ b < 2147483648) :
    (¬(0 ≤ a ∧ a < 24 ∧ 0 ≤ b ∧ b < 24) → M_X4_stall h nx t0 lo (zi a) (zi b) = some (.inl sIO)) ∧
    (0 ≤ a ∧ a < 24 ∧ 0 ≤ b ∧ b < 24 → (¬(sn < 8 ∧ hsS S a b sn = false) → M_X4_stall h nx t0 lo (zi a) (zi b) = some (.inl sIS)) ∧
      (sn < 8 ∧ hsS S a b sn = false → ∃ h' nx', M_X4_stall h nx t0 lo (zi a) (zi b) = some (.inr (zi sn, h', nx')) ∧ nx ≤ nx' ∧ IC Z t0 lo h' nx' n A D (sn + 1) (adS2 S sn a b) (adB B sn (G a.toNat b.toNat)) G hr ro ∧ frC Z h h')) := by
  obtain ⟨qd, mc, mc', og, rf, ea, ea', P, Q, f1, f2, f3, f4, I⟩ := I
  obtain ⟨⟨x1, x2⟩, ⟨w1, w2, w3, w4⟩, ⟨s1, s2, s3⟩, ⟨t1, t2, t3⟩, s, k1, k2, k3, kz⟩ := id I
  obtain ⟨i1, i2, i3, i4, i5, i6, i7, i8, i9, i10, i11⟩ := id s
  have e8 : (zi sn < (8 : Int32)) = ((sn : Int) < 8) := zi_lt (b := 8) (by omega) (by omega) (by omega) (by omega)
  simp only [M_X4_stall, p_reqCell ha hb, z_tb, ob_some]
  refine ⟨fun g => by rw [if_neg g], fun g => ?_⟩
  rw [if_pos g]
  simp only [gR_of x1 (k := 2) rfl, ob_some, ck_of t1.1.1, p_lsize t1.1, e8, ck_of x1, p_hasStall x1 t1 t2 g]
  refine ⟨fun g2 => ?_, fun g2 => ?_⟩
  · by_cases h8 : sn < 8
    · rw [if_pos (by omega)]
      cases hh : hsS S a b sn with
      | true => rw [if_neg (by decide)]
      | false => exact absurd ⟨h8, hh⟩ g2
    · rw [if_neg (by omega)]
  · rw [if_pos (by omega), g2.2, if_pos (by decide)]
    have hfr : ∀ c q, ¬ Z q → (q = t0 ∨ lo ≤ q) → q < nx → z_up h nx c q = h q := fun c q _ _ hq => up_ne (by omega)
    have I0 := I.fr (Z' := Z) (hfr (zO 4 [.int 0, .int 0, .int 0])) (Nat.le_succ nx) (fun q hq => .inl hq)
    have I1 := I.fr (Z' := Z) (hfr (zO 4 [.int (zi a), .int (zi b), .int (G a.toNat b.toNat)])) (Nat.le_succ nx) (fun q hq => .inl hq)
    have hinit : M_X3_init (z_up h nx (zO 4 [.int 0, .int 0, .int 0])) nx (zi a) (zi b) (G a.toNat b.toNat) = some (z_up h nx (zO 4 [.int (zi a), .int (zi b), .int (G a.toNat b.toNat)])) := by
      simp only [M_X3_init, pV_of (up_at h nx (zO 4 [.int 0, .int 0, .int 0])) (k := 0) (by simp), ob_some, up_up]
      rw [pV_of (up_at h nx _) (k := 1) (by simp), ob_some, up_up, pV_of (up_at h nx _) (k := 2) (by simp), ob_some, up_up]
      rfl
    simp only [ck_of I0.1.1, ob_some, p_ground I0.1.1 I0.1.2 (a := a) (b := b) g, hinit]
    generalize hH : z_up h nx (zO 4 [.int (zi a), .int (zi b), .int (G a.toNat b.toNat)]) = H at I1
    have hHn : H nx = some (zO 4 [.int (zi a), .int (zi b), .int (G a.toNat b.toNat)]) := by rw [← hH, up_at]
    have hHq : ∀ q, q ≠ nx → H q = h q := fun q hq => by rw [← hH, up_ne hq]
    obtain ⟨⟨x1', x2'⟩, ⟨w1', w2', w3', w4'⟩, ⟨s1', s2', s3'⟩, ⟨t1', -, -⟩, s', k1', k2', k3', kz'⟩ := id I1
    obtain ⟨h', nx', ea2, r1, r2, r3, r4, r5⟩ := p_add t1'.1 (by omega) k2' k3' (v := nx) (nx := nx + 1) (el_of hHn (.inr rfl)) (by omega) (by omega) (by omega) (by omega) (by omega)
    have hea2 : ea2 ≠ lo + 9 ∧ (lo + 19 ≤ ea2 ∧ ea2 < nx') ∧ ea2 ≠ nx ∧ nx + 1 ≤ nx' ∧ (ea2 = ea' ∧ ¬ea' = t0 ∨ ea2 = nx + 1) := by omega
    have hne : ea ≠ ea2 := by
      rcases hea2.2.2.2.2 with ⟨q1, q2⟩ | q1
      · rw [q1]; exact fun q => q2 (q ▸ i11 q)
      · omega
    have x1'' : kX h' lo (lo + 1) (lo + 6) (lo + 9) (lo + 10) hr (zi (tot fun x y => (G x y).toInt)) ro := (r5 _ (by omega) (by omega)).trans x1'
    have e17 : zi ((sn + 1 : Nat) : Int) - 1 = zi sn := by rw [n_1, zi_sub]; congr 1; omega
    rw [ck_of t1'.1.1, ob_some, r1, ob_some, gR_of x1'' (k := 2) rfl, ob_some, ck_of r2.1, ob_some, p_lsize r2, ob_some, e17]
    refine ⟨h', nx', rfl, by omega, ⟨qd, mc, mc' + 1, og, rf, ea, ea2, P, adP Q sn nx, f1, f2, f3, f4, ⟨x1'', (r5 _ (by omega) (by omega)).trans x2'⟩, ⟨kW_eq (fun q hq => r5 q ?_ ?_) w1', (r5 _ (by omega) (by omega)).trans w2', (r5 _ (by omega) (by omega)).trans w3', (r5 _ (by omega) (by omega)).trans w4'⟩, ⟨(r5 _ (by omega) (by omega)).trans s1', (r5 _ (by omega) (by omega)).trans s2', (r5 _ (by omega) (by omega)).trans s3'⟩, ⟨⟨r2, fun i hi => ?_⟩, fun i hi => ?_, by omega⟩, ⟨i1, by omega, fun i hi => ?_, fun i hi => ?_, by omega, by omega, i7, fun i hi => ?_, fun i hi => ?_, fun i j hi hj => ?_, fun q => absurd q hne⟩, kE_eq k1' (r5 _ (by omega) hne), .inr r3, (r5 _ (by omega) (by omega)).trans k3', fun q hq => ?_⟩, fun q hq => by obtain ⟨z1, z2, z3, z4, -⟩ := kz q hq; exact (r5 q (by omega) (by omega)).trans (hHq q (by omega))⟩
    · have := s.inW hq; omega
    · rcases hq with rfl | rfl | rfl | ⟨j, hj, rfl⟩
      · omega
      · omega
      · exact hne
      · have := i3 j hj
        have := i8 j hj
        omega
    · by_cases hin : i = sn
      · have e1 : adP Q sn nx i = nx := if_pos hin
        rw [e1, r5 nx (by omega) (by omega), hHn]
        unfold adS2 adB
        rw [if_pos hin, if_pos hin, if_pos hin]
        rfl
      · have e1 : adP Q sn nx i = Q i := if_neg hin
        have := i4 i (by omega)
        have := i9 i (by omega)
        rw [e1, r5 _ (by omega) (by omega), t1'.2 i (by omega)]
        unfold adS2 adB
        rw [if_neg hin, if_neg hin, if_neg hin]
    · unfold adS2
      by_cases hin : i = sn
      · rw [if_pos hin, if_pos hin, if_pos rfl, if_neg (by omega)]; omega
      · rw [if_neg hin, if_neg hin]; exact t2 i (by omega)
    · have := i3 i hi; omega
    · unfold adP
      by_cases hin : i = sn
      · rw [if_pos hin]; omega
      · rw [if_neg hin]; have := i4 i (by omega); omega
    · have := i3 i hi; have := i8 i hi; omega
    · unfold adP
      by_cases hin : i = sn
      · rw [if_pos hin]; omega
      · rw [if_neg hin]
        have := i4 i (by omega)
        have := i9 i (by omega)
        omega
    · unfold adP
      by_cases hin : j = sn
      · rw [if_pos hin]; have := i3 i hi; omega
      · rw [if_neg hin]; exact i10 i j hi (by omega)
    · obtain ⟨z1, z2, z3, z4, z5, z6⟩ := kz q hq
      refine ⟨z1, by omega, z3, by omega, z5, fun i hi => ?_⟩
      unfold adP
      by_cases hin : i = sn
      · rw [if_pos hin]; omega
      · rw [if_neg hin]; exact z6 i (by omega)
def hanA (x y w v l s : Int) : Nat → Int := fun k => if k = 0 then x else if k = 1 then y else if k = 2 then w else if k = 3 then v else if k = 4 then l else if k = 5 then s else 1
def okH (w v l s : Int) : Prop := (1 ≤ w ∧ w ≤ 24 ∧ 1 ≤ v ∧ v ≤ 24) ∧ (1 ≤ l ∧ l ≤ 9) ∧ 0 ≤ s ∧ s ≤ 3
theorem c_hang (I : IC Z t0 lo h nx n A D sn S B G hr ro) {x y w v l s : Int} (hx : -2147483648 ≤ x ∧ x < 2147483648) (hy : -2147483648 ≤ y ∧ y < 2147483648) (hw : -2147483648 ≤ w ∧ w < 2147483648) (hv : -2147483648 ≤ v ∧ v < 2147483648) (hl : -2147483648 ≤ l ∧ l < 2147483648) (hs : -2147483648 ≤ s ∧ s < 2147483648) :
    (¬okH w v l s → M_X4_hang h nx t0 lo (zi x) (zi y) (zi w) (zi v) (zi l) (zi s) = some (.inl sIA)) ∧
    (okH w v l s → (¬(0 ≤ x ∧ x ≤ 24 - w ∧ 0 ≤ y ∧ y ≤ 24 - v) → M_X4_hang h nx t0 lo (zi x) (zi y) (zi w) (zi v) (zi l) (zi s) = some (.inl sIO)) ∧
      (0 ≤ x ∧ x ≤ 24 - w ∧ 0 ≤ y ∧ y ≤ 24 - v → (n = 10 → M_X4_hang h nx t0 lo (zi x) (zi y) (zi w) (zi v) (zi l) (zi s) = some (.inl sIS)) ∧
        (n < 10 → ∃ h' nx', M_X4_hang h nx t0 lo (zi x) (zi y) (zi w) (zi v) (zi l) (zi s) = some (.inr (zi n, h', nx')) ∧ nx ≤ nx' ∧ IC Z t0 lo h' nx' (n + 1) (upA A n (hanA x y w v l s)) (upD D n 0) sn S B G hr ro ∧ frC Z h h'))) := by
  obtain ⟨qd, mc, mc', og, rf, ea, ea', P, Q, f1, f2, f3, f4, I⟩ := I
  obtain ⟨⟨x1, x2⟩, ⟨w1, w2, w3, w4⟩, ⟨s1, s2, s3⟩, ⟨t1, t2, t3⟩, s0, k1, k2, k3, kz⟩ := id I
  obtain ⟨i1, i2, i3, i4, i5, i6, i7, i8, i9, i10, i11⟩ := id s0
  have hn := w1.2.1.2.1
  have e1 : (zi l < (1 : Int32)) = (l < 1) := zi_lt (b := 1) (by omega) (by omega) (by omega) (by omega)
  have e2 : (zi l ≤ (9 : Int32)) = (l ≤ 9) := zi_le (b := 9) (by omega) (by omega) (by omega) (by omega)
  have e3 : (zi s < (0 : Int32)) = (s < 0) := zi_lt (b := 0) (by omega) (by omega) (by omega) (by omega)
  have e4 : (zi s ≤ (3 : Int32)) = (s ≤ 3) := zi_le (b := 3) (by omega) (by omega) (by omega) (by omega)
  have e5 : (zi n < (10 : Int32)) = ((n : Int) < 10) := zi_lt (b := 10) (by omega) (by omega) (by omega) (by omega)
  simp only [M_X4_hang, p_extent hw hv, z_tb, ob_some, e1, e2, e3, e4]
  refine ⟨fun g => ?_, fun g => ?_⟩
  · by_cases g1 : 1 ≤ w ∧ w ≤ 24 ∧ 1 ≤ v ∧ v ≤ 24
    · rw [if_pos g1]
      simp only
      by_cases g2 : l < 1
      · rw [if_pos g2]
      · rw [if_neg g2]
        by_cases g3 : l ≤ 9
        · rw [if_pos g3]
          by_cases g4 : s < 0
          · rw [if_pos g4]
          · rw [if_neg g4, if_neg (fun g5 => g ⟨g1, by omega, by omega⟩)]
        · rw [if_neg g3]
    · rw [if_neg g1]
  · obtain ⟨g1, g2, g3⟩ := g
    rw [if_pos g1]
    simp only
    rw [if_neg (by omega), if_pos (by omega), if_neg (by omega), if_pos (by omega), p_room hx hy (by omega) (by omega), ob_some]
    refine ⟨fun g => by rw [if_neg g], fun g => ?_⟩
    rw [if_pos g]
    simp only [gR_of x1 (k := 0) rfl, ob_some, ck_of w1.1, p_size w1.1 w1.2.1, e5]
    refine ⟨fun g4 => by rw [if_neg (by omega)], fun g4 => ?_⟩
    rw [if_pos (by omega)]
    have hfr : ∀ c q, ¬ Z q → (q = t0 ∨ lo ≤ q) → q < nx → z_up h nx c q = h q := fun c q _ _ hq => up_ne (by omega)
    have I1 := I.fr (Z' := Z) (hfr (oA (hanA x y w v l s) 0)) (Nat.le_succ nx) (fun q hq => .inl hq)
    have hinit : M_X0_init (z_up h nx (zO 1 [.int 0, .int 0, .int 0, .int 0, .int 0, .int 0, .int 0, .int 0])) nx (zi x) (zi y) (zi w) (zi v) (zi l) (zi s) = some (z_up h nx (oA (hanA x y w v l s) 0)) := by
      simp only [M_X0_init, pV_of (up_at h nx (zO 1 [.int 0, .int 0, .int 0, .int 0, .int 0, .int 0, .int 0, .int 0])) (k := 0) (by simp), ob_some, up_up]
      rw [pV_of (up_at h nx _) (k := 1) (by simp), ob_some, up_up, pV_of (up_at h nx _) (k := 2) (by simp), ob_some, up_up, pV_of (up_at h nx _) (k := 3) (by simp), ob_some, up_up, pV_of (up_at h nx _) (k := 4) (by simp), ob_some, up_up,
        pV_of (up_at h nx _) (k := 5) (by simp), ob_some, up_up, pV_of (up_at h nx _) (k := 6) (by simp), ob_some, up_up, pV_of (up_at h nx _) (k := 7) (by simp), ob_some, up_up]
      rfl
    simp only [hinit, ob_some]
    generalize hH : z_up h nx (oA (hanA x y w v l s) 0) = H at I1
    have hHn : H nx = some (oA (hanA x y w v l s) 0) := by rw [← hH, up_at]
    have hHq : ∀ q, q ≠ nx → H q = h q := fun q hq => by rw [← hH, up_ne hq]
    obtain ⟨⟨x1', x2'⟩, ⟨w1', w2', w3', w4'⟩, ⟨s1', s2', s3'⟩, ⟨t1', -, -⟩, s', k1', k2', k3', kz'⟩ := id I1
    obtain ⟨h', nx', ea2, r1, r2, r3, r4, r5⟩ := p_add w1'.2.1 g4 k1' k3' (v := nx) (nx := nx + 1) (el_of hHn (.inl rfl)) (by omega) (by omega) (by omega) (by omega) (by omega)
    have hea2 : ea2 ≠ lo + 1 + 1 ∧ (lo + 19 ≤ ea2 ∧ ea2 < nx') ∧ ea2 ≠ nx ∧ nx + 1 ≤ nx' ∧ (ea2 = ea ∧ ¬ea = t0 ∨ ea2 = nx + 1) := by omega
    have hne : ea' ≠ ea2 := by
      rcases hea2.2.2.2.2 with ⟨q1, q2⟩ | q1
      · rw [q1]; exact fun q => q2 (i11 q.symm)
      · omega
    have hokA : okA (hanA x y w v l s) := by
      show 0 ≤ x ∧ 0 ≤ y ∧ 1 ≤ w ∧ 1 ≤ v ∧ x + w ≤ 24 ∧ y + v ≤ 24 ∧ 1 ≤ l ∧ l ≤ 9 ∧ 0 ≤ s ∧ s ≤ 3 ∧ (0 : Int) ≤ 1 ∧ (1 : Int) ≤ 1
      omega
    have kw : kW h' (lo + 1) qd (mc + 1) ea2 (n + 1) (adP P n nx) (upA A n (hanA x y w v l s)) (upD D n 0) := by
      refine ⟨(r5 _ (by omega) (by omega)).trans w1'.1, r2, fun i hi => ?_⟩
      unfold upA upD
      by_cases hin : i = n
      · have q1 : adP P n nx i = nx := if_pos hin
        rw [q1, if_pos hin, if_pos hin, r5 nx (by omega) (by omega)]
        exact ⟨hHn, hokA⟩
      · have q1 : adP P n nx i = P i := if_neg hin
        have := i3 i (by omega)
        have := i8 i (by omega)
        rw [q1, if_neg hin, if_neg hin, r5 _ (by omega) (by omega)]
        exact w1'.2.2 i (by omega)
    have s2' : IS t0 lo nx' (n + 1) sn ea2 ea' (adP P n nx) Q := by
      refine ⟨i1, by omega, fun i hi => ?_, fun i hi => ?_, by omega, by omega, fun i j hi hj hij => ?_, fun i hi => ?_, fun i hi => ?_, fun i j hi hj => ?_, fun q => absurd q.symm hne⟩
      · unfold adP
        by_cases hin : i = n
        · rw [if_pos hin]; omega
        · rw [if_neg hin]; have := i3 i (by omega); omega
      · have := i4 i hi; omega
      · unfold adP
        by_cases hin : i = n
        · rw [if_pos hin, if_neg (by omega)]; have := i3 j (by omega); omega
        · rw [if_neg hin]
          by_cases hjn : j = n
          · rw [if_pos hjn]; have := i3 i (by omega); omega
          · rw [if_neg hjn]; exact i7 i j (by omega) (by omega) hij
      · unfold adP
        by_cases hin : i = n
        · rw [if_pos hin]; omega
        · rw [if_neg hin]
          have := i3 i (by omega)
          have := i8 i (by omega)
          omega
      · have := i4 i hi; have := i9 i hi; omega
      · unfold adP
        by_cases hin : i = n
        · rw [if_pos hin]; have := i4 j hj; omega
        · rw [if_neg hin]; exact i10 i j (by omega) hj
    have w2'' : h' (lo + 1 + 2) = some (cA 576 fun p => zi (lay A n (p % 24 : Nat) (p / 24 : Nat))) := (r5 _ (by omega) (by omega)).trans w2'
    have x1'' : kX (hL (lo + 1) (upA A n (hanA x y w v l s)) (n + 1) h') lo (lo + 1) (lo + 6) (lo + 9) (lo + 10) hr (zi (tot fun x y => (G x y).toInt)) ro := (up_ne (by omega)).trans ((r5 _ (by omega) (by omega)).trans x1')
    have kw' := kW_hL (A' := upA A n (hanA x y w v l s)) kw s2'.ly
    have e17 : zi ((n + 1 : Nat) : Int) - 1 = zi n := by rw [n_1, zi_sub]; congr 1; omega
    have eH : ∀ q, q ≠ lo + 1 + 2 → q ≠ lo + 1 + 1 → q ≠ ea2 → hL (lo + 1) (upA A n (hanA x y w v l s)) (n + 1) h' q = H q := fun q q1 q2 q3 => (up_ne q1).trans (r5 q q2 q3)
    rw [ck_of w1'.1, ob_some]
    simp only [M_X1_append, gR_of w1'.1 (k := 0) rfl, ob_some, ck_of w1'.2.1.1, r1, ck_of kw.1, p_layOut kw s2'.ly w2'', gR_of x1'' (k := 0) rfl, ck_of kw'.1, p_size kw'.1 kw'.2.1, e17]
    refine ⟨_, nx', rfl, by omega, ⟨qd, mc + 1, mc', og, rf, ea2, ea', adP P n nx, Q, f1, f2, f3, f4, ⟨x1'', (eH _ (by omega) (by omega) (by omega)).trans x2'⟩, ⟨kw', up_at .., (eH _ (by omega) (by omega) (by omega)).trans w3', (eH _ (by omega) (by omega) (by omega)).trans w4'⟩, ⟨(eH _ (by omega) (by omega) (by omega)).trans s1', (eH _ (by omega) (by omega) (by omega)).trans ‹H (lo + 6 + 1) = _›, (eH _ (by omega) (by omega) (by omega)).trans s3'⟩, ⟨kSt_eq t1' (eH _ (by omega) (by omega) (by omega)) (fun _ => eH _ (by omega) (by omega) hne) (fun j hj => ?_), t2, t3⟩, s2', .inr ?_, kE_eq k2' (eH _ (by omega) (by omega) hne), (eH _ (by omega) (by omega) (by omega)).trans k3', fun q hq => ?_⟩, fun q hq => by obtain ⟨z1, z2, z3, z4, -⟩ := kz q hq; exact (eH q (by omega) (by omega) (by omega)).trans (hHq q (by omega))⟩
    · have := i4 j hj
      have := i9 j hj
      exact eH _ (by omega) (by omega) (by omega)
    · obtain ⟨f, hf⟩ := r3
      exact ⟨f, (up_ne (by omega)).trans hf⟩
    · obtain ⟨z1, z2, z3, z4, z5, z6⟩ := kz q hq
      refine ⟨z1, by omega, by omega, z4, fun i hi => ?_, z6⟩
      unfold adP
      by_cases hin : i = n
      · rw [if_pos hin]; omega
      · rw [if_neg hin]; exact z5 i (by omega)
theorem c_take (I : IC Z t0 lo h nx n A D sn S B G hr ro) {a : Int} (ha : -2147483648 ≤ a ∧ a < 2147483648) :
    (0 ≤ a ∧ a < n → ∃ h', M_X4_take h lo (zi a) = some (.inr (zi ((n - 1 : Nat) : Int), h')) ∧ IC Z t0 lo h' nx (n - 1) (dl A a.toNat) (dl D a.toNat) sn S B G hr ro ∧ frC Z h h') ∧
    (¬(0 ≤ a ∧ a < n) → M_X4_take h lo (zi a) = some (.inl sIO)) := by
  obtain ⟨qd, mc, mc', og, rf, ea, ea', P, Q, f1, f2, f3, f4, I⟩ := I
  obtain ⟨⟨x1, x2⟩, ⟨w1, w2, w3, w4⟩, ⟨s1, s2, s3⟩, ⟨t1, t2, t3⟩, s0, k1, k2, k3, kz⟩ := id I
  obtain ⟨i1, i2, i3, i4, i5, i6, i7, i8, i9, i10, i11⟩ := id s0
  have hn := w1.2.1.2.1
  have e1 : (zi a < (0 : Int32)) = (a < 0) := zi_lt (b := 0) (by omega) (by omega) (by omega) (by omega)
  have e2 : (zi a < zi n) = (a < n) := zi_lt (by omega) (by omega) (by omega) (by omega)
  simp only [M_X4_take, M_X1_drop, gR_of x1 (k := 0) rfl, ob_some, ck_of w1.1, z_tb, e1, gR_of w1.1 (k := 0) rfl, ck_of w1.2.1.1, p_lsize w1.2.1, e2]
  refine ⟨fun g => ?_, fun g => ?_⟩
  · rw [if_neg (by omega), if_pos (by omega)]
    obtain ⟨i, rfl⟩ : ∃ i : Nat, a = i := ⟨a.toNat, by omega⟩
    obtain ⟨n1, rfl⟩ : ∃ n1, n = n1 + 1 := ⟨n - 1, by omega⟩
    obtain ⟨h', r1, r2, r3, r5⟩ := p_remove w1.2.1 (i := i) (by omega) (fun k hk => ⟨el_of (w1.2.2 k hk).1 (.inl rfl), by have := i3 k hk; omega⟩) (by omega)
    have hEa : lo + 19 ≤ ea ∧ ea < nx := by
      rcases i5 with q | q
      · rcases k1 with ⟨q1, -⟩ | ⟨f, q1⟩
        · omega
        · rw [q, k3] at q1; cases q1
      · exact q
    have hne : ea' ≠ ea := fun q => by have := i11 q.symm; omega
    have kw : kW h' (lo + 1) qd (mc + 1) ea n1 (dl P i) (dl A i) (dl D i) := by
      refine ⟨(r5 _ (by omega) (by omega)).trans w1.1, r2, fun j hj => ?_⟩
      unfold dl
      by_cases hji : j < i
      · have := i3 j (by omega)
        have := i8 j (by omega)
        rw [if_pos hji, if_pos hji, if_pos hji, r5 _ (by omega) (by omega)]
        exact w1.2.2 j (by omega)
      · have := i3 (j + 1) (by omega)
        have := i8 (j + 1) (by omega)
        rw [if_neg hji, if_neg hji, if_neg hji, r5 _ (by omega) (by omega)]
        exact w1.2.2 (j + 1) (by omega)
    have s2' : IS t0 lo nx n1 sn ea ea' (dl P i) Q := by
      have hd : ∀ j, j < n1 → ∃ j', j' < n1 + 1 ∧ dl P i j = P j' ∧ (j < i ∧ j' = j ∨ ¬j < i ∧ j' = j + 1) := fun j hj => by
        unfold dl
        by_cases hji : j < i
        · exact ⟨j, by omega, if_pos hji, .inl ⟨hji, rfl⟩⟩
        · exact ⟨j + 1, by omega, if_neg hji, .inr ⟨hji, rfl⟩⟩
      refine ⟨i1, i2, fun j hj => ?_, i4, i5, i6, fun j k hj hk hjk => ?_, fun j hj => ?_, i9, fun j k hj hk => ?_, i11⟩
      · obtain ⟨j', q1, q2, -⟩ := hd j hj
        rw [q2]; exact i3 j' q1
      · obtain ⟨j', q1, q2, q3⟩ := hd j hj
        obtain ⟨k', q4, q5, q6⟩ := hd k hk
        rw [q2, q5]; exact i7 j' k' q1 q4 (by omega)
      · obtain ⟨j', q1, q2, -⟩ := hd j hj
        rw [q2]; exact i8 j' q1
      · obtain ⟨j', q1, q2, -⟩ := hd j hj
        rw [q2]; exact i10 j' k q1 hk
    have w2'' : h' (lo + 1 + 2) = some (cA 576 fun p => zi (lay A (n1 + 1) (p % 24 : Nat) (p / 24 : Nat))) := (r5 _ (by omega) (by omega)).trans w2
    have x1'' : kX (hL (lo + 1) (dl A i) n1 h') lo (lo + 1) (lo + 6) (lo + 9) (lo + 10) hr (zi (tot fun x y => (G x y).toInt)) ro := (up_ne (by omega)).trans ((r5 _ (by omega) (by omega)).trans x1)
    have kw' := kW_hL (A' := dl A i) kw s2'.ly
    have eH : ∀ q, q ≠ lo + 1 + 2 → q ≠ lo + 1 + 1 → q ≠ ea → hL (lo + 1) (dl A i) n1 h' q = h q := fun q q1 q2 q3 => (up_ne q1).trans (r5 q q2 q3)
    rw [r1]
    simp only [ob_some, ck_of kw.1, p_layOut kw s2'.ly w2'', gR_of x1'' (k := 0) rfl, ck_of kw'.1, p_size kw'.1 kw'.2.1]
    refine ⟨_, rfl, ⟨qd, mc + 1, mc', og, rf, ea, ea', dl P i, Q, f1, f2, f3, f4, ⟨x1'', (eH _ (by omega) (by omega) (by omega)).trans x2⟩, ⟨kw', up_at .., (eH _ (by omega) (by omega) (by omega)).trans w3, (eH _ (by omega) (by omega) (by omega)).trans w4⟩, ⟨(eH _ (by omega) (by omega) (by omega)).trans s1, (eH _ (by omega) (by omega) (by omega)).trans s2, (eH _ (by omega) (by omega) (by omega)).trans s3⟩, ⟨kSt_eq t1 (eH _ (by omega) (by omega) (by omega)) (fun _ => eH _ (by omega) (by omega) hne) (fun j hj => ?_), t2, t3⟩, s2', .inr ?_, kE_eq k2 (eH _ (by omega) (by omega) hne), (eH _ (by omega) (by omega) (by omega)).trans k3, fun q hq => ?_⟩, fun q hq => by obtain ⟨z1, z2, z3, -⟩ := kz q hq; exact eH q (by omega) (by omega) (by omega)⟩
    · have := i4 j hj
      have := i9 j hj
      exact eH _ (by omega) (by omega) (by omega)
    · obtain ⟨f, hf⟩ := r3
      exact ⟨f, (up_ne (by omega)).trans hf⟩
    · obtain ⟨z1, z2, z3, z4, z5, z6⟩ := kz q hq
      refine ⟨z1, z2, z3, z4, fun j hj => ?_, z6⟩
      unfold dl
      by_cases hji : j < i
      · rw [if_pos hji]; exact z5 j (by omega)
      · rw [if_neg hji]; exact z5 (j + 1) (by omega)
  · by_cases g1 : a < 0
    · rw [if_pos g1]; rfl
    · rw [if_neg g1, if_neg (by omega)]; rfl
end GROW
