/-! THE INVARIANT of the two heaps -/
abbrev inW1 (c ea n : Nat) (P : Nat → Nat) (q : Nat) : Prop := inW c ea n P q
def kE (h : zH) (t0 ea n : Nat) : Prop := (n = 0 ∧ ea = t0) ∨ ∃ f, h ea = some (zQ 10 f)
/-- the addresses: apart -/
def IS (t0 lo nx n sn ea ea' : Nat) (P Q : Nat → Nat) : Prop :=
  t0 < lo ∧ lo + 19 ≤ nx ∧ (∀ i, i < n → lo + 19 ≤ P i ∧ P i < nx) ∧ (∀ i, i < sn → lo + 19 ≤ Q i ∧ Q i < nx) ∧ (ea = t0 ∨ lo + 19 ≤ ea ∧ ea < nx) ∧ (ea' = t0 ∨ lo + 19 ≤ ea' ∧ ea' < nx) ∧
    (∀ i j, i < n → j < n → i ≠ j → P i ≠ P j) ∧ (∀ i, i < n → P i ≠ ea ∧ P i ≠ ea') ∧ (∀ i, i < sn → Q i ≠ ea ∧ Q i ≠ ea') ∧ (∀ i j, i < n → j < sn → P i ≠ Q j) ∧ (ea = ea' → ea = t0)
/-- the addresses Z are not the class's -/
def IZ (Z : Nat → Prop) (lo nx n sn ea ea' : Nat) (P Q : Nat → Nat) : Prop := ∀ q, Z q → lo + 11 ≤ q ∧ q < nx ∧ q ≠ ea ∧ q ≠ ea' ∧ (∀ i, i < n → q ≠ P i) ∧ ∀ i, i < sn → q ≠ Q i
def IR (Z : Nat → Prop) (t0 lo : Nat) (h : zH) (nx n : Nat) (A : Nat → Nat → Int) (D : Nat → Int32) (sn : Nat) (S : Nat → Nat → Int) (B : Nat → Int32) (G : Nat → Nat → Int32) (hr ro qd mc mc' og rf : Int32) (ea ea' : Nat) (P Q : Nat → Nat) (f1 f2 f3 f4 : Nat → Int32) : Prop :=
  (kX h lo (lo + 1) (lo + 6) (lo + 9) (lo + 10) hr (zi (tot fun x y => (G x y).toInt)) ro ∧ kG h (lo + 10) G) ∧
  (kW h (lo + 1) qd mc ea n P A D ∧ kLy h (lo + 1) n A ∧ h (lo + 1 + 3) = some (cA 576 f1) ∧ h (lo + 1 + 4) = some (cA 576 f2)) ∧
  (h (lo + 6) = some (zO 3 [.ref (lo + 1), .ref (lo + 6 + 1), .ref (lo + 6 + 2), .int og, .int rf]) ∧ h (lo + 6 + 1) = some (cA 576 f3) ∧ h (lo + 6 + 2) = some (cA 10 f4)) ∧
  (kSt h (lo + 9) mc' ea' sn Q S B ∧ okS2 S sn ∧ sn ≤ 8) ∧ IS t0 lo nx n sn ea ea' P Q ∧ kE h t0 ea n ∧ kE h t0 ea' sn ∧ h t0 = some zE ∧ IZ Z lo nx n sn ea ea' P Q
def IC (Z : Nat → Prop) (t0 lo : Nat) (h : zH) (nx n : Nat) (A : Nat → Nat → Int) (D : Nat → Int32) (sn : Nat) (S : Nat → Nat → Int) (B : Nat → Int32) (G : Nat → Nat → Int32) (hr ro : Int32) : Prop :=
  ∃ (qd mc mc' og rf : Int32) (ea ea' : Nat) (P Q : Nat → Nat) (f1 f2 f3 f4 : Nat → Int32), IR Z t0 lo h nx n A D sn S B G hr ro qd mc mc' og rf ea ea' P Q f1 f2 f3 f4
theorem kSt_eq {h h' : zH} {sl : Nat} {mc : Int32} {ea sn : Nat} {Q : Nat → Nat} {S : Nat → Nat → Int} {B : Nat → Int32} (k : kSt h sl mc ea sn Q S B) (e1 : h' sl = h sl) (e2 : 0 < sn → h' ea = h ea) (e3 : ∀ i, i < sn → h' (Q i) = h (Q i)) : kSt h' sl mc ea sn Q S B := by
  obtain ⟨⟨k1, k2, k3⟩, k4⟩ := k
  refine ⟨⟨e1.trans k1, k2, fun hn => ?_⟩, fun i hi => (e3 i hi).trans (k4 i hi)⟩
  obtain ⟨f, g1, g2⟩ := k3 hn
  exact ⟨f, (e2 hn).trans g1, g2⟩
theorem kE_eq {h h' : zH} {t0 ea n : Nat} (k : kE h t0 ea n) (e : h' ea = h ea) : kE h' t0 ea n := k.imp_right fun ⟨f, g⟩ => ⟨f, e.trans g⟩
section IRS
variable {Z Z' : Nat → Prop} {t0 lo : Nat} {h h' : zH} {nx nx' n : Nat} {A : Nat → Nat → Int} {D : Nat → Int32} {sn : Nat} {S : Nat → Nat → Int} {B : Nat → Int32} {G : Nat → Nat → Int32} {hr ro qd mc mc' og rf th : Int32} {ea ea' : Nat} {P Q : Nat → Nat} {f1 f2 f3 f4 : Nat → Int32}
theorem IS.inW (i : IS t0 lo nx n sn ea ea' P Q) {q : Nat} (hq : inW (lo + 1) ea n P q) : q = lo + 1 ∨ q = lo + 2 ∨ q = t0 ∨ (lo + 19 ≤ q ∧ q < nx) := by
  obtain ⟨i1, i2, i3, i4, i5, i6, -⟩ := i
  rcases hq with rfl | rfl | rfl | ⟨j, hj, rfl⟩
  · exact .inl rfl
  · exact .inr (.inl rfl)
  · rcases i5 with h | h
    · exact .inr (.inr (.inl h))
    · exact .inr (.inr (.inr h))
  · exact .inr (.inr (.inr (i3 j hj)))
theorem IS.sepP (i : IS t0 lo nx n sn ea ea' P Q) : sepP (lo + 1) ea n P := by
  obtain ⟨i1, i2, i3, i4, i5, i6, i7, i8, -⟩ := i
  intro j hj
  have := i3 j hj
  exact ⟨by omega, by omega, by omega, (i8 j hj).1, fun k hk hkj => i7 k j hk hj hkj⟩
theorem IS.sepW (i : IS t0 lo nx n sn ea ea' P Q) : sepW (lo + 6) (lo + 1) ea n P := by
  intro q hq
  have := i.inW hq
  have := i.1
  omega
theorem IS.ly (i : IS t0 lo nx n sn ea ea' P Q) : ∀ q, inW1 (lo + 1) ea n P q → q ≠ lo + 1 + 2 := by
  intro q hq
  have := i.inW hq
  have := i.1
  omega
theorem IS.up (i : IS t0 lo nx n sn ea ea' P Q) (e : nx ≤ nx') : IS t0 lo nx' n sn ea ea' P Q := by
  obtain ⟨i1, i2, i3, i4, i5, i6, i7⟩ := i
  refine ⟨i1, by omega, fun j hj => ?_, fun j hj => ?_, ?_, ?_, i7⟩
  · have := i3 j hj; omega
  · have := i4 j hj; omega
  · omega
  · omega
theorem IZ.up {Z Z' : Nat → Prop} {lo nx nx' n sn ea ea' : Nat} {P Q : Nat → Nat} (z : IZ Z lo nx n sn ea ea' P Q) (i : IS t0 lo nx n sn ea ea' P Q) (hn : nx ≤ nx') (hz : ∀ q, Z' q → Z q ∨ (nx ≤ q ∧ q < nx')) : IZ Z' lo nx' n sn ea ea' P Q := by
  obtain ⟨i1, i2, i3, i4, i5, i6, -⟩ := i
  intro q hq
  rcases hz q hq with h | h
  · obtain ⟨z1, z2, z3⟩ := z q h
    exact ⟨z1, by omega, z3⟩
  · exact ⟨by omega, by omega, by omega, by omega, fun j hj => by have := i3 j hj; omega, fun j hj => by have := i4 j hj; omega⟩
/-- what the sim and the heap beyond do is nothing to the class's part -/
theorem IR.fr (I : IR Z t0 lo h nx n A D sn S B G hr ro qd mc mc' og rf ea ea' P Q f1 f2 f3 f4) (e : ∀ q, ¬ Z q → (q = t0 ∨ lo ≤ q) → q < nx → h' q = h q) (hn : nx ≤ nx') (hz : ∀ q, Z' q → Z q ∨ (nx ≤ q ∧ q < nx')) : IR Z' t0 lo h' nx' n A D sn S B G hr ro qd mc mc' og rf ea ea' P Q f1 f2 f3 f4 := by
  obtain ⟨⟨x1, x2⟩, ⟨w1, w2, w3, w4⟩, ⟨s1, s2, s3⟩, ⟨t1, t2, t3⟩, i, k1, k2, k3, kz⟩ := I
  obtain ⟨i1, i2, i3, i4, i5, i6, i7⟩ := id i
  have lowZ : ∀ q, q < lo + 11 → ¬ Z q := fun q hq h => by have := (kz q h).1; omega
  have lw : ∀ q, (q = t0 ∨ lo ≤ q) → q < lo + 11 → h' q = h q := fun q h0 hq => e q (lowZ q hq) h0 (by omega)
  have ee : h' ea = h ea := e _ (fun h => (kz _ h).2.2.1 rfl) (by omega) (by omega)
  have ee' : h' ea' = h ea' := e _ (fun h => (kz _ h).2.2.2.1 rfl) (by omega) (by omega)
  have eP : ∀ j, j < n → h' (P j) = h (P j) := fun j hj => e _ (fun h => (kz _ h).2.2.2.2.1 j hj rfl) (by have := i3 j hj; omega) (i3 j hj).2
  have eQ : ∀ j, j < sn → h' (Q j) = h (Q j) := fun j hj => e _ (fun h => (kz _ h).2.2.2.2.2 j hj rfl) (by have := i4 j hj; omega) (i4 j hj).2
  refine ⟨⟨(lw _ (by omega) (by omega)).trans x1, (lw _ (by omega) (by omega)).trans x2⟩, ⟨kW_eq (fun q hq => ?_) w1, (lw _ (by omega) (by omega)).trans w2, (lw _ (by omega) (by omega)).trans w3, (lw _ (by omega) (by omega)).trans w4⟩, ⟨(lw _ (by omega) (by omega)).trans s1, (lw _ (by omega) (by omega)).trans s2, (lw _ (by omega) (by omega)).trans s3⟩, ⟨kSt_eq t1 (lw _ (by omega) (by omega)) (fun _ => ee') eQ, t2, t3⟩, i.up hn, kE_eq k1 ee, kE_eq k2 ee', (lw _ (by omega) (by omega)).trans k3, kz.up i hn hz⟩
  rcases hq with rfl | rfl | rfl | ⟨j, hj, rfl⟩
  · exact lw _ (by omega) (by omega)
  · exact lw _ (by omega) (by omega)
  · exact ee
  · exact eP j hj
theorem IC.fr (I : IC Z t0 lo h nx n A D sn S B G hr ro) (e : ∀ q, ¬ Z q → (q = t0 ∨ lo ≤ q) → q < nx → h' q = h q) (hn : nx ≤ nx') (hz : ∀ q, Z' q → Z q ∨ (nx ≤ q ∧ q < nx')) : IC Z' t0 lo h' nx' n A D sn S B G hr ro := by
  obtain ⟨qd, mc, mc', og, rf, ea, ea', P, Q, f1, f2, f3, f4, I⟩ := I
  exact ⟨qd, mc, mc', og, rf, ea, ea', P, Q, f1, f2, f3, f4, I.fr e hn hz⟩
end IRS
/-- a class's operation leaves the sim's cells -/
def frC (Z : Nat → Prop) (h h' : zH) : Prop := ∀ q, Z q → h' q = h q
