/-! THE INVARIANT of the two heaps -/
abbrev inW1 (c ea n : Nat) (P : Nat → Nat) (q : Nat) : Prop := inW c ea n P q
def kE (h : zH) (t0 ea n : Nat) : Prop := (n = 0 ∧ ea = t0) ∨ ∃ f, h ea = some (zQ 10 f)
/-- the addresses: apart -/
def IS (t0 lo nx n sn ea ea' : Nat) (P Q : Nat → Nat) : Prop :=
  t0 < lo ∧ lo + 19 ≤ nx ∧ (∀ i, i < n → lo + 19 ≤ P i ∧ P i < nx) ∧ (∀ i, i < sn → lo + 19 ≤ Q i ∧ Q i < nx) ∧ (ea = t0 ∨ lo + 19 ≤ ea ∧ ea < nx) ∧ (ea' = t0 ∨ lo + 19 ≤ ea' ∧ ea' < nx) ∧
    (∀ i j, i < n → j < n → i ≠ j → P i ≠ P j) ∧ (∀ i, i < n → P i ≠ ea ∧ P i ≠ ea') ∧ (∀ i, i < sn → Q i ≠ ea ∧ Q i ≠ ea') ∧ (∀ i j, i < n → j < sn → P i ≠ Q j) ∧ (ea = ea' → ea = t0)
def IR (t0 lo : Nat) (h : zH) (nx n : Nat) (A : Nat → Nat → Int) (D : Nat → Int32) (sn : Nat) (S : Nat → Nat → Int) (B : Nat → Int32) (G : Nat → Nat → Int32) (hr ro qd mc mc' og rf : Int32) (ea ea' : Nat) (P Q : Nat → Nat) (f1 f2 f3 f4 : Nat → Int32) : Prop :=
  (kX h lo (lo + 1) (lo + 6) (lo + 9) (lo + 10) hr (zi (tot fun x y => (G x y).toInt)) ro ∧ kG h (lo + 10) G) ∧
  (kW h (lo + 1) qd mc ea n P A D ∧ kLy h (lo + 1) n A ∧ h (lo + 1 + 3) = some (cA 576 f1) ∧ h (lo + 1 + 4) = some (cA 576 f2)) ∧
  (h (lo + 6) = some (zO 3 [.ref (lo + 1), .ref (lo + 6 + 1), .ref (lo + 6 + 2), .int og, .int rf]) ∧ h (lo + 6 + 1) = some (cA 576 f3) ∧ h (lo + 6 + 2) = some (cA 10 f4)) ∧
  (kSt h (lo + 9) mc' ea' sn Q S B ∧ okS2 S sn ∧ sn ≤ 8) ∧ IS t0 lo nx n sn ea ea' P Q ∧ kE h t0 ea n ∧ kE h t0 ea' sn ∧ h t0 = some zE
def IC (t0 lo : Nat) (h : zH) (nx n : Nat) (A : Nat → Nat → Int) (D : Nat → Int32) (sn : Nat) (S : Nat → Nat → Int) (B : Nat → Int32) (G : Nat → Nat → Int32) (hr ro : Int32) : Prop :=
  ∃ (qd mc mc' og rf : Int32) (ea ea' : Nat) (P Q : Nat → Nat) (f1 f2 f3 f4 : Nat → Int32), IR t0 lo h nx n A D sn S B G hr ro qd mc mc' og rf ea ea' P Q f1 f2 f3 f4
def IM (lo : Nat) (h : zH) (th : Int32) (n : Nat) (A : Nat → Nat → Int) (D : Nat → Int32) (sn : Nat) (S : Nat → Nat → Int) (B : Nat → Int32) (G : Nat → Nat → Int32) (hr ro : Int32) : Prop :=
  kM h (lo + 11) th n sn hr ro ∧ kSh h (lo + 11) n A D ∧ kGm h (lo + 11) G ∧ kAt h (lo + 11) sn S B ∧ okS2 S sn ∧ (∃ f, h (lo + 11 + 5) = some (cA 576 f)) ∧ ∃ f, h (lo + 11 + 6) = some (cA 10 f)
theorem kSt_eq {h h' : zH} {sl : Nat} {mc : Int32} {ea sn : Nat} {Q : Nat → Nat} {S : Nat → Nat → Int} {B : Nat → Int32} (k : kSt h sl mc ea sn Q S B) (e1 : h' sl = h sl) (e2 : 0 < sn → h' ea = h ea) (e3 : ∀ i, i < sn → h' (Q i) = h (Q i)) : kSt h' sl mc ea sn Q S B := by
  obtain ⟨⟨k1, k2, k3⟩, k4⟩ := k
  refine ⟨⟨e1.trans k1, k2, fun hn => ?_⟩, fun i hi => (e3 i hi).trans (k4 i hi)⟩
  obtain ⟨f, g1, g2⟩ := k3 hn
  exact ⟨f, (e2 hn).trans g1, g2⟩
theorem kE_eq {h h' : zH} {t0 ea n : Nat} (k : kE h t0 ea n) (e : h' ea = h ea) : kE h' t0 ea n := k.imp_right fun ⟨f, g⟩ => ⟨f, e.trans g⟩
section IRS
variable {t0 lo : Nat} {h h' : zH} {nx nx' n : Nat} {A : Nat → Nat → Int} {D : Nat → Int32} {sn : Nat} {S : Nat → Nat → Int} {B : Nat → Int32} {G : Nat → Nat → Int32} {hr ro qd mc mc' og rf th : Int32} {ea ea' : Nat} {P Q : Nat → Nat} {f1 f2 f3 f4 : Nat → Int32}
theorem IS.inW (i : IS t0 lo nx n sn ea ea' P Q) {q : Nat} (hq : inW (lo + 1) ea n P q) : q = lo + 1 ∨ q = lo + 2 ∨ q = t0 ∨ (lo + 19 ≤ q ∧ q < nx) := by
  obtain ⟨i1, i2, i3, i4, i5, i6, -⟩ := i
  rcases hq with rfl | rfl | rfl | ⟨j, hj, rfl⟩
  · exact .inl rfl
  · exact .inr (.inl rfl)
  · rcases i5 with h | h
    · exact .inr (.inr (.inl h))
    · exact .inr (.inr (.inr h))
  · exact .inr (.inr (.inr (i3 j hj)))
theorem IS.sepP (i : IS t0 lo nx n sn ea ea' P Q) : sepP (lo + 1) ea n P := by
  obtain ⟨i1, i2, i3, i4, i5, i6, i7, i8, -⟩ := i
  intro j hj
  have := i3 j hj
  exact ⟨by omega, by omega, by omega, (i8 j hj).1, fun k hk hkj => i7 k j hk hj hkj⟩
theorem IS.sepW (i : IS t0 lo nx n sn ea ea' P Q) : sepW (lo + 6) (lo + 1) ea n P := by
  intro q hq
  have := i.inW hq
  have := i.1
  omega
theorem IS.ly (i : IS t0 lo nx n sn ea ea' P Q) : ∀ q, inW1 (lo + 1) ea n P q → q ≠ lo + 1 + 2 := by
  intro q hq
  have := i.inW hq
  have := i.1
  omega
theorem IS.up (i : IS t0 lo nx n sn ea ea' P Q) (e : nx ≤ nx') : IS t0 lo nx' n sn ea ea' P Q := by
  obtain ⟨i1, i2, i3, i4, i5, i6, i7⟩ := i
  refine ⟨i1, by omega, fun j hj => ?_, fun j hj => ?_, ?_, ?_, i7⟩
  · have := i3 j hj; omega
  · have := i4 j hj; omega
  · omega
  · omega
/-- what the model and the heap beyond do is nothing to the class's part -/
theorem IR.fr (I : IR t0 lo h nx n A D sn S B G hr ro qd mc mc' og rf ea ea' P Q f1 f2 f3 f4) (e : ∀ q, q < lo + 11 ∨ (lo + 19 ≤ q ∧ q < nx) → h' q = h q) (hn : nx ≤ nx') : IR t0 lo h' nx' n A D sn S B G hr ro qd mc mc' og rf ea ea' P Q f1 f2 f3 f4 := by
  obtain ⟨⟨x1, x2⟩, ⟨w1, w2, w3, w4⟩, ⟨s1, s2, s3⟩, ⟨t1, t2, t3⟩, i, k1, k2, k3⟩ := I
  obtain ⟨i1, i2, i3, i4, i5, i6, i7⟩ := id i
  have ee : h' ea = h ea := e _ (by omega)
  have ee' : h' ea' = h ea' := e _ (by omega)
  refine ⟨⟨(e _ (by omega)).trans x1, (e _ (by omega)).trans x2⟩, ⟨kW_eq (fun q hq => e q ?_) w1, (e _ (by omega)).trans w2, (e _ (by omega)).trans w3, (e _ (by omega)).trans w4⟩, ⟨(e _ (by omega)).trans s1, (e _ (by omega)).trans s2, (e _ (by omega)).trans s3⟩, ⟨kSt_eq t1 (e _ (by omega)) (fun _ => ee') (fun j hj => e _ (.inr (i4 j hj))), t2, t3⟩, i.up hn, kE_eq k1 ee, kE_eq k2 ee', (e _ (by omega)).trans k3⟩
  have := i.inW hq
  omega
theorem IC.fr (I : IC t0 lo h nx n A D sn S B G hr ro) (e : ∀ q, q < lo + 11 ∨ (lo + 19 ≤ q ∧ q < nx) → h' q = h q) (hn : nx ≤ nx') : IC t0 lo h' nx' n A D sn S B G hr ro := by
  obtain ⟨qd, mc, mc', og, rf, ea, ea', P, Q, f1, f2, f3, f4, I⟩ := I
  exact ⟨qd, mc, mc', og, rf, ea, ea', P, Q, f1, f2, f3, f4, I.fr e hn⟩
theorem kSh_eq {m : Nat} (k : kSh h m n A D) (e : h' (m + 1) = h (m + 1)) : kSh h' m n A D := by
  obtain ⟨hn, f, g1, g2⟩ := k
  exact ⟨hn, f, e.trans g1, g2⟩
theorem kAt_eq {m : Nat} (k : kAt h m sn S B) (e2 : h' (m + 2) = h (m + 2)) (e3 : h' (m + 3) = h (m + 3)) : kAt h' m sn S B := by
  obtain ⟨h1, ⟨f, h2, h3⟩, g, h4, h5⟩ := k
  exact ⟨h1, ⟨f, e2.trans h2, h3⟩, g, e3.trans h4, h5⟩
theorem IM.fr (J : IM lo h th n A D sn S B G hr ro) (e : ∀ q, lo + 11 ≤ q → q < lo + 18 → h' q = h q) : IM lo h' th n A D sn S B G hr ro := by
  obtain ⟨j1, j2, j3, j4, j5, ⟨f5, j6⟩, f6, j7⟩ := J
  exact ⟨(e _ (by omega) (by omega)).trans j1, kSh_eq j2 (e _ (by omega) (by omega)), (e _ (by omega) (by omega)).trans j3, kAt_eq j4 (e _ (by omega) (by omega)) (e _ (by omega) (by omega)), j5, ⟨f5, (e _ (by omega) (by omega)).trans j6⟩, f6, (e _ (by omega) (by omega)).trans j7⟩
/-- .. when only thrown is set -/
theorem IM.hT (J : IM lo h th n A D sn S B G hr ro) (t : Int32) : IM lo (hT h (lo + 11) t n sn hr ro) t n A D sn S B G hr ro := by
  obtain ⟨j1, j2, j3, j4, j5, ⟨f5, j6⟩, f6, j7⟩ := J
  exact ⟨kM_hT .., kSh_hT j2, kGm_hT j3, kAt_hT j4, j5, ⟨f5, (hT_ne (by omega)).trans j6⟩, f6, (hT_ne (by omega)).trans j7⟩
end IRS
/-- a class's operation leaves the model and the law's row -/
def frC (lo : Nat) (h h' : zH) : Prop := ∀ q, lo + 11 ≤ q → q < lo + 19 → h' q = h q
/-- a model's operation leaves all else -/
def frM (lo nx : Nat) (h h' : zH) : Prop := ∀ q, q < nx → (q < lo + 11 ∨ lo + 18 ≤ q) → h' q = h q
theorem frM_hT {lo nx : Nat} {h : zH} {t : Int32} {n sn : Nat} {hr ro : Int32} : frM lo nx h (hT h (lo + 11) t n sn hr ro) := fun q _ h2 => hT_ne (by omega)
