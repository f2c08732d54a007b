/-! THE LAW'S INVARIANT: the square, the sim, and how much has fallen -/
def PG (N : Nat) (sn : Nat) (S : Nat → Nat → Int) (B : Nat → Int32) (G : Nat → Nat → Int32) (ro : Int32) : Prop :=
  ∃ (F : Nat → Nat → Int) (off : Int) (b : Nat → Int), (∀ x y, G x y = zi (F x y) ∧ 0 ≤ F x y) ∧ ro = zi off ∧ 0 ≤ off ∧ tot F + off = 576 * N ∧ ∀ i, i < sn → B i = zi (b i) ∧ 0 ≤ b i ∧ b i ≤ F (S i 0).toNat (S i 1).toNat
def LJ (Z : Nat → Prop) (N t0 lo : Nat) (h : zH) (nx n : Nat) (A : Nat → Nat → Int) (D : Nat → Int32) (sn : Nat) (S : Nat → Nat → Int) (B : Nat → Int32) (G : Nat → Nat → Int32) (hr ro : Int32) : Prop :=
  IC Z t0 lo h nx n A D sn S B G hr ro ∧ SM Z lo h nx n A D sn S (gotS G S B) G hr ro ∧ PG N sn S B G ro
def LI (N0 T t0 lo : Nat) (h : zH) (nx : Nat) : Prop := ∃ (Z : Nat → Prop) (N n : Nat) (A : Nat → Nat → Int) (D : Nat → Int32) (sn : Nat) (S : Nat → Nat → Int) (B : Nat → Int32) (G : Nat → Nat → Int32) (hr : Nat) (ro : Int32), (N0 ≤ N ∧ N ≤ 20 * T ∧ hr ≤ N) ∧ LJ Z N t0 lo h nx n A D sn S B G (zi (hr : Int)) ro
section LIS
variable {Z : Nat → Prop} {N0 T N t0 lo : Nat} {h h' : zH} {nx nx' n : Nat} {A : Nat → Nat → Int} {D : Nat → Int32} {sn : Nat} {S : Nat → Nat → Int} {B : Nat → Int32} {G : Nat → Nat → Int32} {hr ro : Int32}
theorem SM.fr {g : Nat → Int32} (s : SM Z lo h nx n A D sn S g G hr ro) (e : ∀ q, Z q → h' q = h q) (hn : nx ≤ nx') : SM Z lo h' nx' n A D sn S g G hr ro := by
  obtain ⟨ra, rs, Pa, Ps, s⟩ := s
  exact ⟨ra, rs, Pa, Ps, s.fr e hn fun _ q => q⟩
theorem IC.low {q : Nat} (I : IC Z t0 lo h nx n A D sn S B G hr ro) (hq : Z q) : lo + 11 ≤ q ∧ q < nx := by
  obtain ⟨qd, mc, mc', og, rf, ea, ea', P, Q, f1, f2, f3, f4, -, -, -, -, -, -, -, -, kz⟩ := I
  exact ⟨(kz q hq).1, (kz q hq).2.1⟩
theorem IC.t0lo (I : IC Z t0 lo h nx n A D sn S B G hr ro) : t0 < lo := by
  obtain ⟨qd, mc, mc', og, rf, ea, ea', P, Q, f1, f2, f3, f4, -, -, -, -, s, -⟩ := I
  exact s.1
theorem LI.up {T' : Nat} (L : LI N0 T t0 lo h nx) (e : T ≤ T') : LI N0 T' t0 lo h nx := by
  obtain ⟨Z, N, n, A, D, sn, S, B, G, hr, ro, hN, L⟩ := L
  exact ⟨Z, N, n, A, D, sn, S, B, G, hr, ro, by omega, L⟩
theorem LI.nxU (L : LI N0 T t0 lo h nx) (e : nx ≤ nx') : LI N0 T t0 lo h nx' := by
  obtain ⟨Z, N, n, A, D, sn, S, B, G, hr, ro, hN, L1, L2, L3⟩ := L
  exact ⟨Z, N, n, A, D, sn, S, B, G, hr, ro, hN, L1.fr (fun _ _ _ _ => rfl) e (fun q hq => .inl hq), L2.fr (fun _ _ => rfl) e, L3⟩
/-- a cell below is set -/
theorem LI.below {q : Nat} {c : zC} (L : LI N0 T t0 lo h nx) (h1 : q < lo) (h2 : q ≠ t0) : LI N0 T t0 lo (z_up h q c) nx := by
  obtain ⟨Z, N, n, A, D, sn, S, B, G, hr, ro, hN, L1, L2, L3⟩ := L
  refine ⟨Z, N, n, A, D, sn, S, B, G, hr, ro, hN, L1.fr (fun z _ hz _ => up_ne (by omega)) (Nat.le_refl _) (fun q hq => .inl hq), L2.fr (fun z hz => up_ne ?_) (Nat.le_refl _), L3⟩
  have := L1.low hz
  omega
theorem zi_self (x : Int32) : zi x.toInt = x := (zi_of x).symm
theorem PG_all {N : Nat} (p : PG N sn S B G ro) : zi (tot fun x y => (G x y).toInt) + ro = zi (576 * N) := by
  obtain ⟨F, off, b, h1, h2, h3, h4, h5⟩ := p
  rw [zi_tot (K := F) fun x y => by rw [zi_self]; exact (h1 x y).1, h2, zi_add, h4]
end LIS
/-- true where P holds; else nothing -/
noncomputable def tk {O : Type} (P : Prop) (o : O) : Option O := @ite _ P (Classical.propDecidable P) (some o) none
theorem tk_pos {O : Type} {P : Prop} {o : O} (h : P) : tk P o = some o := @if_pos _ (Classical.propDecidable P) h _ _ _
theorem tk_some {O : Type} {P : Prop} {o o' : O} (h : tk P o = some o') : P ∧ o = o' := by
  unfold tk at h
  by_cases hp : P
  · rw [@if_pos _ (Classical.propDecidable P) hp] at h
    exact ⟨hp, Option.some.inj h⟩
  · rw [@if_neg _ (Classical.propDecidable P) hp] at h
    cases h
/-! an awning of the sim is set -/
section SET
variable {Z : Nat → Prop} {lo : Nat} {h : zH} {nx n : Nat} {A : Nat → Nat → Int} {D : Nat → Int32} {sn : Nat} {S : Nat → Nat → Int} {g : Nat → Int32} {G : Nat → Nat → Int32} {hr ro : Int32} {ra rs : Nat} {Pa Ps : Nat → Nat}
theorem SR.set (s : SR Z lo h nx n A D sn S g G hr ro ra rs Pa Ps) {i : Nat} (hi : i < n) {a : Nat → Int} (o : okA a) :
    SR Z lo (z_up h (Pa i) (cA 8 (aw8 a (D i)))) nx n (upA A i a) D sn S g G hr ro ra rs Pa Ps ∧ (∀ q, ¬ Z q → z_up h (Pa i) (cA 8 (aw8 a (D i))) q = h q) := by
  obtain ⟨s1, s2, s3, s4, s5, s6⟩ := s
  obtain ⟨i1, i2, i3, i4, i5, i6, i7, i8, i9, i10, i11⟩ := id s5
  have hp := i4 i hi
  refine ⟨⟨(up_ne (by omega)).trans s1, ⟨s2.1, ?_, fun j hj => ?_⟩, kSs_eq s3 (up_ne (i7 i hi).2.symm) fun j hj => up_ne fun e => i11 i j hi hj e.symm, kSg_eq s4 fun q a b => up_ne (by omega), s5, s6⟩, fun q hq => up_ne fun e => hq (by rw [e]; exact s6.2.2.2.1 i hi)⟩
  · obtain ⟨f, q1, q2⟩ := s2.2.1
    exact ⟨f, (up_ne (i7 i hi).1.symm).trans q1, q2⟩
  · unfold upA
    by_cases e : j = i
    · rw [if_pos e, e, up_at]
      exact ⟨rfl, o⟩
    · rw [if_neg e, up_ne (i9 j i hj hi e)]
      exact s2.2.2 j hj
theorem aw8_set {a : Nat → Int} {d : Int32} {k : Nat} {v : Int} (hk : k < 7) : (fun p => if p = k then zi v else aw8 a d p) = aw8 (fun j => if j = k then v else a j) d := by
  funext p
  unfold aw8
  by_cases h1 : p = k
  · rw [if_pos h1, if_neg (by omega)]
    exact congrArg zi (if_pos h1).symm
  · rw [if_neg h1]
    by_cases h2 : p = 7
    · rw [if_pos h2, if_pos h2]
    · rw [if_neg h2, if_neg h2]
      exact congrArg zi (if_neg h1).symm
end SET
