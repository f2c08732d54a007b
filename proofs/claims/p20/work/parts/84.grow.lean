/-! the sim grows and shrinks -/
section GROW2
variable {Z : Nat → Prop} {lo : Nat} {h : zH} {nx n : Nat} {A : Nat → Nat → Int} {D : Nat → Int32} {sn : Nat} {S : Nat → Nat → Int} {g : Nat → Int32} {G : Nat → Nat → Int32} {hr ro : Int32} {ra rs : Nat} {Pa Ps : Nat → Nat}
theorem adP_n (P : Nat → Nat) (n v : Nat) : adP P n v n = v := if_pos rfl
theorem adP_lt {P : Nat → Nat} {n v i : Nat} (h : i < n) : adP P n v i = P i := if_neg (by omega)
theorem SR.hang (s : SR Z lo h nx n A D sn S g G hr ro ra rs Pa Ps) (hn : n < 10) {a : Nat → Int} (o : okA a) {F : Nat → Option Nat} (f1 : ∀ i, i < n → F i = some (Pa i)) (f2 : F n = some nx) :
    SR (fun q => Z q ∨ (nx ≤ q ∧ q < nx + 2)) lo (z_up (z_up (z_up h nx (cA 8 (aw8 a 0))) (nx + 1) (zD (n + 1) F)) (lo + 11) (zO 6 [.ref (nx + 1), .ref rs, .ref (lo + 14), .int hr, .int ro])) (nx + 2) (n + 1) (upA A n a) (upD D n 0) sn S g G hr ro (nx + 1) rs (adP Pa n nx) Ps := by
  obtain ⟨s1, s2, s3, s4, s5, s6⟩ := s
  obtain ⟨i1, i2, i3, i4, i5, i6, i7, i8, i9, i10, i11⟩ := id s5
  obtain ⟨z1, z2, z3, z4, z5⟩ := s6
  have e : ∀ q, q < nx → q ≠ lo + 11 → z_up (z_up (z_up h nx (cA 8 (aw8 a 0))) (nx + 1) (zD (n + 1) F)) (lo + 11) (zO 6 [.ref (nx + 1), .ref rs, .ref (lo + 14), .int hr, .int ro]) q = h q := fun q a b => by rw [up_ne b, up_ne (by omega), up_ne (by omega)]
  have aP : ∀ i, i < n + 1 → (i < n ∧ adP Pa n nx i = Pa i) ∨ (i = n ∧ adP Pa n nx i = nx) := fun i hi => by
    by_cases q : i < n
    · exact .inl ⟨q, adP_lt q⟩
    · exact .inr ⟨by omega, by rw [show i = n by omega]; exact adP_n ..⟩
  refine ⟨up_at .., ⟨by omega, ⟨F, by rw [up_ne (by omega), up_at], fun i hi => ?_⟩, fun i hi => ?_⟩, kSs_eq s3 (e _ (by omega) (by omega)) fun j hj => e _ (i5 j hj).2 (by have := i5 j hj; omega), kSg_eq s4 fun q a b => e _ (by omega) (by omega), ?_, ?_⟩
  · rcases aP i hi with ⟨q1, q2⟩ | ⟨q1, q2⟩
    · rw [q2]; exact f1 i q1
    · rw [q2, q1]; exact f2
  · rcases aP i hi with ⟨q1, q2⟩ | ⟨q1, q2⟩
    · have := i4 i q1
      rw [q2, e _ (by omega) (by omega)]
      unfold upA upD
      rw [if_neg (by omega), if_neg (by omega)]
      exact s2.2.2 i q1
    · rw [q2, q1, up_ne (by omega), up_ne (by omega), up_at]
      unfold upA upD
      rw [if_pos rfl, if_pos rfl]
      exact ⟨rfl, o⟩
  · refine ⟨by omega, by omega, by omega, fun i hi => ?_, fun i hi => by have := i5 i hi; omega, by omega, fun i hi => ?_, fun i hi => ?_, fun i j hi hj hij => ?_, i10, fun i j hi hj => ?_⟩
    · rcases aP i hi with ⟨q1, q2⟩ | ⟨q1, q2⟩
      · have := i4 i q1; rw [q2]; omega
      · rw [q2]; omega
    · rcases aP i hi with ⟨q1, q2⟩ | ⟨q1, q2⟩
      · have := i4 i q1; have := i7 i q1; rw [q2]; omega
      · rw [q2]; omega
    · have := i5 i hi; have := i8 i hi; omega
    · rcases aP i hi with ⟨q1, q2⟩ | ⟨q1, q2⟩ <;> rcases aP j hj with ⟨q3, q4⟩ | ⟨q3, q4⟩
      · rw [q2, q4]; exact i9 i j q1 q3 hij
      · have := i4 i q1; rw [q2, q4]; omega
      · have := i4 j q3; rw [q2, q4]; omega
      · omega
    · rcases aP i hi with ⟨q1, q2⟩ | ⟨q1, q2⟩
      · rw [q2]; exact i11 i j q1 hj
      · have := i5 j hj; rw [q2]; omega
  · refine ⟨fun q a b => .inl (z1 q a b), .inr (by omega), .inl z3, fun i hi => ?_, fun i hi => .inl (z5 i hi)⟩
    rcases aP i hi with ⟨q1, q2⟩ | ⟨q1, q2⟩
    · rw [q2]; exact .inl (z4 i q1)
    · rw [q2]; exact .inr (by omega)
theorem SR.take {n1 w : Nat} (s : SR Z lo h nx (n1 + 1) A D sn S g G hr ro ra rs Pa Ps) (hw : w < n1 + 1) {F : Nat → Option Nat} (f1 : ∀ i, i < n1 → F i = some (dl Pa w i)) :
    SR (fun q => Z q ∨ (nx ≤ q ∧ q < nx + 1)) lo (z_up (z_up h nx (zD n1 F)) (lo + 11) (zO 6 [.ref nx, .ref rs, .ref (lo + 14), .int hr, .int ro])) (nx + 1) n1 (dl A w) (dl D w) sn S g G hr ro nx rs (dl Pa w) Ps := by
  obtain ⟨s1, s2, s3, s4, s5, s6⟩ := s
  obtain ⟨i1, i2, i3, i4, i5, i6, i7, i8, i9, i10, i11⟩ := id s5
  obtain ⟨z1, z2, z3, z4, z5⟩ := s6
  have e : ∀ q, q < nx → q ≠ lo + 11 → z_up (z_up h nx (zD n1 F)) (lo + 11) (zO 6 [.ref nx, .ref rs, .ref (lo + 14), .int hr, .int ro]) q = h q := fun q a b => by rw [up_ne b, up_ne (by omega)]
  have aP : ∀ i, i < n1 → ∃ j, j < n1 + 1 ∧ dl Pa w i = Pa j ∧ dl A w i = A j ∧ dl D w i = D j ∧ (i < w ∧ j = i ∨ ¬i < w ∧ j = i + 1) := fun i hi => by
    unfold dl
    by_cases q : i < w
    · exact ⟨i, by omega, if_pos q, if_pos q, if_pos q, .inl ⟨q, rfl⟩⟩
    · exact ⟨i + 1, by omega, if_neg q, if_neg q, if_neg q, .inr ⟨q, rfl⟩⟩
  refine ⟨up_at .., ⟨by have := s2.1; omega, ⟨F, by rw [up_ne (by omega), up_at], f1⟩, fun i hi => ?_⟩, kSs_eq s3 (e _ (by omega) (by omega)) fun j hj => e _ (i5 j hj).2 (by have := i5 j hj; omega), kSg_eq s4 fun q a b => e _ (by omega) (by omega), ?_, ?_⟩
  · obtain ⟨j, q1, q2, q3, q4, -⟩ := aP i hi
    have := i4 j q1
    rw [q2, q3, q4, e _ (by omega) (by omega)]
    exact s2.2.2 j q1
  · refine ⟨by omega, by omega, by omega, fun i hi => ?_, fun i hi => by have := i5 i hi; omega, by omega, fun i hi => ?_, fun i hi => ?_, fun i j hi hj hij => ?_, i10, fun i j hi hj => ?_⟩
    · obtain ⟨j, q1, q2, -⟩ := aP i hi
      have := i4 j q1; rw [q2]; omega
    · obtain ⟨j, q1, q2, -⟩ := aP i hi
      have := i4 j q1; have := i7 j q1; rw [q2]; omega
    · have := i5 i hi; have := i8 i hi; omega
    · obtain ⟨i', q1, q2, -, -, q3⟩ := aP i hi
      obtain ⟨j', q4, q5, -, -, q6⟩ := aP j hj
      rw [q2, q5]; exact i9 i' j' q1 q4 (by omega)
    · obtain ⟨i', q1, q2, -⟩ := aP i hi
      rw [q2]; exact i11 i' j q1 hj
  · refine ⟨fun q a b => .inl (z1 q a b), .inr (by omega), .inl z3, fun i hi => ?_, fun i hi => .inl (z5 i hi)⟩
    obtain ⟨i', q1, q2, -⟩ := aP i hi
    rw [q2]; exact .inl (z4 i' q1)
def adG (g : Nat → Int32) (sn : Nat) : Nat → Int32 := fun i => if i = sn then 0 else g i
theorem SR.stall (s : SR Z lo h nx n A D sn S g G hr ro ra rs Pa Ps) (hn : sn < 8) {c r : Nat} (hc : c < 24) (hr2 : r < 24) {F : Nat → Option Nat} (f1 : ∀ i, i < sn → F i = some (Ps i)) (f2 : F sn = some nx) :
    SR (fun q => Z q ∨ (nx ≤ q ∧ q < nx + 2)) lo (z_up (z_up (z_up h nx (cA 3 (st3 (fun k => if k = 0 then (c : Int) else r) 0))) (nx + 1) (zD (sn + 1) F)) (lo + 11) (zO 6 [.ref ra, .ref (nx + 1), .ref (lo + 14), .int hr, .int ro])) (nx + 2) n A D (sn + 1) (adS2 S sn c r) (adG g sn) G hr ro ra (nx + 1) Pa (adP Ps sn nx) := by
  obtain ⟨s1, s2, s3, s4, s5, s6⟩ := s
  obtain ⟨i1, i2, i3, i4, i5, i6, i7, i8, i9, i10, i11⟩ := id s5
  obtain ⟨z1, z2, z3, z4, z5⟩ := s6
  have e : ∀ q, q < nx → q ≠ lo + 11 → z_up (z_up (z_up h nx (cA 3 (st3 (fun k => if k = 0 then (c : Int) else r) 0))) (nx + 1) (zD (sn + 1) F)) (lo + 11) (zO 6 [.ref ra, .ref (nx + 1), .ref (lo + 14), .int hr, .int ro]) q = h q := fun q a b => by rw [up_ne b, up_ne (by omega), up_ne (by omega)]
  have aP : ∀ i, i < sn + 1 → (i < sn ∧ adP Ps sn nx i = Ps i) ∨ (i = sn ∧ adP Ps sn nx i = nx) := fun i hi => by
    by_cases q : i < sn
    · exact .inl ⟨q, adP_lt q⟩
    · exact .inr ⟨by omega, by rw [show i = sn by omega]; exact adP_n ..⟩
  refine ⟨up_at .., kSa_eq s2 (e _ (by omega) (by omega)) fun j hj => e _ (i4 j hj).2 (by have := i4 j hj; omega), ⟨by omega, ⟨F, by rw [up_ne (by omega), up_at], fun i hi => ?_⟩, fun i hi => ?_, fun i hi => ?_⟩, kSg_eq s4 fun q a b => e _ (by omega) (by omega), ?_, ?_⟩
  · rcases aP i hi with ⟨q1, q2⟩ | ⟨q1, q2⟩
    · rw [q2]; exact f1 i q1
    · rw [q2, q1]; exact f2
  · rcases aP i hi with ⟨q1, q2⟩ | ⟨q1, q2⟩
    · have := i5 i q1
      rw [q2, e _ (by omega) (by omega), s3.2.2.1 i q1]
      refine congrArg some (cA_congr fun p hp => ?_)
      unfold st3 adS2 adG
      rw [if_neg (by omega : ¬i = sn)]
      by_cases w : p = 2
      · rw [if_pos w, if_pos w]
      · rw [if_neg w, if_neg w, if_neg (by omega : ¬i = sn)]
    · rw [q2, q1, up_ne (by omega), up_ne (by omega), up_at]
      refine congrArg some (cA_congr fun p hp => ?_)
      unfold st3 adS2 adG
      rw [if_pos rfl]
      by_cases w : p = 2
      · rw [if_pos w, if_pos w]
      · rw [if_neg w, if_neg w, if_pos rfl]
  · unfold adS2
    by_cases w : i = sn
    · rw [if_pos w, if_pos w, if_pos rfl, if_neg (by omega)]; omega
    · rw [if_neg w, if_neg w]; exact s3.2.2.2 i (by omega)
  · refine ⟨by omega, by omega, by omega, fun i hi => by have := i4 i hi; omega, fun i hi => ?_, by omega, fun i hi => ?_, fun i hi => ?_, i9, fun i j hi hj hij => ?_, fun i j hi hj => ?_⟩
    · rcases aP i hi with ⟨q1, q2⟩ | ⟨q1, q2⟩
      · have := i5 i q1; rw [q2]; omega
      · rw [q2]; omega
    · have := i4 i hi; have := i7 i hi; omega
    · rcases aP i hi with ⟨q1, q2⟩ | ⟨q1, q2⟩
      · have := i5 i q1; have := i8 i q1; rw [q2]; omega
      · rw [q2]; omega
    · rcases aP i hi with ⟨q1, q2⟩ | ⟨q1, q2⟩ <;> rcases aP j hj with ⟨q3, q4⟩ | ⟨q3, q4⟩
      · rw [q2, q4]; exact i10 i j q1 q3 hij
      · have := i5 i q1; rw [q2, q4]; omega
      · have := i5 j q3; rw [q2, q4]; omega
      · omega
    · rcases aP j hj with ⟨q1, q2⟩ | ⟨q1, q2⟩
      · rw [q2]; exact i11 i j hi q1
      · have := i4 i hi; rw [q2]; omega
  · refine ⟨fun q a b => .inl (z1 q a b), .inl z2, .inr (by omega), fun i hi => .inl (z4 i hi), fun i hi => ?_⟩
    rcases aP i hi with ⟨q1, q2⟩ | ⟨q1, q2⟩
    · rw [q2]; exact .inl (z5 i q1)
    · rw [q2]; exact .inr (by omega)
end GROW2
