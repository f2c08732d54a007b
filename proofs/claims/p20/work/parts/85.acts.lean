/-! what is done to both -/
section ACTS
variable {Z : Nat → Prop} {N t0 lo : Nat} {h : zH} {nx n : Nat} {A : Nat → Nat → Int} {D : Nat → Int32} {sn : Nat} {S : Nat → Nat → Int} {B : Nat → Int32} {G : Nat → Nat → Int32} {hr ro : Int32}
theorem i32_sub (a b c : Int32) : a + b - c = a - c + b := by
  rw [zi_of a, zi_of b, zi_of c, zi_add, zi_sub, zi_sub, zi_add]
  congr 1
  omega
theorem i32_add (a b c : Int32) : a + b + c = a + c + b := by
  rw [zi_of a, zi_of b, zi_of c, zi_add, zi_add, zi_add, zi_add]
  congr 1
  omega
/-- an hour of rain, over both -/
theorem LJ.rain (L : LJ Z N t0 lo h nx n A D sn S B G hr ro) {d : Nat} (h1 : 1 ≤ d) (h2 : d ≤ 20) : ∃ (v : Int) (ha hb : zH) (Z' : Nat → Prop) (D' : Nat → Int32) (G' : Nat → Nat → Int32) (ro' : Int32),
    M_X4_rain h lo (zi (d : Int)) = some (.inr (zi v, ha)) ∧ z_ck ha (lo + 11) 6 = some () ∧ M_X5_rain ha nx (lo + 11) (zi (d : Int)) = some (zi v, hb, nx + 1 + 25 + 1) ∧ LJ Z' (N + d) t0 lo hb (nx + 1 + 25 + 1) n A D' sn S B G' (hr + 1) ro' ∧ 0 ≤ v ∧ v ≤ 576 * d := by
  obtain ⟨I, ⟨ra, rs, Pa, Ps, s⟩, F, off, b, p1, p2, p3, p4, p5⟩ := L
  have ho : ∀ i, i < n → okA (A i) := fun i hi => (s.2.1.2.2 i hi).2
  obtain ⟨ha, c1, I1, fr1⟩ := (c_rain I (d := d) (by omega)).1 (by omega)
  have s1 := s.fr fr1 (Nat.le_refl nx) (fun _ q => q)
  obtain ⟨hb, y1, s2, fr2⟩ := y_rain s1 (d := d) (by omega)
  have htot := pL_total (A := A) (n := n) (d := (d : Int)) ho (by omega)
  have hok := (pL_inv (A := A) (n := n) (d := (d : Int)) ho (by omega) 9).1
  generalize pL A n d 9 = σ at *
  obtain ⟨k1, k2, k3⟩ := hok
  have hnn := tot_nn k1
  have e1 : 576 * (d : Int) - σ.2.2 = tot σ.1 := by omega
  rw [e1] at c1
  have e2 : (fun i => gotS G S B i + zi (σ.1 (S i 0).toNat (S i 1).toNat)) = gotS (fun x y => G x y + zi (σ.1 x y)) S B := by
    funext i
    unfold gotS
    exact (i32_sub _ _ _).symm
  rw [e2] at s2
  refine ⟨tot σ.1, ha, hb, _, _, _, _, c1, ck_of s1.1, y1, ⟨I1.fr (fun q hq _ hqn => fr2 q hq hqn) (by omega) (fun q hq => hq), ⟨ra, rs, Pa, Ps, s2⟩, fun x y => F x y + σ.1 x y, off + σ.2.2, b, fun x y => ⟨?_, ?_⟩, ?_, by omega, ?_, fun i hi => ⟨(p5 i hi).1, (p5 i hi).2.1, ?_⟩⟩, hnn, by omega⟩
  · show G x y + zi (σ.1 x y) = zi (F x y + σ.1 x y)
    rw [(p1 x y).1, zi_add]
  · show 0 ≤ F x y + σ.1 x y
    have := (p1 x y).2; have := k1 x y; omega
  · rw [p2, zi_add]
  · rw [tot_plus]; omega
  · show b i ≤ F (S i 0).toNat (S i 1).toNat + σ.1 (S i 0).toNat (S i 1).toNat
    have := (p5 i hi).2.2; have := k1 (S i 0).toNat (S i 1).toNat; omega
theorem zi_b1 {x : Int} (h : 0 ≤ x ∧ x ≤ 1) : (zi x = 1) = (x = 1) := zi_eq (b := 1) (by omega) (by omega) (by omega) (by omega)
/-- an awning is rolled, over both -/
theorem LJ.roll (L : LJ Z N t0 lo h nx n A D sn S B G hr ro) {i : Nat} (hi : i < n) : ∃ (ra Pi : Nat) (h1 h2 : zH) (rv : Int), z_gR h (lo + 11) 6 0 = some ra ∧ z_aD h ra (zi (i : Int)) = some Pi ∧ z_aI h Pi 6 = some (zi (A i 6)) ∧ z_sI h Pi 6 (1 - zi (A i 6)) = some h1 ∧ z_ck h1 lo 5 = some () ∧ M_X4_roll h1 lo (zi (i : Int)) = some (.inr (zi rv, h2)) ∧ z_gR h2 (lo + 11) 6 0 = some ra ∧ z_aD h2 ra (zi (i : Int)) = some Pi ∧ z_aI h2 Pi 6 = some (zi rv) ∧ (rv = 0 ∨ rv = 1) ∧ LJ Z N t0 lo h2 nx n (upA A i (rolA (A i))) D sn S B G hr ro := by
  obtain ⟨I, ⟨ra, rs, Pa, Ps, s⟩, P⟩ := L
  have o := (s.2.1.2.2 i hi).2
  obtain ⟨s1, fr1⟩ := s.set hi (rolA_ok o)
  have hn := s.2.1.1
  have e0 : (6 : Int32) = zi ((6 : Nat) : Int) := rfl
  have e1 : z_sI h (Pa i) 6 (1 - zi (A i 6)) = some (z_up h (Pa i) (cA 8 (aw8 (rolA (A i)) (D i)))) := by
    rw [e0, csI_of (s.2.1.2.2 i hi).1 (by omega) (by omega) (by omega), Int.toNat_natCast]
    have : (1 : Int32) - zi (A i 6) = zi (1 - A i 6) := zi_sub 1 _
    rw [this, aw8_set (by omega)]
    rfl
  have I1 := I.fr (Z' := Z) (h' := z_up h (Pa i) (cA 8 (aw8 (rolA (A i)) (D i)))) (fun q hq _ _ => fr1 q hq) (Nat.le_refl _) (fun q hq => .inl hq)
  obtain ⟨h2, c1, I2, fr2⟩ := (c_roll I1 (a := (i : Int)) (by omega)).1 (by omega)
  rw [Int.toNat_natCast] at c1 I2
  have s2 := s1.fr fr2 (Nat.le_refl nx) (fun _ q => q)
  have e2 : upA A i (rolA (A i)) i 6 = 1 - A i 6 := by rw [upA_i]; rfl
  have f6 := y_f6 s2.2.1 hi
  rw [e2] at f6
  unfold okA at o
  exact ⟨ra, Pa i, _, h2, 1 - A i 6, gR_of s.1 (k := 0) rfl, y_aw s.2.1 hi, y_f6 s.2.1 hi, e1, IC.x5 I1, c1, gR_of s2.1 (k := 0) rfl, y_aw s2.2.1 hi, f6, by omega, I2, ⟨ra, rs, Pa, Ps, s2⟩, P⟩
/-- .. moved -/
theorem LJ.move (L : LJ Z N t0 lo h nx n A D sn S B G hr ro) {i : Nat} (hi : i < n) {X Y : Nat} (hX : (X : Int) ≤ 24 - A i 2) (hY : (Y : Int) ≤ 24 - A i 3) : ∃ (ra Pi : Nat) (h1 h2 h3 : zH) (v : Int32), z_gR h (lo + 11) 6 0 = some ra ∧ z_aD h ra (zi (i : Int)) = some Pi ∧ z_aI h Pi 2 = some (zi (A i 2)) ∧ z_sI h Pi 0 (zi (X : Int)) = some h1 ∧
    z_gR h1 (lo + 11) 6 0 = some ra ∧ z_aD h1 ra (zi (i : Int)) = some Pi ∧ z_aI h1 Pi 3 = some (zi (A i 3)) ∧ z_sI h1 Pi 1 (zi (Y : Int)) = some h2 ∧ z_gR h2 (lo + 11) 6 0 = some ra ∧ z_aD h2 ra (zi (i : Int)) = some Pi ∧ z_aI h2 Pi 0 = some (zi (X : Int)) ∧ z_aI h2 Pi 1 = some (zi (Y : Int)) ∧ z_ck h2 lo 5 = some () ∧
    M_X4_move h2 lo (zi (i : Int)) (zi (X : Int)) (zi (Y : Int)) = some (.inr (v, h3)) ∧ z_ck h3 (lo + 11) 6 = some () ∧ M_X5_covered h3 (lo + 11) = some v ∧ LJ Z N t0 lo h3 nx n (upA A i (movA (A i) X Y)) D sn S B G hr ro := by
  obtain ⟨I, ⟨ra, rs, Pa, Ps, s⟩, P⟩ := L
  have o := (s.2.1.2.2 i hi).2
  have om : okA (movA (A i) X Y) := movA_ok o (by omega)
  have hn := s.2.1.1
  obtain ⟨s2, fr2⟩ := s.set hi om
  have hp := (s.2.1.2.2 i hi).1
  have i4 := s.2.2.2.2.1.2.2.2.1 i hi
  have i7 := s.2.2.2.2.1.2.2.2.2.2.2.1 i hi
  -- between the two
  have e1 : z_sI h (Pa i) 0 (zi (X : Int)) = some (z_up h (Pa i) (cA 8 (aw8 (fun k => if k = 0 then (X : Int) else A i k) (D i)))) := by
    have e : z_sI h (Pa i) (zi ((0 : Nat) : Int)) (zi (X : Int)) = some (z_up h (Pa i) (cA 8 (aw8 (fun k => if k = 0 then (X : Int) else A i k) (D i)))) := by
      rw [csI_of hp (by omega) (by omega) (by omega), Int.toNat_natCast, aw8_set (by omega)]
    exact e
  have e2 : ∀ q, q ≠ Pa i → z_up h (Pa i) (cA 8 (aw8 (fun k => if k = 0 then (X : Int) else A i k) (D i))) q = h q := fun q hq => up_ne hq
  have km1 : kSm (z_up h (Pa i) (cA 8 (aw8 (fun k => if k = 0 then (X : Int) else A i k) (D i)))) (lo + 11) ra rs (lo + 14) hr ro := (e2 _ (by omega)).trans s.1
  obtain ⟨f, q1, q2⟩ := s.2.1.2.1
  have hra1 : z_up h (Pa i) (cA 8 (aw8 (fun k => if k = 0 then (X : Int) else A i k) (D i))) ra = some (zD n f) := (e2 _ i7.1.symm).trans q1
  have a1 : z_aD (z_up h (Pa i) (cA 8 (aw8 (fun k => if k = 0 then (X : Int) else A i k) (D i)))) ra (zi (i : Int)) = some (Pa i) := by
    rw [aD_of hra1 (by omega) (by omega) (by omega), Int.toNat_natCast, q2 i hi]
  have f3 : z_aI (z_up h (Pa i) (cA 8 (aw8 (fun k => if k = 0 then (X : Int) else A i k) (D i)))) (Pa i) 3 = some (zi (A i 3)) := by
    have e : z_aI (z_up h (Pa i) (cA 8 (aw8 (fun k => if k = 0 then (X : Int) else A i k) (D i)))) (Pa i) (zi ((3 : Nat) : Int)) = some (zi (A i 3)) := by
      rw [cI_of (up_at ..) (by omega) (by omega) (by omega)]; rfl
    exact e
  have e3 : z_sI (z_up h (Pa i) (cA 8 (aw8 (fun k => if k = 0 then (X : Int) else A i k) (D i)))) (Pa i) 1 (zi (Y : Int)) = some (z_up h (Pa i) (cA 8 (aw8 (movA (A i) X Y) (D i)))) := by
    have e : z_sI (z_up h (Pa i) (cA 8 (aw8 (fun k => if k = 0 then (X : Int) else A i k) (D i)))) (Pa i) (zi ((1 : Nat) : Int)) (zi (Y : Int)) = some (z_up h (Pa i) (cA 8 (aw8 (movA (A i) X Y) (D i)))) := by
      rw [csI_of (up_at ..) (by omega) (by omega) (by omega), Int.toNat_natCast, aw8_set (by omega), up_up]
      refine congrArg some (up_congr fun p hp => ?_)
      unfold aw8 movA
      by_cases w : p = 7
      · rw [if_pos w, if_pos w]
      · rw [if_neg w, if_neg w]
        congr 1
        show (if p = 1 then (Y : Int) else if p = 0 then (X : Int) else A i p) = if p = 0 then (X : Int) else if p = 1 then (Y : Int) else A i p
        by_cases w0 : p = 0
        · rw [if_neg (by omega : ¬p = 1), if_pos w0, if_pos w0]
        · rw [if_neg w0, if_neg w0]
    exact e
  have I2 := I.fr (Z' := Z) (h' := z_up h (Pa i) (cA 8 (aw8 (movA (A i) X Y) (D i)))) (fun q hq _ _ => fr2 q hq) (Nat.le_refl _) (fun q hq => .inl hq)
  obtain ⟨h3, c1, I3, fr3⟩ := (c_move I2 (a := (i : Int)) (X := (X : Int)) (Y := (Y : Int)) (by omega) (by unfold okA at o; omega) (by unfold okA at o; omega)).1 ⟨by omega, by omega, by rw [Int.toNat_natCast]; exact hX, by omega, by rw [Int.toNat_natCast]; exact hY⟩
  rw [Int.toNat_natCast] at c1 I3
  have s3 := s2.fr fr3 (Nat.le_refl nx) (fun _ q => q)
  have g0 := y_f0 s2.2.1 hi
  have g1 := y_f1 s2.2.1 hi
  rw [upA_i] at g0 g1
  have cov := y_covered s3.1 s3.2.1
  refine ⟨ra, Pa i, _, _, h3, _, gR_of s.1 (k := 0) rfl, y_aw s.2.1 hi, y_f2 s.2.1 hi, e1, gR_of km1 (k := 0) rfl, a1, f3, e3, gR_of s2.1 (k := 0) rfl, y_aw s2.2.1 hi, g0, g1, IC.x5 I2, c1, ck_of s3.1, ?_, I3, ⟨ra, rs, Pa, Ps, s3⟩, P⟩
  rw [cov]
  congr 2
/-- one is taken down -/
theorem LJ.take (L : LJ Z N t0 lo h nx n A D sn S B G hr ro) {i : Nat} (hi : i < n) (h3 : 3 ≤ n) : ∃ (ra n1 : Nat) (h1 h2 h3 : zH) (Z' : Nat → Prop) (A' : Nat → Nat → Int) (D' : Nat → Int32), z_gR h (lo + 11) 6 0 = some ra ∧ M_X5_without h nx ra (zi (i : Int)) = some (nx, h1, nx + 1) ∧ z_pV h1 (lo + 11) 6 0 (.ref nx) = some h2 ∧ z_ck h2 lo 5 = some () ∧ n = n1 + 1 ∧ M_X4_take h2 lo (zi (i : Int)) = some (.inr (zi (n1 : Int), h3)) ∧ LJ Z' N t0 lo h3 (nx + 1) n1 A' D' sn S B G hr ro := by
  obtain ⟨I, ⟨ra, rs, Pa, Ps, s⟩, P⟩ := L
  obtain ⟨n1, rfl⟩ : ∃ n1, n = n1 + 1 := ⟨n - 1, by omega⟩
  have i5 := s.2.2.2.2.1
  obtain ⟨f, q1, q2⟩ := s.2.1.2.1
  have hn := s.2.1.1
  obtain ⟨F, w1, w2⟩ := y_without (nx := nx) (w := i) q1 q2 (fun j hj => ⟨by have := i5.2.2.2.1 j hj; omega, 8, _, (s.2.1.2.2 j hj).1⟩) (by have := i5.2.1; have := i5.1; omega) (by omega) hi
  have s1 := s.take (w := i) hi w2
  have hm : lo + 11 < nx := by have := i5.1; omega
  have p1 : z_pV (z_up h nx (zD n1 F)) (lo + 11) 6 0 (.ref nx) = some (z_up (z_up h nx (zD n1 F)) (lo + 11) (zO 6 [.ref nx, .ref rs, .ref (lo + 14), .int hr, .int ro])) := by
    rw [pV_of (a := lo + 11) ((up_ne (by omega)).trans s.1) (by simp)]; rfl
  have I1 := I.fr (Z' := fun q => Z q ∨ (nx ≤ q ∧ q < nx + 1)) (h' := z_up (z_up h nx (zD n1 F)) (lo + 11) (zO 6 [.ref nx, .ref rs, .ref (lo + 14), .int hr, .int ro])) (nx' := nx + 1) (fun q hq _ hqn => by
    have : q ≠ lo + 11 := fun e => hq (s.2.2.2.2.2.1 q (by omega) (by omega))
    rw [up_ne this, up_ne (by omega)]) (by omega) (fun q hq => hq)
  obtain ⟨h3, c1, I2, fr2⟩ := (c_take I1 (a := (i : Int)) (by omega)).1 (by omega)
  rw [Int.toNat_natCast] at I2
  have s2 := s1.fr fr2 (Nat.le_refl _) (fun _ q => q)
  exact ⟨ra, n1, _, _, h3, _, _, _, gR_of s.1 (k := 0) rfl, w1, p1, IC.x5 I1, rfl, c1, I2, ⟨nx, rs, _, Ps, s2⟩, P⟩
/-- one more is hung -/
theorem LJ.hang (L : LJ Z N t0 lo h nx n A D sn S B G hr ro) (hn : n < 10) {x y w v l sd : Int} (o : okA (hanA x y w v l sd)) : ∃ (ra : Nat) (h1 h2 h3 : zH) (nx' : Nat) (Z' : Nat → Prop) (A' : Nat → Nat → Int) (D' : Nat → Int32), z_gR (z_up h nx (cA 8 (aw8 (hanA x y w v l sd) 0))) (lo + 11) 6 0 = some ra ∧ M_X5_with (z_up h nx (cA 8 (aw8 (hanA x y w v l sd) 0))) (nx + 1) ra nx = some (nx + 1, h1, nx + 1 + 1) ∧ z_pV h1 (lo + 11) 6 0 (.ref (nx + 1)) = some h2 ∧
    h2 nx = some (cA 8 (aw8 (hanA x y w v l sd) 0)) ∧ z_ck h2 lo 5 = some () ∧ M_X4_hang h2 (nx + 1 + 1) t0 lo (zi x) (zi y) (zi w) (zi v) (zi l) (zi sd) = some (.inr (zi (n : Int), h3, nx')) ∧ LJ Z' N t0 lo h3 nx' (n + 1) A' D' sn S B G hr ro := by
  obtain ⟨I, ⟨ra, rs, Pa, Ps, s⟩, P⟩ := L
  have i5 := s.2.2.2.2.1
  obtain ⟨f, q1, q2⟩ := s.2.1.2.1
  have hm : lo + 11 < nx := by have := i5.1; omega
  have ha : ra < nx := by have := i5.2.1; have := i5.1; omega
  obtain ⟨F, w1, w2, w3⟩ := y_with (h := z_up h nx (cA 8 (aw8 (hanA x y w v l sd) 0))) (nx := nx + 1) (b := nx) ((up_ne (by omega)).trans q1) q2 (fun j hj => ⟨by have := i5.2.2.2.1 j hj; omega, 8, _, (up_ne (by have := i5.2.2.2.1 j hj; omega)).trans (s.2.1.2.2 j hj).1⟩) (by omega) ⟨by omega, 8, _, up_at ..⟩ (by omega)
  have s1 := s.hang hn o w2 w3
  have p1 : z_pV (z_up (z_up h nx (cA 8 (aw8 (hanA x y w v l sd) 0))) (nx + 1) (zD (n + 1) F)) (lo + 11) 6 0 (.ref (nx + 1)) = some (z_up (z_up (z_up h nx (cA 8 (aw8 (hanA x y w v l sd) 0))) (nx + 1) (zD (n + 1) F)) (lo + 11) (zO 6 [.ref (nx + 1), .ref rs, .ref (lo + 14), .int hr, .int ro])) := by
    rw [pV_of (a := lo + 11) ((up_ne (by omega)).trans ((up_ne (by omega)).trans s.1)) (by simp)]; rfl
  have I1 := I.fr (Z' := fun q => Z q ∨ (nx ≤ q ∧ q < nx + 2)) (h' := z_up (z_up (z_up h nx (cA 8 (aw8 (hanA x y w v l sd) 0))) (nx + 1) (zD (n + 1) F)) (lo + 11) (zO 6 [.ref (nx + 1), .ref rs, .ref (lo + 14), .int hr, .int ro])) (nx' := nx + 1 + 1) (fun q hq _ hqn => by
    have : q ≠ lo + 11 := fun e => hq (s.2.2.2.2.2.1 q (by omega) (by omega))
    rw [up_ne this, up_ne (by omega), up_ne (by omega)]) (by omega) (fun q hq => by omega)
  have o' := o
  unfold okA hanA at o'
  simp only [if_true, reduceIte, Nat.reduceEqDiff] at o'
  obtain ⟨-, g2⟩ := c_hang I1 (x := x) (y := y) (w := w) (v := v) (l := l) (s := sd) (by omega) (by omega) (by omega) (by omega) (by omega) (by omega)
  obtain ⟨-, g3⟩ := g2 (by unfold okH; omega)
  obtain ⟨-, g4⟩ := g3 (by omega)
  obtain ⟨h3, nx', c1, hnx, I2, fr2⟩ := g4 hn
  have s2 := s1.fr fr2 hnx (fun _ q => q)
  exact ⟨ra, _, _, h3, nx', _, _, _, gR_of ((up_ne (by omega)).trans s.1) (k := 0) rfl, w1, p1, by rw [up_ne (by omega), up_ne (by omega), up_at], IC.x5 I1, c1, I2, ⟨nx + 1, rs, _, Ps, s2⟩, P⟩
end ACTS
