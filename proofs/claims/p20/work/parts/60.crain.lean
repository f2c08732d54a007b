/-! an hour of rain: the class, and both under the invariant -/
theorem zi_sm {n : Nat} {f g : Nat → Int} (h : ∀ k, k < n → zi (f k) = zi (g k)) : zi (sm n f) = zi (sm n g) := by
  induction n with
  | zero => rfl
  | succ n ih => rw [sm, sm, ← zi_add, ← zi_add, ih fun k hk => h k (by omega), h n (by omega)]
theorem zi_tot {F K : Nat → Nat → Int} (h : ∀ x y, zi (F x y) = zi (K x y)) : zi (tot F) = zi (tot K) := zi_sm fun x _ => zi_sm fun y _ => h x y
theorem tot_plus (F K : Nat → Nat → Int) : tot (fun x y => F x y + K x y) = tot F + tot K := by
  unfold tot
  simp only [sm_add]
theorem gd_add (G : Nat → Nat → Int32) (F : Nat → Nat → Int) : zi (tot fun x y => (G x y + zi (F x y)).toInt) = zi (tot fun x y => (G x y).toInt) + zi (tot F) := by
  rw [zi_add, ← tot_plus]
  refine zi_tot fun x y => ?_
  rw [← zi_of, ← zi_add, ← zi_of]
theorem hS_up {s c q : Nat} {σ : zS} {h : zH} {v : zC} (e : q ≠ s ∧ q ≠ s + 1 ∧ q ≠ s + 2) : z_up (hS s c σ h) q v = hS s c σ (z_up h q v) := by
  unfold hS
  rw [up_cm (a := s + 2) (b := q) (Ne.symm e.2.2), up_cm (a := s + 1) (b := q) (Ne.symm e.2.1), up_cm (a := s) (b := q) (Ne.symm e.1)]
/-- the awnings with what went over their sides added -/
def dpH (h : zH) (P : Nat → Nat) (A : Nat → Nat → Int) (D : Nat → Int32) (K : Nat → Int) : Nat → zH
  | 0 => h
  | k + 1 => z_up (dpH h P A D K k) (P k) (oA (A k) (D k + zi (K k)))
def dpD (D : Nat → Int32) (K : Nat → Int) (k : Nat) : Nat → Int32 := fun i => if i < k then D i + zi (K i) else D i
theorem dpH_ne {h : zH} {P : Nat → Nat} {A : Nat → Nat → Int} {D : Nat → Int32} {K : Nat → Int} {q : Nat} (k : Nat) (e : ∀ i, i < k → q ≠ P i) : dpH h P A D K k q = h q := by
  induction k with
  | zero => rfl
  | succ k ih => exact (up_ne (e k (by omega))).trans (ih fun i hi => e i (by omega))
theorem dpD_s (D : Nat → Int32) (K : Nat → Int) (k : Nat) : upD (dpD D K k) k (D k + zi (K k)) = dpD D K (k + 1) := by
  funext j
  unfold upD dpD
  by_cases h1 : j = k
  · rw [if_pos h1, if_pos (by omega), h1]
  · rw [if_neg h1]
    by_cases h2 : j < k
    · rw [if_pos h2, if_pos (by omega)]
    · rw [if_neg h2, if_neg (by omega)]
theorem upA_s (A : Nat → Nat → Int) (i : Nat) : upA A i (A i) = A := by
  funext j
  unfold upA
  by_cases h : j = i
  · rw [if_pos h, h]
  · rw [if_neg h]
theorem kW_D {h : zH} {c : Nat} {qd mc : Int32} {ea n : Nat} {P : Nat → Nat} {A : Nat → Nat → Int} {D D' : Nat → Int32} (k : kW h c qd mc ea n P A D) (e : ∀ i, i < n → D i = D' i) : kW h c qd mc ea n P A D' :=
  ⟨k.1, k.2.1, fun i hi => by rw [← e i hi]; exact k.2.2 i hi⟩
section CRAIN
variable {Z : Nat → Prop} {t0 lo : Nat} {h : zH} {nx n : Nat} {A : Nat → Nat → Int} {D : Nat → Int32} {sn : Nat} {S : Nat → Nat → Int} {B : Nat → Int32} {G : Nat → Nat → Int32} {hr ro th : Int32}
theorem c_rain (I : IC Z t0 lo h nx n A D sn S B G hr ro) {d : Int} (hd : -2147483648 ≤ d ∧ d < 2147483648) :
    (1 ≤ d ∧ d ≤ 20 → ∃ h', M_X4_rain h lo (zi d) = some (.inr (zi (576 * d - (pL A n d 9).2.2), h')) ∧ IC Z t0 lo h' nx n A (fun i => D i + zi ((pL A n d 9).2.1 i)) sn S B (fun x y => G x y + zi ((pL A n d 9).1 x y)) (hr + 1) (ro + zi (pL A n d 9).2.2) ∧ frC Z h h') ∧
    (¬(1 ≤ d ∧ d ≤ 20) → M_X4_rain h lo (zi d) = some (.inl sIA)) := by
  obtain ⟨qd, mc, mc', og, rf, ea, ea', P, Q, f1, f2, f3, f4, I⟩ := I
  obtain ⟨⟨x1, x2⟩, ⟨w1, w2, w3, w4⟩, ⟨s1, s2, s3⟩, ⟨t1, t2, t3⟩, s, k1, k2, k3, kz⟩ := id I
  obtain ⟨i1, i2, i3, i4, i5, i6, i7, i8, i9, i10, i11⟩ := id s
  have hn := w1.2.1.2.1
  have ho : ∀ i, i < n → okA (A i) := fun i hi => (w1.2.2 i hi).2
  simp only [M_X4_rain, p_drops hd, z_tb, ob_some]
  refine ⟨fun g => ?_, fun g => by rw [if_neg g]⟩
  rw [if_pos g]
  have hpour : M_X2_pour h (lo + 6) (zi d) = some (hS (lo + 6) (lo + 1) (pL A n d 9) h) := p_pour w1 s.sepW s1 s2 s3 fun m j hm hj h6 h4 => pL_K ho (by omega) (by omega) m j hj h6 h4
  have htot := pL_total (A := A) (n := n) (d := d) ho (by omega)
  simp only [gR_of x1 (k := 1) rfl, ob_some, ck_of s1, hpour]
  generalize pL A n d 9 = σ at htot ⊢
  have g0 : ∀ c, z_up h (lo + 10) c lo = h lo := fun c => up_ne (by omega)
  have kxg : ∀ H : zH, H lo = h lo → kX (hS (lo + 6) (lo + 1) σ H) lo (lo + 1) (lo + 6) (lo + 9) (lo + 10) hr (zi (tot fun x y => (G x y).toInt)) ro := fun H e => (hS_ne (by omega)).trans (e.trans x1)
  have gg : ∀ c, hS (lo + 6) (lo + 1) σ (z_up h (lo + 10) c) (lo + 10) = some c := fun c => (hS_ne (by omega)).trans (up_at ..)
  have key : ∀ r : Option (String ⊕ (Int32 × zH)), r = some (.inr (zi (576 * d - σ.2.2), z_up (hS (lo + 6) (lo + 1) σ (dpH (z_up h (lo + 10) (cA 576 fun p => G (p % 24) (p / 24) + zi (σ.1 (p % 24) (p / 24)))) P A D σ.2.1 n)) lo (zO 5 [.ref (lo + 1), .ref (lo + 6), .ref (lo + 9), .ref (lo + 10), .int (hr + 1), .int (zi (tot fun x y => (G x y).toInt) + zi (tot σ.1)), .int (ro + zi σ.2.2)]))) →
      ∃ h', r = some (.inr (zi (576 * d - σ.2.2), h')) ∧ IC Z t0 lo h' nx n A (fun i => D i + zi (σ.2.1 i)) sn S B (fun x y => G x y + zi (σ.1 x y)) (hr + 1) (ro + zi σ.2.2) ∧ frC Z h h' := by
    intro r hrr
    have kwk : ∀ k, k ≤ n → kW (dpH (z_up h (lo + 10) (cA 576 fun p => G (p % 24) (p / 24) + zi (σ.1 (p % 24) (p / 24)))) P A D σ.2.1 k) (lo + 1) qd mc ea n P A (dpD D σ.2.1 k) := by
      intro k
      induction k with
      | zero =>
        intro _
        refine kW_D (kW_eq (h := h) (fun q hq => up_ne ?_) w1) fun i _ => (if_neg (by omega)).symm
        have := s.inW hq
        omega
      | succ k ih =>
        intro hk
        have q := kW_set (ih (by omega)) s.sepP (i := k) (by omega) (a := A k) (d := D k + zi (σ.2.1 k)) (ho k (by omega))
        rw [dpD_s, upA_s] at q
        exact q
    have e : ∀ q, q ≠ lo → q ≠ lo + 6 → q ≠ lo + 6 + 1 → q ≠ lo + 6 + 2 → (∀ i, i < n → q ≠ P i) → q ≠ lo + 10 → z_up (hS (lo + 6) (lo + 1) σ (dpH (z_up h (lo + 10) (cA 576 fun p => G (p % 24) (p / 24) + zi (σ.1 (p % 24) (p / 24)))) P A D σ.2.1 n)) lo (zO 5 [.ref (lo + 1), .ref (lo + 6), .ref (lo + 9), .ref (lo + 10), .int (hr + 1), .int (zi (tot fun x y => (G x y).toInt) + zi (tot σ.1)), .int (ro + zi σ.2.2)]) q = h q :=
      fun q q1 q2 q3 q4 q5 q6 => (up_ne q1).trans ((hS_ne ⟨q2, q3, q4⟩).trans ((dpH_ne n q5).trans (up_ne q6)))
    have low : ∀ q, q < lo + 19 → ∀ i, i < n → q ≠ P i := fun q hq i hi => by have := i3 i hi; omega
    have kw : kW (z_up (hS (lo + 6) (lo + 1) σ (dpH (z_up h (lo + 10) (cA 576 fun p => G (p % 24) (p / 24) + zi (σ.1 (p % 24) (p / 24)))) P A D σ.2.1 n)) lo (zO 5 [.ref (lo + 1), .ref (lo + 6), .ref (lo + 9), .ref (lo + 10), .int (hr + 1), .int (zi (tot fun x y => (G x y).toInt) + zi (tot σ.1)), .int (ro + zi σ.2.2)])) (lo + 1) qd mc ea n P A (fun i => D i + zi (σ.2.1 i)) :=
      kW_D (kW_eq (fun q hq => up_ne (by have := s.inW hq; omega)) (kW_hS (σ := σ) (kwk n (Nat.le_refl n)) s.sepW)) fun i hi => if_pos hi
    have eea : ∀ i, i < n → ea' ≠ P i := fun i hi q => (i8 i hi).2 q.symm
    have eea0 : ∀ i, i < n → ea ≠ P i := fun i hi q => (i8 i hi).1 q.symm
    refine ⟨_, hrr, ⟨qd, mc, mc', zi (tot σ.1), zi σ.2.2, ea, ea', P, Q, f1, f2, _, _, ⟨?_, ?_⟩, ⟨kw, (e _ (by omega) (by omega) (by omega) (by omega) (low _ (by omega)) (by omega)).trans w2, (e _ (by omega) (by omega) (by omega) (by omega) (low _ (by omega)) (by omega)).trans w3, (e _ (by omega) (by omega) (by omega) (by omega) (low _ (by omega)) (by omega)).trans w4⟩,
      ⟨(up_ne (by omega)).trans (hS_0 ..), (up_ne (by omega)).trans (hS_1 ..), (up_ne (by omega)).trans (hS_2 ..)⟩, ⟨kSt_eq t1 (e _ (by omega) (by omega) (by omega) (by omega) (low _ (by omega)) (by omega)) (fun _ => e _ (by omega) (by omega) (by omega) (by omega) eea (by omega)) (fun j hj => ?_), t2, t3⟩, s, kE_eq k1 (e _ (by omega) (by omega) (by omega) (by omega) eea0 (by omega)), kE_eq k2 (e _ (by omega) (by omega) (by omega) (by omega) eea (by omega)), (e _ (by omega) (by omega) (by omega) (by omega) (low _ (by omega)) (by omega)).trans k3, kz⟩, fun q hq => by obtain ⟨z1, z2, z3, z4, z5, -⟩ := kz q hq; exact e q (by omega) (by omega) (by omega) (by omega) z5 (by omega)⟩
    · rw [gd_add]
      exact up_at ..
    · exact (up_ne (by omega)).trans ((hS_ne (by omega)).trans ((dpH_ne n (low _ (by omega))).trans (up_at ..)))
    · have := i4 j hj
      exact e _ (by omega) (by omega) (by omega) (by omega) (fun i hi q => i10 i j hi hj q.symm) (by omega)
  refine key _ ?_
  refine wl2_st (fun j => zi (j : Int)) (fun j => hS (lo + 6) (lo + 1) σ (z_up h (lo + 10) (cA 576 fun p => if p < 24 * j then G (p % 24) (p / 24) + zi (σ.1 (p % 24) (p / 24)) else G (p % 24) (p / 24)))) 24 n_0 ?_ ?_ ?_ 700 (by omega)
  · rw [up_congr (g := fun p => G (p % 24) (p / 24)) (fun p hp => if_neg (by omega)), up_same x2]
  · intro rec y hy
    simp (disch := omega) only [n_24, zi_le]
    rw [if_neg (by omega)]
    refine wl2_st (fun t => zi (t : Int)) (fun t => hS (lo + 6) (lo + 1) σ (z_up h (lo + 10) (cA 576 fun p => if p < 24 * y + t then G (p % 24) (p / 24) + zi (σ.1 (p % 24) (p / 24)) else G (p % 24) (p / 24)))) 24 n_0 rfl ?_ ?_ 700 (by omega)
    · intro rec2 x hx
      have ef : ∀ H : zH, M_X2_fallenAt (hS (lo + 6) (lo + 1) σ H) (lo + 6) (zi x) (zi y) = some (zi (σ.1 x y)) := fun H => p_fallenAt (s := lo + 6) (c := lo + 1) (σ := σ) (h := H) (x := x) (y := y) (by omega)
      simp (disch := omega) only [zi_le, gR_of (kxg _ (g0 _)) (k := 3) rfl, gR_of (kxg _ (g0 _)) (k := 1) rfl, ob_some, zi_mul, zi_add, cI_of (gg _), ck_of (hS_0 ..), ef, csI_of (gg _)]
      rw [if_neg (by omega), hS_up (by omega), up_up, n_1, zi_add, Int.natCast_add, Int.natCast_one]
      refine congrArg (fun z => rec2 _ (hS (lo + 6) (lo + 1) σ z)) (up_congr fun p hp => ?_)
      by_cases g1 : p = ((y : Int) * 24 + x).toNat
      · rw [if_pos g1, if_neg (by omega), if_pos (by omega), ← g1, show p % 24 = x from by omega, show p / 24 = y from by omega]
      · rw [if_neg g1]
        by_cases g2 : p < 24 * y + x
        · rw [if_pos g2, if_pos (by omega)]
        · rw [if_neg g2, if_neg (by omega)]
    · intro rec2
      simp (disch := omega) only [zi_le]
      rw [if_pos (by omega), n_1, zi_add, Int.natCast_add, Int.natCast_one]
      refine congrArg (fun z => rec _ (hS (lo + 6) (lo + 1) σ z)) (up_congr fun p hp => ?_)
      rw [show 24 * y + 24 = 24 * (y + 1) from by omega]
  · intro rec
    simp (disch := omega) only [n_24, zi_le]
    rw [if_pos (by omega), up_congr (g := fun p => G (p % 24) (p / 24) + zi (σ.1 (p % 24) (p / 24))) (fun p hp => if_pos (by omega))]
    generalize hH : z_up h (lo + 10) (cA 576 fun p => G (p % 24) (p / 24) + zi (σ.1 (p % 24) (p / 24))) = H
    have hHl : H lo = h lo := by rw [← hH]; exact g0 _
    have kw0 : kW H (lo + 1) qd mc ea n P A D := kW_eq (h := h) (fun q hq => by rw [← hH]; refine up_ne ?_; have := s.inW hq; omega) w1
    have kwk : ∀ k, k ≤ n → kW (dpH H P A D σ.2.1 k) (lo + 1) qd mc ea n P A (dpD D σ.2.1 k) := by
      intro k
      induction k with
      | zero => exact fun _ => kW_D kw0 fun i _ => (if_neg (by omega)).symm
      | succ k ih =>
        intro hk
        have q := kW_set (ih (by omega)) s.sepP (i := k) (by omega) (a := A k) (d := D k + zi (σ.2.1 k)) (ho k (by omega))
        rw [dpD_s, upA_s] at q
        exact q
    have dl0 : ∀ k, k ≤ n → dpH H P A D σ.2.1 k lo = h lo := fun k hk => (dpH_ne k (fun i hi => by have := i3 i (by omega); omega)).trans hHl
    refine wl2_st (fun j => zi (j : Int)) (fun j => hS (lo + 6) (lo + 1) σ (dpH H P A D σ.2.1 j)) n n_0 rfl ?_ ?_ 700 (by omega)
    · intro rec2 j hj
      have kx := kxg _ (dl0 j (by omega))
      have kk := kW_hS (σ := σ) (kwk j (by omega)) s.sepW
      have hp : hS (lo + 6) (lo + 1) σ (dpH H P A D σ.2.1 j) (P j) = some (oA (A j) (D j)) := by
        rw [(kk.2.2 j hj).1]
        unfold dpD
        rw [if_neg (by omega)]
      have hpj := i3 j hj
      simp (disch := omega) only [gR_of kx (k := 0) rfl, gR_of kx (k := 1) rfl, ob_some, ck_of kk.1, p_size kk.1 kk.2.1, zi_le, p_numbered kk.1 kk.2.1 (fun i hi => (kk.2.2 i hi).1) (x := j) ⟨by omega, by omega⟩, z_tn]
      rw [if_neg (by omega), if_pos (by omega)]
      simp only [ob_some, Int.toNat_natCast, gI_of hp (k := 7) rfl, ck_of (hS_0 ..), p_caught (s := lo + 6) (c := lo + 1) (σ := σ) (h := dpH H P A D σ.2.1 j) (i := j) (by omega)]
      rw [pV_of hp (k := 7) (by simp), ob_some, hS_up (by omega), n_1, zi_add, Int.natCast_add, Int.natCast_one]
      rfl
    · intro rec2
      have kx := kxg _ (dl0 n (Nat.le_refl n))
      have kk := kW_hS (σ := σ) (kwk n (Nat.le_refl n)) s.sepW
      simp (disch := omega) only [gR_of kx (k := 0) rfl, ob_some, ck_of kk.1, p_size kk.1 kk.2.1, zi_le]
      rw [if_pos (by omega), gI_of kx (k := 4) rfl, ob_some, pV_of kx (k := 4) (by simp), ob_some]
      have hs0 := hS_0 (lo + 6) (lo + 1) σ (dpH H P A D σ.2.1 n)
      generalize hS (lo + 6) (lo + 1) σ (dpH H P A D σ.2.1 n) = K at kx hs0 ⊢
      have hs1 : ∀ c, z_up K lo c (lo + 6) = some (zO 3 [.ref (lo + 1), .ref (lo + 6 + 1), .ref (lo + 6 + 2), .int (zi (tot σ.1)), .int (zi σ.2.2)]) := fun c => (up_ne (by omega)).trans hs0
      have ka : kX (z_up K lo (zO 5 [.ref (lo + 1), .ref (lo + 6), .ref (lo + 9), .ref (lo + 10), .int (hr + 1), .int (zi (tot fun x y => (G x y).toInt)), .int ro])) lo (lo + 1) (lo + 6) (lo + 9) (lo + 10) (hr + 1) (zi (tot fun x y => (G x y).toInt)) ro := up_at ..
      have kb : kX (z_up K lo (zO 5 [.ref (lo + 1), .ref (lo + 6), .ref (lo + 9), .ref (lo + 10), .int (hr + 1), .int (zi (tot fun x y => (G x y).toInt) + zi (tot σ.1)), .int ro])) lo (lo + 1) (lo + 6) (lo + 9) (lo + 10) (hr + 1) (zi (tot fun x y => (G x y).toInt) + zi (tot σ.1)) ro := up_at ..
      have kc : kX (z_up K lo (zO 5 [.ref (lo + 1), .ref (lo + 6), .ref (lo + 9), .ref (lo + 10), .int (hr + 1), .int (zi (tot fun x y => (G x y).toInt) + zi (tot σ.1)), .int (ro + zi σ.2.2)])) lo (lo + 1) (lo + 6) (lo + 9) (lo + 10) (hr + 1) (zi (tot fun x y => (G x y).toInt) + zi (tot σ.1)) (ro + zi σ.2.2) := up_at ..
      have pa : z_up K lo (zO 5 (List.set [.ref (lo + 1), .ref (lo + 6), .ref (lo + 9), .ref (lo + 10), .int hr, .int (zi (tot fun x y => (G x y).toInt)), .int ro] 4 (.int (hr + 1)))) = z_up K lo (zO 5 [.ref (lo + 1), .ref (lo + 6), .ref (lo + 9), .ref (lo + 10), .int (hr + 1), .int (zi (tot fun x y => (G x y).toInt)), .int ro]) := rfl
      have pb : z_pV (z_up K lo (zO 5 [.ref (lo + 1), .ref (lo + 6), .ref (lo + 9), .ref (lo + 10), .int (hr + 1), .int (zi (tot fun x y => (G x y).toInt)), .int ro])) lo 5 5 (.int (zi (tot fun x y => (G x y).toInt) + zi (tot σ.1))) = some (z_up K lo (zO 5 [.ref (lo + 1), .ref (lo + 6), .ref (lo + 9), .ref (lo + 10), .int (hr + 1), .int (zi (tot fun x y => (G x y).toInt) + zi (tot σ.1)), .int ro])) := by
        rw [pV_of ka (k := 5) (by simp), up_up]; rfl
      have pc' : z_pV (z_up K lo (zO 5 [.ref (lo + 1), .ref (lo + 6), .ref (lo + 9), .ref (lo + 10), .int (hr + 1), .int (zi (tot fun x y => (G x y).toInt) + zi (tot σ.1)), .int ro])) lo 5 6 (.int (ro + zi σ.2.2)) = some (z_up K lo (zO 5 [.ref (lo + 1), .ref (lo + 6), .ref (lo + 9), .ref (lo + 10), .int (hr + 1), .int (zi (tot fun x y => (G x y).toInt) + zi (tot σ.1)), .int (ro + zi σ.2.2)])) := by
        rw [pV_of kb (k := 6) (by simp), up_up]; rfl
      rw [pa, gI_of ka (k := 5) rfl, ob_some, gR_of ka (k := 1) rfl, ob_some, gI_of (hs1 _) (k := 3) rfl, ob_some, pb, ob_some, gI_of kb (k := 6) rfl, ob_some, gR_of kb (k := 1) rfl, ob_some, gI_of (hs1 _) (k := 4) rfl, ob_some, pc', ob_some, gR_of kc (k := 1) rfl, ob_some, gI_of (hs1 _) (k := 3) rfl, ob_some, show tot σ.1 = 576 * d - σ.2.2 from by omega]
end CRAIN
