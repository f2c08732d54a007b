/-! parts, by the class -/
def pV (A : Nat → Nat → Int) (n : Nat) (x y : Nat) : Bool := pq A n (x : Nat) (y : Nat)
theorem pV_in {A : Nat → Nat → Int} {n : Nat} (ho : ∀ i, i < n → okA (A i)) : inQ (pV A n) := by
  intro x y h
  rcases Nat.lt_or_ge x 24 with h1 | h1
  · rcases Nat.lt_or_ge y 24 with h2 | h2
    · exact ⟨h1, h2⟩
    · rw [pV, pq_out ho (by omega)] at h; cases h
  · rw [pV, pq_out ho (by omega)] at h; cases h
def hP (h : zH) (c : Nat) (T : Nat → Nat → Bool) (Q : Nat → Int32) (q : Int32) : zH := z_up (z_up (z_up h (c + 3) (cA 576 fun p => zi (b1 (T (p % 24) (p / 24))))) (c + 4) (cA 576 Q)) c (zO 2 [.ref (c + 1), .ref (c + 2), .ref (c + 3), .ref (c + 4), .int q])
section HP
variable {h : zH} {c : Nat} {T T' : Nat → Nat → Bool} {Q Q' : Nat → Int32} {q q' : Int32}
theorem hP_c : kC (hP h c T Q q) c q := up_at ..
theorem hP_3 : hP h c T Q q (c + 3) = some (cA 576 fun p => zi (b1 (T (p % 24) (p / 24)))) := by rw [hP, up_ne (by omega), up_ne (by omega), up_at]
theorem hP_4 : hP h c T Q q (c + 4) = some (cA 576 Q) := by rw [hP, up_ne (by omega), up_at]
theorem hP_ne {x : Nat} (e : x ≠ c ∧ x ≠ c + 3 ∧ x ≠ c + 4) : hP h c T Q q x = h x := by rw [hP, up_ne e.1, up_ne e.2.2, up_ne e.2.1]
theorem hP_s3 : z_up (hP h c T Q q) (c + 3) (cA 576 fun p => zi (b1 (T' (p % 24) (p / 24)))) = hP h c T' Q q := by
  funext x
  unfold hP z_up
  by_cases h1 : x = c + 3
  · subst h1
    rw [if_pos rfl, if_neg (by omega), if_neg (by omega), if_pos rfl]
  · rw [if_neg h1]
    by_cases h2 : x = c
    · rw [if_pos h2, if_pos h2]
    · rw [if_neg h2, if_neg h2]
      by_cases h4 : x = c + 4
      · rw [if_pos h4, if_pos h4]
      · rw [if_neg h4, if_neg h4, if_neg h1, if_neg h1]
theorem hP_s4 : z_up (hP h c T Q q) (c + 4) (cA 576 Q') = hP h c T Q' q := by
  funext x
  unfold hP z_up
  by_cases h1 : x = c + 4
  · subst h1
    rw [if_pos rfl, if_neg (by omega), if_pos rfl]
  · rw [if_neg h1]
    by_cases h2 : x = c
    · rw [if_pos h2, if_pos h2]
    · rw [if_neg h2, if_neg h2, if_neg h1, if_neg h1]
theorem hP_sc : z_pV (hP h c T Q q) c 2 4 (.int q') = some (hP h c T Q q') := by
  rw [pV_of hP_c (k := 4) (by simp)]
  show some (z_up (z_up _ c _) c _) = _
  rw [up_up]
  rfl
theorem hP_ly {n : Nat} {A : Nat → Nat → Int} (hl : kLy h c n A) : kLy (hP h c T Q q) c n A := (hP_ne (by omega)).trans hl
end HP
theorem p_reach {h : zH} {c n : Nat} {A : Nat → Nat → Int} (hn : n ≤ 10) (hl : kLy h c n A) (ho : ∀ i, i < n → okA (A i)) {T : Nat → Nat → Bool} {Q : Nat → Int32} {q : Nat} (hq : (q : Int) ≤ nmb T) {x y : Int} (hx : -100 ≤ x ∧ x ≤ 100) (hy : -100 ≤ y ∧ y ≤ 100) :
    M_X1_reach (hP h c T Q (zi q)) c (zi x) (zi y) = some (if pq A n x y = true ∧ T x.toNat y.toNat = false then hP h c (up2 T x.toNat y.toNat) (fun p => if p = q then zi (24 * y + x) else Q p) (zi (q + 1 : Nat)) else hP h c T Q (zi q)) := by
  have hb := lay_bd A n x y
  have hqb := nmb_bd T
  have e4 : (zi (lay A n x y) = 0) = (lay A n x y = 0) := zi_eq (b := 0) (by omega) (by omega) (by omega) (by omega)
  simp only [M_X1_reach, ck_of hP_c, Option.bind_some, p_at hP_c (hP_ly hl) hx hy ho, e4]
  by_cases h1 : lay A n x y = 0
  · rw [if_pos h1, if_neg]
    rintro ⟨h2, -⟩
    unfold pq at h2
    rw [decide_eq_true_iff] at h2
    omega
  · have hr : 0 ≤ x ∧ x < 24 ∧ 0 ≤ y ∧ y < 24 := by
      refine Classical.byContradiction fun hr => h1 (lay_out ho hr)
    have hpq : pq A n x y = true := decide_eq_true (by omega)
    have e1 : z_aI (hP h c T Q (zi q)) (c + 3) (zi y * 24 + zi x) = some (zi (b1 (T x.toNat y.toNat))) := by
      rw [n_24, zi_mul, zi_add, cI_of hP_3 (by omega) (by omega) (by omega), show (y * 24 + x).toNat % 24 = x.toNat from by omega, show (y * 24 + x).toNat / 24 = y.toNat from by omega]
    rw [if_neg h1, p_isCell (by omega) (by omega), Option.bind_some, if_pos hr, if_neg (by decide)]
    simp only [gR_of hP_c (k := 2) rfl, Option.bind_some, e1]
    cases hT : T x.toNat y.toNat with
    | true => rw [if_neg (by decide), if_neg (by simp)]
    | false =>
      have hq2 : q < 576 := by
        have h5 := nmb_up (T := T) (a := x.toNat) (b := y.toNat) (by omega) (by omega) hT
        have h6 := nmb_bd (up2 T x.toNat y.toNat)
        omega
      rw [if_pos (by decide), if_pos ⟨hpq, rfl⟩]
      simp (disch := omega) only [gI_of hP_c (k := 4) rfl, Option.bind_some, n_0, n_576, zi_lt, zi_le, zi_eq]
      rw [if_neg (by omega), if_neg (by omega), n_24, zi_mul, zi_add, csI_of hP_3 (by omega) (by omega) (by omega), Option.bind_some,
        up_congr (g := fun p => zi (b1 (up2 T x.toNat y.toNat (p % 24) (p / 24)))) ?_, hP_s3]
      · simp only [gR_of hP_c (k := 3) rfl, gI_of hP_c (k := 4) rfl, Option.bind_some]
        rw [csI_of hP_4 (by omega) (by omega) (by omega), Option.bind_some, hP_s4]
        simp only [gI_of hP_c (k := 4) rfl, Option.bind_some, n_1, zi_add, hP_sc, Int.toNat_natCast]
        rw [Int.mul_comm y 24]
        rfl
      · intro p hp
        by_cases h7 : p = (y * 24 + x).toNat
        · rw [if_pos h7, up2, decide_eq_true (by omega), Bool.or_true]; rfl
        · rw [if_neg h7, up2, decide_eq_false (by omega), Bool.or_false]
def qI (V S : Nat → Nat → Bool) (a b : Nat) (T : Nat → Nat → Bool) (Q : Nat → Int32) (q : Nat) : Prop :=
  (q : Int) ≤ nmb T ∧ (∀ x y, T x y = true → V x y = true) ∧ (∀ x y, S x y = true → T x y = true) ∧ (∀ x y, T x y = true → S x y = true ∨ ∃ k, k < q ∧ Q k = zi (24 * (y : Int) + x)) ∧
    ∀ k, k < q → ∃ x y : Nat, x < 24 ∧ y < 24 ∧ Q k = zi (24 * (y : Int) + x) ∧ T x y = true ∧ cn V a b x y
theorem zi_xy {x y u v : Nat} (hx : x < 24) (hy : y < 24) (hu : u < 24) (hv : v < 24) (e : zi (24 * (y : Int) + x) = zi (24 * (v : Int) + u)) : x = u ∧ y = v := by
  rw [zi_eq (by omega) (by omega) (by omega) (by omega)] at e
  omega
theorem qI_or {V S T : Nat → Nat → Bool} {a b q : Nat} {Q : Nat → Int32} (hV : inQ V) (k : qI V S a b T Q q) {x y : Nat} (h : T x y = true) : S x y = true ∨ cn V a b x y := by
  obtain ⟨-, h2, -, h4, h5⟩ := k
  rcases h4 x y h with h6 | ⟨k, hk, h6⟩
  · exact .inl h6
  · obtain ⟨u, v, g1, g2, g3, -, g5⟩ := h5 k hk
    have hr := hV _ _ (h2 _ _ h)
    obtain ⟨rfl, rfl⟩ := zi_xy hr.1 hr.2 g1 g2 (h6.symm.trans g3)
    exact .inr g5
theorem p_reachR {h : zH} {c n : Nat} {A : Nat → Nat → Int} (hn : n ≤ 10) (hl : kLy h c n A) (ho : ∀ i, i < n → okA (A i)) {S T : Nat → Nat → Bool} {Q : Nat → Int32} {q a b : Nat} (hI : qI (pV A n) S a b T Q q) {x y : Int} (hx : -100 ≤ x ∧ x ≤ 100) (hy : -100 ≤ y ∧ y ≤ 100)
    (hc : ∀ u v : Nat, x = u → y = v → pV A n u v = true → cn (pV A n) a b u v) :
    ∃ (T' : Nat → Nat → Bool) (Q' : Nat → Int32) (q' : Nat), M_X1_reach (hP h c T Q (zi q)) c (zi x) (zi y) = some (hP h c T' Q' (zi q')) ∧ qI (pV A n) S a b T' Q' q' ∧ (∀ u v, T u v = true → T' u v = true) ∧ q ≤ q' ∧ (∀ k, k < q → Q' k = Q k) ∧
      (∀ u v : Nat, x = u → y = v → pV A n u v = true → T' u v = true) ∧ ((q' = q ∧ T' = T ∧ ¬(pq A n x y = true ∧ T x.toNat y.toNat = false)) ∨ (q' = q + 1 ∧ pq A n x y = true ∧ T x.toNat y.toNat = false)) := by
  obtain ⟨i1, i2, i3, i4, i5⟩ := id hI
  by_cases h1 : pq A n x y = true ∧ T x.toNat y.toNat = false
  · have hr : 0 ≤ x ∧ x < 24 ∧ 0 ≤ y ∧ y < 24 := by
      refine Classical.byContradiction fun hr => ?_
      have h2 := h1.1
      rw [pq_out ho hr] at h2; cases h2
    obtain ⟨u, rfl⟩ : ∃ u : Nat, x = u := ⟨x.toNat, by omega⟩
    obtain ⟨v, rfl⟩ : ∃ v : Nat, y = v := ⟨y.toNat, by omega⟩
    have hT : T u v = false := h1.2
    have h3 : cn (pV A n) a b u v := hc u v rfl rfl h1.1
    have hm : ∀ x y, T x y = true → up2 T u v x y = true := fun x y h => by rw [up2, h, Bool.true_or]
    refine ⟨up2 T u v, fun p => if p = q then zi (24 * (v : Int) + u) else Q p, q + 1, ?_, ⟨?_, ?_, fun x y h => hm _ _ (i3 x y h), ?_, ?_⟩, hm, by omega, fun k hk => if_neg (by omega), ?_, .inr ⟨rfl, h1⟩⟩
    · rw [p_reach hn hl ho i1 hx hy, if_pos h1]
      rfl
    · rw [nmb_up (by omega) (by omega) hT]; omega
    · intro x y h
      unfold up2 at h
      rw [Bool.or_eq_true, decide_eq_true_iff] at h
      rcases h with h | ⟨rfl, rfl⟩
      · exact i2 _ _ h
      · exact h1.1
    · intro x y h
      unfold up2 at h
      rw [Bool.or_eq_true, decide_eq_true_iff] at h
      rcases h with h | ⟨rfl, rfl⟩
      · rcases i4 _ _ h with h | ⟨k, hk, h⟩
        · exact .inl h
        · exact .inr ⟨k, by omega, (if_neg (by omega)).trans h⟩
      · exact .inr ⟨q, by omega, if_pos rfl⟩
    · intro k hk
      by_cases hkq : k = q
      · exact ⟨u, v, by omega, by omega, if_pos hkq, by rw [up2, decide_eq_true ⟨rfl, rfl⟩, Bool.or_true], h3⟩
      · obtain ⟨x, y, g1, g2, g3, g4, g5⟩ := i5 k (by omega)
        exact ⟨x, y, g1, g2, (if_neg hkq).trans g3, hm _ _ g4, g5⟩
    · intro u' v' e1 e2 _
      have e3 : u' = u ∧ v' = v := by omega
      rw [e3.1, e3.2, up2, decide_eq_true ⟨rfl, rfl⟩, Bool.or_true]
  · refine ⟨T, Q, q, ?_, hI, fun _ _ h => h, Nat.le_refl _, fun _ _ => rfl, ?_, .inl ⟨rfl, rfl, h1⟩⟩
    · rw [p_reach hn hl ho i1 hx hy, if_neg h1]
    · rintro u v rfl rfl hv
      cases hT : T u v with
      | true => rfl
      | false => exact absurd ⟨hv, hT⟩ h1
/-- .. all of the queue's neighbours -/
theorem p_reachAll {h : zH} {c n : Nat} {A : Nat → Nat → Int} (hn : n ≤ 10) (hl : kLy h c n A) (ho : ∀ i, i < n → okA (A i)) {S T : Nat → Nat → Bool} {Q : Nat → Int32} {q a b : Nat} (hI : qI (pV A n) S a b T Q q) :
    ∃ (T' : Nat → Nat → Bool) (Q' : Nat → Int32) (q' : Nat), M_X1_reachAllFromQueue (hP h c T Q (zi q)) c = some (hP h c T' Q' (zi q')) ∧ qI (pV A n) S a b T' Q' q' ∧ (∀ u v, T u v = true → T' u v = true) ∧
      ∀ k, k < q' → ∀ x y : Nat, x < 24 → y < 24 → Q' k = zi (24 * (y : Int) + x) → ∀ u v, pV A n u v = true → adj x y u v → T' u v = true := by
  unfold M_X1_reachAllFromQueue
  refine wl2_go (Post := fun r => ∃ (T' : Nat → Nat → Bool) (Q' : Nat → Int32) (q' : Nat), r = some (hP h c T' Q' (zi q')) ∧ qI (pV A n) S a b T' Q' q' ∧ (∀ u v, T u v = true → T' u v = true) ∧
      ∀ k, k < q' → ∀ x y : Nat, x < 24 → y < 24 → Q' k = zi (24 * (y : Int) + x) → ∀ u v, pV A n u v = true → adj x y u v → T' u v = true)
    (fun d i H => ∃ (i' : Nat) (T' : Nat → Nat → Bool) (Q' : Nat → Int32) (q' : Nat), i = zi i' ∧ H = hP h c T' Q' (zi q') ∧ d = 576 - i' ∧ i' ≤ q' ∧ qI (pV A n) S a b T' Q' q' ∧ (∀ u v, T u v = true → T' u v = true) ∧
      ∀ k, k < i' → ∀ x y : Nat, x < 24 → y < 24 → Q' k = zi (24 * (y : Int) + x) → ∀ u v, pV A n u v = true → adj x y u v → T' u v = true) ?_ 576 700 _ _ ⟨0, T, Q, q, n_0, rfl, rfl, by omega, hI, fun _ _ h => h, fun k hk => absurd hk (by omega)⟩ (by omega)
  rintro rec d i H ⟨i', T1, Q1, q1, rfl, rfl, rfl, hi, I1, m1, c1⟩
  obtain ⟨j1, j2, j3, j4, j5⟩ := id I1
  have hqb := nmb_bd T1
  simp (disch := omega) only [gI_of hP_c (k := 4) rfl, Option.bind_some, n_576, zi_lt, zi_le, zi_eq]
  by_cases h1 : q1 ≤ i'
  · left
    rw [if_pos (by omega)]
    exact ⟨T1, Q1, q1, rfl, I1, m1, fun k hk => c1 k (by omega)⟩
  · right
    rw [if_neg (by omega), if_neg (by omega)]
    obtain ⟨x, y, hx, hy, e0, e1, e2⟩ := j5 i' (by omega)
    have f0 : z_aI (hP h c T1 Q1 (zi q1)) (c + 4) (zi i') = some (zi (24 * (y : Int) + x)) := by
      rw [cI_of hP_4 (by omega) (by omega) (by omega), Int.toNat_natCast, e0]
    have f1 : zi (24 * (y : Int) + x) / 24 = zi y := by
      rw [n_24, zi_div (by omega) (by omega) (by omega) (by omega)]; congr 1; omega
    have f2 : zi (24 * (y : Int) + x) - zi y * 24 = zi x := by
      rw [n_24, zi_mul, zi_sub]; congr 1; omega
    have hcn : ∀ u v : Nat, adj x y u v → pV A n u v = true → cn (pV A n) a b u v := fun u v h1 h2 => cn_st e2 h2 h1
    obtain ⟨T2, Q2, q2, r2, I2, m2, n2, o2, p2, -⟩ := p_reachR hn hl ho I1 (x := (x : Int) - 1) (y := (y : Int)) (by omega) (by omega) (fun u v g1 g2 g3 => hcn u v (by unfold adj; omega) g3)
    obtain ⟨T3, Q3, q3, r3, I3, m3, n3, o3, p3, -⟩ := p_reachR hn hl ho I2 (x := (x : Int)) (y := (y : Int) - 1) (by omega) (by omega) (fun u v g1 g2 g3 => hcn u v (by unfold adj; omega) g3)
    obtain ⟨T4, Q4, q4, r4, I4, m4, n4, o4, p4, -⟩ := p_reachR hn hl ho I3 (x := (x : Int) + 1) (y := (y : Int)) (by omega) (by omega) (fun u v g1 g2 g3 => hcn u v (by unfold adj; omega) g3)
    obtain ⟨T5, Q5, q5, r5, I5, m5, n5, o5, p5, -⟩ := p_reachR hn hl ho I4 (x := (x : Int)) (y := (y : Int) + 1) (by omega) (by omega) (fun u v g1 g2 g3 => hcn u v (by unfold adj; omega) g3)
    simp only [gR_of hP_c (k := 3) rfl, Option.bind_some, f0, f1, f2, ck_of hP_c, n_1, zi_sub, zi_add, r2, r3, r4, r5]
    have mm : ∀ u v, T1 u v = true → T5 u v = true := fun u v g => m5 _ _ (m4 _ _ (m3 _ _ (m2 _ _ g)))
    have oo : ∀ k, k < q1 → Q5 k = Q1 k := fun k hk => (o5 k (by omega)).trans ((o4 k (by omega)).trans ((o3 k (by omega)).trans (o2 k hk)))
    refine ⟨576 - (i' + 1), _, _, by omega, ⟨i' + 1, T5, Q5, q5, rfl, rfl, rfl, by omega, I5, fun u v g => mm _ _ (m1 _ _ g), fun k hk x' y' g1 g2 g3 u v g4 g5 => ?_⟩, rfl⟩
    rw [oo k (by omega)] at g3
    by_cases hk2 : k = i'
    · subst hk2
      obtain ⟨rfl, rfl⟩ := zi_xy g1 g2 hx hy (g3.symm.trans e0)
      have hcs : (u + 1 = x' ∧ v = y') ∨ (u = x' ∧ v + 1 = y') ∨ (u = x' + 1 ∧ v = y') ∨ (u = x' ∧ v = y' + 1) := by unfold adj at g5; omega
      rcases hcs with g | g | g | g
      · exact m5 _ _ (m4 _ _ (m3 _ _ (p2 u v (by omega) (by omega) g4)))
      · exact m5 _ _ (m4 _ _ (p3 u v (by omega) (by omega) g4))
      · exact m5 _ _ (p4 u v (by omega) (by omega) g4)
      · exact p5 u v (by omega) (by omega) g4
    · exact mm _ _ (c1 k (by omega) x' y' g1 g2 g3 u v g4 g5)
def cpY (h : zH) (c : Nat) (V : Nat → Nat → Bool) (d : Nat) (many y : Int32) (H : zH) : Prop := ∃ (j : Nat) (T : Nat → Nat → Bool) (Q : Nat → Int32) (q : Int32), j ≤ 24 ∧ d = 24 - j ∧ many = zi (pcnt V T) ∧ y = zi j ∧ H = hP h c T Q q ∧ clo V T ∧ ∀ x y, y < j → V x y = true → T x y = true
def cpX (h : zH) (c : Nat) (V : Nat → Nat → Bool) (j : Nat) (d : Nat) (many x : Int32) (H : zH) : Prop := ∃ (i : Nat) (T : Nat → Nat → Bool) (Q : Nat → Int32) (q : Int32), i ≤ 24 ∧ d = 24 - i ∧ many = zi (pcnt V T) ∧ x = zi i ∧ H = hP h c T Q q ∧ clo V T ∧ (∀ x y, y < j → V x y = true → T x y = true) ∧ ∀ x, x < i → V x j = true → T x j = true
theorem pcnt_0 (V : Nat → Nat → Bool) : pcnt V (fun _ _ => false) = 0 := by
  unfold pcnt tot
  rw [sm_congr (g := fun _ => 0) fun x _ => (sm_congr (g := fun _ => 0) fun y _ => by simp [b1]).trans (sm_zero 24), sm_zero]
theorem clo_0 (V : Nat → Nat → Bool) : clo V (fun _ _ => false) := ⟨fun _ _ h => absurd h Bool.false_ne_true, fun _ _ _ _ h _ => absurd h Bool.false_ne_true⟩
theorem p_cparts {h : zH} {c n : Nat} {qd : Int32} {A : Nat → Nat → Int} {R Q0 : Nat → Int32} (hn : n ≤ 10) (hc : kC h c qd) (hl : kLy h c n A) (ho : ∀ i, i < n → okA (A i)) (h3 : h (c + 3) = some (cA 576 R)) (h4 : h (c + 4) = some (cA 576 Q0)) :
    ∃ (Q : Nat → Int32) (q : Int32), M_X1_parts h c = some (zi (pcnt (pV A n) (pV A n)), hP h c (pV A n) Q q) := by
  have hV := pV_in ho
  have h0 : z_up h (c + 3) (cA 576 fun _ => 0) = hP h c (fun _ _ => false) Q0 qd := by
    unfold hP
    rw [show (fun p => zi (b1 ((fun _ _ => false : Nat → Nat → Bool) (p % 24) (p / 24)))) = fun _ : Nat => (0 : Int32) from rfl, up_same (h := z_up h (c + 3) _) (a := c + 4) ((up_ne (by omega)).trans h4), up_same (h := z_up h (c + 3) _) (a := c) ((up_ne (by omega)).trans hc)]
  simp only [M_X1_parts, gR_of hc (k := 2) rfl, ob_some, p_fill h3 (by omega), h0]
  refine wl3_go (Post := fun r => ∃ (Q : Nat → Int32) (q : Int32), r = some (zi (pcnt (pV A n) (pV A n)), hP h c (pV A n) Q q)) (cpY h c (pV A n)) ?_ 24 700 _ _ _ ⟨0, _, Q0, qd, by omega, rfl, by rw [pcnt_0]; rfl, n_0, rfl, clo_0 _, fun _ _ h => absurd h (by omega)⟩ (by omega)
  rintro rec d many y H ⟨j, T, Q, q, hj, rfl, rfl, rfl, rfl, hcl, hd⟩
  simp (disch := omega) only [n_24, zi_le]
  by_cases h1 : j = 24
  · left
    subst h1
    rw [if_pos (by omega)]
    have hTV : T = pV A n := by
      funext u v
      rw [Bool.eq_iff_iff]
      exact ⟨hcl.1 u v, fun g => hd u v (hV _ _ g).2 g⟩
    rw [hTV]
    exact ⟨Q, q, rfl⟩
  · right
    rw [if_neg (by omega)]
    refine wl3_go (Post := fun r => ∃ d' a' b' c', d' < 24 - j ∧ cpY h c (pV A n) d' a' b' c' ∧ r = rec a' b' c') (cpX h c (pV A n) j) ?_ 24 700 _ _ _ ⟨0, T, Q, q, by omega, rfl, rfl, n_0, rfl, hcl, hd, fun _ h => absurd h (by omega)⟩ (by omega)
    rintro rec2 d many x H ⟨i, T, Q, q, hi, rfl, rfl, rfl, rfl, hcl, hd, hd2⟩
    simp (disch := omega) only [zi_le]
    by_cases h2 : i = 24
    · left
      subst h2
      rw [if_pos (by omega), n_1, zi_add]
      refine ⟨24 - (j + 1), _, _, _, by omega, ⟨j + 1, T, Q, q, by omega, rfl, rfl, rfl, rfl, hcl, fun u v g1 g2 => ?_⟩, rfl⟩
      by_cases h3 : v = j
      · subst h3
        exact hd2 u (hV _ _ g2).1 g2
      · exact hd u v (by omega) g2
    · right
      rw [if_neg (by omega)]
      have I0 : qI (pV A n) T i j T Q 0 := ⟨by have := nmb_bd T; omega, hcl.1, fun _ _ g => g, fun _ _ g => .inl g, fun k hk => absurd hk (by omega)⟩
      obtain ⟨T2, Q2, q2, r2, I2, m2, -, -, p2, alt⟩ := p_reachR (h := h) (c := c) hn hl ho I0 (x := (i : Int)) (y := (j : Int)) (by omega) (by omega) (fun u v g1 g2 g3 => by
        have e : u = i ∧ v = j := by omega
        rw [e.1, e.2]
        exact cn_rf _ _ _)
      have r2' : M_X1_reach (hP h c T Q 0) c (zi i) (zi j) = some (hP h c T2 Q2 (zi q2)) := r2
      have hq2 := I2.1
      have hqb := nmb_bd T2
      have e8 : (zi q2 ≤ 0) = ((q2 : Int) ≤ 0) := zi_le (b := 0) (by omega) (by omega) (by omega) (by omega)
      simp only [hP_sc, ob_some, ck_of hP_c, r2', gI_of hP_c (k := 4) rfl, jn2_e, e8]
      rcases alt with ⟨hq, rfl, hno⟩ | ⟨hq, hyes, hTf⟩
      · rw [if_pos (by omega), n_1, zi_add]
        refine ⟨24 - (i + 1), _, _, _, by omega, ⟨i + 1, T2, Q2, zi q2, by omega, rfl, rfl, rfl, rfl, hcl, hd, fun u g1 g2 => ?_⟩, rfl⟩
        by_cases h3 : u = i
        · subst h3
          cases hT : T2 u j with
          | true => rfl
          | false => exact absurd ⟨g2, hT⟩ hno
        · exact hd2 u (by omega) g2
      · obtain ⟨T3, Q3, q3, r3, I3, m3, c3⟩ := p_reachAll (h := h) (c := c) hn hl ho I2
        rw [if_neg (by omega), r3, ob_some, n_1, zi_add, zi_add]
        have hTf' : T i j = false := hTf
        have cl3 : clo (pV A n) T3 := by
          refine clo_of I3.2.1 fun x y u v g1 g2 g3 => ?_
          rcases I3.2.2.2.1 x y g1 with g4 | ⟨k, hk, g4⟩
          · exact I3.2.2.1 _ _ (hcl.2 _ _ _ _ g4 (cn_st (cn_rf _ _ _) g2 g3))
          · have hr := hV _ _ (I3.2.1 _ _ g1)
            exact c3 k hk x y hr.1 hr.2 g4 u v g2 g3
        have hseed : T3 i j = true := m3 _ _ (p2 i j rfl rfl hyes)
        have hcnt : pcnt (pV A n) T3 = pcnt (pV A n) T + 1 := by
          refine pcnt_add hV hcl (a := i) (b := j) hyes hTf' fun x y => ⟨qI_or hV I3, fun g => ?_⟩
          rcases g with g | g
          · exact I3.2.2.1 _ _ g
          · exact cl3.2 _ _ _ _ hseed g
        refine ⟨24 - (i + 1), _, _, _, by omega, ⟨i + 1, T3, Q3, zi q3, by omega, rfl, by rw [hcnt], rfl, rfl, cl3, fun u v g1 g2 => m3 _ _ (m2 _ _ (hd u v g1 g2)), fun u g1 g2 => ?_⟩, rfl⟩
        by_cases h3 : u = i
        · subst h3; exact hseed
        · exact m3 _ _ (m2 _ _ (hd2 u (by omega) g2))
