/-! a turn of the law, pure: what does not change the heap -/
section TURN
variable {Z : Nat → Prop} {N t0 lo : Nat} {h : zH} {nx n : Nat} {A : Nat → Nat → Int} {D : Nat → Int32} {sn : Nat} {S : Nat → Nat → Int} {B : Nat → Int32} {G : Nat → Nat → Int32} {hr ro : Int32}
set_option linter.unusedSimpArgs false in
theorem c_count_h (I : IC Z t0 lo h nx n A D sn S B G hr ro) {w : Int} (g : 0 ≤ w ∧ w ≤ 10) (h5 : w ≠ 5) : M_X4_count h lo (zi w) = some (.inr (ctS A n S sn G hr ro w, h)) := by
  have hw : -2147483648 ≤ w ∧ w < 2147483648 := by omega
  obtain ⟨qd, mc, mc', og, rf, ea, ea', P, Q, f1, f2, f3, f4, I⟩ := I
  obtain ⟨⟨x1, x2⟩, ⟨w1, w2, w3, w4⟩, ⟨s1, s2, s3⟩, ⟨t1, t2, t3⟩, s, -⟩ := id I
  have hn := w1.2.1.2.1
  have ho : ∀ i, i < n → okA (A i) := fun i hi => (w1.2.2 i hi).2
  have same : ∀ v, (some (Sum.inr (v, h)) : Option (String ⊕ (Int32 × zH))) = some (.inr (v, h)) := fun v => rfl
  have hcov : M_X1_cellsWithLayers h (lo + 1) 1 = some (zi (tot fun x y => b1 (decide (1 ≤ lay A n x y)))) := p_cells hn w1.1 w2 (t := 1) (by omega)
  have hcov2 : M_X1_cellsWithLayers h (lo + 1) 2 = some (zi (tot fun x y => b1 (decide (2 ≤ lay A n x y)))) := p_cells hn w1.1 w2 (t := 2) (by omega)
  simp only [M_X4_count, n_10, p_what hw (l := 10) (by omega), z_tb]
  rw [if_pos g]
  simp only [ob_some, n_0, n_3, n_4, n_5, n_6, n_7, n_8, n_9, zi_q hw 0 (by omega), zi_q hw 3 (by omega), zi_q hw 4 (by omega), zi_q hw 5 (by omega), zi_q hw 6 (by omega), zi_q hw 7 (by omega), zi_q hw 8 (by omega), zi_q hw 9 (by omega), show (zi w = 1) = (w = 1) from zi_q hw 1 (by omega), show (zi w = 2) = (w = 2) from zi_q hw 2 (by omega)]
  unfold ctS
  by_cases q0 : w = 0
  · rw [if_pos q0, if_pos q0]
    simp only [gR_of x1 (k := 0) rfl, ck_of w1.1, ob_some, p_size w1.1 w1.2.1]
    all_goals exact same _
  rw [if_neg q0, if_neg q0]
  by_cases q1 : w = 1
  · rw [if_pos q1, if_pos q1]
    simp only [gR_of x1 (k := 0) rfl, ck_of w1.1, ob_some, p_sizeOut w1]
    all_goals exact same _
  rw [if_neg q1, if_neg q1]
  by_cases q2 : w = 2
  · rw [if_pos q2, if_pos q2]
    simp only [gR_of x1 (k := 2) rfl, ck_of t1.1.1, ob_some, p_lsize t1.1]
    all_goals exact same _
  rw [if_neg q2, if_neg q2]
  by_cases q3 : w = 3
  · rw [if_pos q3, if_pos q3]
    simp only [gR_of x1 (k := 0) rfl, ck_of w1.1, ob_some, M_X1_covered, hcov]
    all_goals exact same _
  rw [if_neg q3, if_neg q3]
  by_cases q4 : w = 4
  · rw [if_pos q4, if_pos q4]
    simp only [gR_of x1 (k := 0) rfl, ck_of w1.1, ob_some, p_coutline hn w1.1 w2 ho]
    all_goals exact same _
  rw [if_neg q4, if_neg q4]
  by_cases q5 : w = 5
  · exact absurd q5 h5
  rw [if_neg q5, if_neg q5]
  by_cases q6 : w = 6
  · rw [if_pos q6, if_pos q6]
    simp only [gR_of x1 (k := 0) rfl, ck_of w1.1, ob_some, hcov2]
    all_goals exact same _
  rw [if_neg q6, if_neg q6]
  by_cases q7 : w = 7
  · rw [if_pos q7, if_pos q7, gI_of x1 (k := 4) rfl, ob_some]
    all_goals exact same _
  rw [if_neg q7, if_neg q7]
  by_cases q8 : w = 8
  · rw [if_pos q8, if_pos q8, gI_of x1 (k := 5) rfl, ob_some]
    all_goals exact same _
  rw [if_neg q8, if_neg q8]
  by_cases q9 : w = 9
  · rw [if_pos q9, if_pos q9, gI_of x1 (k := 6) rfl, ob_some]
    all_goals exact same _
  rw [if_neg q9, if_neg q9]
  simp only [ck_of x1, ob_some, p_notCov x1 w1 w2 t1 t2]
  all_goals exact same _
theorem IC.ok (I : IC Z t0 lo h nx n A D sn S B G hr ro) : n ≤ 10 ∧ ∀ i, i < n → okA (A i) := by
  obtain ⟨qd, mc, mc', og, rf, ea, ea', P, Q, f1, f2, f3, f4, -, ⟨w1, -⟩, -⟩ := I
  exact ⟨w1.2.1.2.1, fun i hi => (w1.2.2 i hi).2⟩
theorem tn_e {X Y : Type} (x : X) (k : X → Option Y) : z_tn (some (.inr x)) k = k x := Eq.trans rfl rfl
theorem jn1_if {T R : Type} {P : Prop} [Decidable P] (K : T → Option R) (a b : T) : (jn1 K fun J => if P then J a else J b) = K (if P then a else b) := by
  rw [jn1_e]; split <;> rfl
theorem jn2_if {T U R : Type} {P : Prop} [Decidable P] (K : U → T → Option R) (x : U) (a b : T) : (jn2 K fun J => if P then J x a else J x b) = K x (if P then a else b) := by
  rw [jn2_e]; split <;> rfl
theorem lg_cmp_0 (x : Int64) : lg_cmp x x = 0 := by
  unfold lg_cmp
  rw [if_neg (Int64.lt_irrefl), if_pos rfl]
theorem a_f (I : IC Z t0 lo h nx n A D sn S B G hr ro) {j : Nat} (hj : j < n) {k : Nat} (hk : k < 7) : M_X4_about h lo (zi (j : Int)) (zi (k : Int)) = some (.inr (zi (A j k))) := by
  have hn := I.ok.1
  rw [(c_about I (a := (j : Int)) (w := (k : Int)) (by omega) (by omega)).1 (by omega)]
  unfold aboutS
  rw [if_neg (by omega), if_neg (by omega), Int.toNat_natCast, Int.toNat_natCast]
theorem a_o (I : IC Z t0 lo h nx n A D sn S B G hr ro) {j : Nat} (hj : j < n) : M_X4_about h lo (zi (j : Int)) 7 = some (.inr (zi (ownS A n j))) := by
  have hn := I.ok.1
  have := (c_about I (a := (j : Int)) (w := 7) (by omega) (by omega)).1 (by omega)
  rw [Int.toNat_natCast] at this
  exact this
set_option maxHeartbeats 1000000 in
theorem t_in (I : IC Z t0 lo h nx n A D sn S B G hr ro) {X Y : Nat} (hX : X < 24) (hY : Y < 24) {R : Type} (K : Option R) : wl1 (fun (rec136 : Int32 → Option R) (x17_136 : Int32) => (if zi (n : Int) ≤ x17_136 then K else (z_ck h lo 5).bind fun _ => z_tn (M_X4_about h lo x17_136 (6 : Int32)) fun r138 => jn1 (fun (s0_139 : Int32) => jn0 (jn0 ((rec136 (x17_136 + (1 : Int32)))) fun J141 => (if s0_139 = 0 then J141 else z_tn (M_X4_about h lo x17_136 (4 : Int32)) fun r142 => z_tn (M_X4_about h lo (zi (hbS A 10 X Y n).1) (4 : Int32)) fun r143 => (if r143 < r142 then none else z_tn (M_X4_about h lo x17_136 (4 : Int32)) fun r144 => z_tn (M_X4_about h lo (zi (hbS A 10 X Y n).1) (4 : Int32)) fun r145 => (if r144 = r145 then (if zi (hbS A 10 X Y n).1 ≤ x17_136 then J141 else none) else J141)))) fun J140 => (if x17_136 = zi (hbS A 10 X Y n).1 then (if s0_139 = 0 then none else J140) else J140)) fun J139 => jn0 ((J139 (0 : Int32))) fun J152 => (if r138 = (1 : Int32) then z_tn (M_X4_about h lo x17_136 (0 : Int32)) fun r153 => (if zi (X : Int) < r153 then J152 else z_tn (M_X4_about h lo x17_136 (0 : Int32)) fun r154 => z_tn (M_X4_about h lo x17_136 (2 : Int32)) fun r155 => (if (r154 + r155) ≤ zi (X : Int) then J152 else z_tn (M_X4_about h lo x17_136 (1 : Int32)) fun r156 => (if zi (Y : Int) < r156 then J152 else z_tn (M_X4_about h lo x17_136 (1 : Int32)) fun r157 => z_tn (M_X4_about h lo x17_136 (3 : Int32)) fun r158 => (if (r157 + r158) ≤ zi (Y : Int) then J152 else (J139 (1 : Int32)))))) else J152))) 700 (0 : Int32) = K := by
  obtain ⟨hn, ho⟩ := I.ok
  obtain ⟨H1, H2, H3, H4⟩ := high_facts (A := A) (n := n) ho X Y
  have H0 := hbS_of A 10 X Y n
  generalize (hbS A 10 (X : Int) (Y : Int) n).1 = r at *
  refine wl1_st (fun k => zi (k : Int)) n n_0 ?_ ?_ 700 (by omega)
  · intro rec j hj
    have o := ho j hj
    unfold okA at o
    have e : (zi (n : Int) ≤ zi (j : Int)) = ((n : Int) ≤ j) := zi_le (by omega) (by omega) (by omega) (by omega)
    have f0 : M_X4_about h lo (zi (j : Int)) 0 = some (.inr (zi (A j 0))) := a_f I hj (k := 0) (by omega)
    have f1 : M_X4_about h lo (zi (j : Int)) 1 = some (.inr (zi (A j 1))) := a_f I hj (k := 1) (by omega)
    have f2 : M_X4_about h lo (zi (j : Int)) 2 = some (.inr (zi (A j 2))) := a_f I hj (k := 2) (by omega)
    have f3 : M_X4_about h lo (zi (j : Int)) 3 = some (.inr (zi (A j 3))) := a_f I hj (k := 3) (by omega)
    have f4 : M_X4_about h lo (zi (j : Int)) 4 = some (.inr (zi (A j 4))) := a_f I hj (k := 4) (by omega)
    have f6 : M_X4_about h lo (zi (j : Int)) 6 = some (.inr (zi (A j 6))) := a_f I hj (k := 6) (by omega)
    have e1 : zi (j : Int) + 1 = zi ((j + 1 : Nat) : Int) := zi_add _ 1
    have hin : ∀ K' : Int32 → Option R, (jn1 K' fun J139 => jn0 ((J139 (0 : Int32))) fun J152 => (if zi (A j 6) = (1 : Int32) then z_tn (M_X4_about h lo (zi (j : Int)) (0 : Int32)) fun r153 => (if zi (X : Int) < r153 then J152 else z_tn (M_X4_about h lo (zi (j : Int)) (0 : Int32)) fun r154 => z_tn (M_X4_about h lo (zi (j : Int)) (2 : Int32)) fun r155 => (if (r154 + r155) ≤ zi (X : Int) then J152 else z_tn (M_X4_about h lo (zi (j : Int)) (1 : Int32)) fun r156 => (if zi (Y : Int) < r156 then J152 else z_tn (M_X4_about h lo (zi (j : Int)) (1 : Int32)) fun r157 => z_tn (M_X4_about h lo (zi (j : Int)) (3 : Int32)) fun r158 => (if (r157 + r158) ≤ zi (Y : Int) then J152 else (J139 (1 : Int32)))))) else J152)) = K' (zi (b1 (cv (A j) X Y))) := by
      intro K'
      have c6 : (zi (A j 6) = 1) = (A j 6 = 1) := zi_eq (b := 1) (by omega) (by omega) (by omega) (by omega)
      have c0 : (zi (X : Int) < zi (A j 0)) = ((X : Int) < A j 0) := zi_lt (by omega) (by omega) (by omega) (by omega)
      have c1 : (zi (Y : Int) < zi (A j 1)) = ((Y : Int) < A j 1) := zi_lt (by omega) (by omega) (by omega) (by omega)
      have c2 : (zi (A j 0) + zi (A j 2) ≤ zi (X : Int)) = (A j 0 + A j 2 ≤ (X : Int)) := by rw [zi_add]; exact zi_le (by omega) (by omega) (by omega) (by omega)
      have c3 : (zi (A j 1) + zi (A j 3) ≤ zi (Y : Int)) = (A j 1 + A j 3 ≤ (Y : Int)) := by rw [zi_add]; exact zi_le (by omega) (by omega) (by omega) (by omega)
      rw [jn1_e, jn0_e]
      by_cases g6 : A j 6 = 1
      · rw [if_pos (by rw [c6]; exact g6), f0, tn_e]
        by_cases g0 : (X : Int) < A j 0
        · rw [if_pos (by rw [c0]; exact g0), cv_f (by omega)]; rfl
        rw [if_neg (by rw [c0]; exact g0), tn_e, f2, tn_e]
        by_cases g2 : A j 0 + A j 2 ≤ (X : Int)
        · rw [if_pos (by rw [c2]; exact g2), cv_f (by omega)]; rfl
        rw [if_neg (by rw [c2]; exact g2), f1, tn_e]
        by_cases g1 : (Y : Int) < A j 1
        · rw [if_pos (by rw [c1]; exact g1), cv_f (by omega)]; rfl
        rw [if_neg (by rw [c1]; exact g1), tn_e, f3, tn_e]
        by_cases g3 : A j 1 + A j 3 ≤ (Y : Int)
        · rw [if_pos (by rw [c3]; exact g3), cv_f (by omega)]; rfl
        rw [if_neg (by rw [c3]; exact g3), cv_t (by omega)]; rfl
      · rw [if_neg (by rw [c6]; exact g6), cv_f (by omega)]; rfl
    have cr : (zi (j : Int) = zi r) = ((j : Int) = r) := zi_eq (by omega) (by omega) (by omega) (by omega)
    rw [if_neg (by rw [e]; omega), I.x5, ob_some, f6, tn_e, hin, e1, jn0_e, jn0_e]
    cases hc : cv (A j) X Y with
    | false =>
      have hne : ¬ zi (j : Int) = zi r := by
        rw [cr]
        intro w
        rcases H0 with ⟨h1, -⟩ | ⟨i, h1, h2, -, -, h3⟩
        · omega
        · have : i = j := by omega
          rw [this, hc] at h3
          cases h3
      rw [if_neg hne]
      exact if_pos rfl
    | true =>
      obtain ⟨q1, q2, q3⟩ := H4 j hj hc
      obtain ⟨i, rfl⟩ : ∃ i : Nat, r = i := ⟨r.toNat, by omega⟩
      rw [Int.toNat_natCast] at q2 q3
      have oi := ho i (by omega)
      unfold okA at oi
      have g4 : M_X4_about h lo (zi (i : Int)) 4 = some (.inr (zi (A i 4))) := a_f I (by omega) (k := 4) (by omega)
      have d1 : (zi (A i 4) < zi (A j 4)) = (A i 4 < A j 4) := zi_lt (by omega) (by omega) (by omega) (by omega)
      have d2 : (zi (A j 4) = zi (A i 4)) = (A j 4 = A i 4) := zi_eq (by omega) (by omega) (by omega) (by omega)
      have d3 : (zi (i : Int) ≤ zi (j : Int)) = ((i : Int) ≤ j) := zi_le (by omega) (by omega) (by omega) (by omega)
      have nz : ¬ zi (b1 true) = 0 := by decide
      have key : (z_tn (some (.inr (zi (A j 4)))) fun r142 => z_tn (some (.inr (zi (A i 4)))) fun r143 => (if r143 < r142 then none else z_tn (some (.inr (zi (A j 4)))) fun r144 => z_tn (some (.inr (zi (A i 4)))) fun r145 => (if r144 = r145 then (if zi (i : Int) ≤ zi (j : Int) then rec (zi ((j + 1 : Nat) : Int)) else none) else rec (zi ((j + 1 : Nat) : Int))))) = rec (zi ((j + 1 : Nat) : Int)) := by
        rw [tn_e, tn_e, if_neg (by rw [d1]; omega), tn_e, tn_e]
        by_cases g : A j 4 = A i 4
        · rw [if_pos (by rw [d2]; exact g), if_pos (by rw [d3]; exact q3 g)]
        · rw [if_neg (by rw [d2]; exact g)]
      rw [f4, g4, if_neg nz, if_neg nz, key]
      exact ite_self _
  · intro rec
    have e : (zi (n : Int) ≤ zi (n : Int)) = ((n : Int) ≤ n) := zi_le (by omega) (by omega) (by omega) (by omega)
    rw [if_pos (by rw [e]; omega)]
end TURN
