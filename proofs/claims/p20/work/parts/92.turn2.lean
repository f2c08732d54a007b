/-! a turn of the law, pure: the columns, the awnings, the stalls -/
section TURN2
variable {Z : Nat → Prop} {N t0 lo : Nat} {h : zH} {nx n : Nat} {A : Nat → Nat → Int} {D : Nat → Int32} {sn : Nat} {S : Nat → Nat → Int} {B : Nat → Int32} {G : Nat → Nat → Int32} {hr ro : Int32}
theorem wl4_st {A B C E R : Type} {f : (A → B → C → E → Option R) → A → B → C → E → Option R} {r : Option R} (a : Nat → A) (b : Nat → B) (c : Nat → C) (d : Nat → E) (N : Nat) {x : A} {y : B} {z : C} {w : E} (hx : x = a 0) (hy : y = b 0) (hz : z = c 0) (hw : w = d 0)
    (hs : ∀ rec k, k < N → f rec (a k) (b k) (c k) (d k) = rec (a (k + 1)) (b (k + 1)) (c (k + 1)) (d (k + 1))) (he : ∀ rec, f rec (a N) (b N) (c N) (d N) = r) (fuel : Nat) (hf : N < fuel) : wl4 f fuel x y z w = r := by
  subst hx hy hz hw
  have key : ∀ e k fuel, k + e = N → e < fuel → wl4 f fuel (a k) (b k) (c k) (d k) = r := by
    intro e
    induction e with
    | zero =>
      intro k fuel hk hf
      obtain ⟨g, rfl⟩ : ∃ g, fuel = g + 1 := ⟨fuel - 1, by omega⟩
      have : k = N := by omega
      subst this
      exact he _
    | succ e ih =>
      intro k fuel hk hf
      obtain ⟨g, rfl⟩ : ∃ g, fuel = g + 1 := ⟨fuel - 1, by omega⟩
      exact (hs _ k (by omega)).trans (ih (k + 1) g (by omega) (by omega))
  exact key N 0 fuel (by omega) hf
theorem ifp {p q : Prop} [Decidable p] [Decidable q] {T : Type} (h : p ↔ q) (a b : T) : (if p then a else b) = if q then a else b := by
  by_cases hp : p
  · rw [if_pos hp, if_pos (h.mp hp)]
  · rw [if_neg hp, if_neg (fun k => hp (h.mpr k))]
set_option maxHeartbeats 1000000 in
theorem t_col (I : IC Z t0 lo h nx n A D sn S B G hr ro) {X : Nat} (hX : X < 24) {R : Type} (rec7 : Int32 → Int32 → zH → Option R) (x9 x5 : Int32) : ((z_ck h lo 5).bind fun _ => z_tn (M_X4_cord h lo (zi (X : Int)) (0 : Int32)) fun r117 => z_tn (M_X4_cord h lo (zi (X : Int)) (2 : Int32)) fun r118 => z_tn (M_X4_cord h lo (zi (X : Int)) (0 : Int32)) fun r119 => (if r119 < r118 then none else z_tn (M_X4_cord h lo (zi (X : Int)) (1 : Int32)) fun r120 => z_tn (M_X4_cord h lo (zi (X : Int)) (0 : Int32)) fun r121 => (if r121 < r120 then none else z_tn (M_X4_cord h lo (zi (X : Int)) (0 : Int32)) fun r122 => jn1 (fun (s0_123 : Int32) => z_tn (M_X4_cord h lo (zi (X : Int)) (3 : Int32)) fun r124 => jn2 (fun (s0_125 : Int32) (s1_125 : Int32) => (if s0_125 = s1_125 then z_tn (M_X4_cord h lo (zi (X : Int)) (1 : Int32)) fun r126 => z_tn (M_X4_cord h lo (zi (X : Int)) (2 : Int32)) fun r127 => z_tn (M_X4_cord h lo (zi (X : Int)) (0 : Int32)) fun r128 => (if r128 ≤ (r126 * r127) then (M_L_below (x5 >>> ((3 : Int32) &&& 31)) (24 : Int32)).bind fun r129 => z_tn (M_X4_cell h lo (zi (X : Int)) r129 (1 : Int32)) fun r130 => jn1 (fun (s0_131 : Int32) => z_tn (M_X4_cell h lo (zi (X : Int)) r129 (0 : Int32)) fun r132 => jn2 (fun (s0_133 : Int32) (s1_133 : Int32) => (if s0_133 = s1_133 then (if (zi (n : Int)) ≤ r130 then none else z_tn (M_X4_cell h lo (zi (X : Int)) r129 (0 : Int32)) fun r134 => z_tn (M_X4_count h lo (1 : Int32)) fun r135 => (if r134 ≤ r135.1 then wl1 (fun rec136 (x17_136 : Int32) => (if (zi (n : Int)) ≤ x17_136 then (rec7 (x9 + r117) ((zi (X : Int)) + (1 : Int32)) r135.2) else (z_ck r135.2 lo 5).bind fun _ => z_tn (M_X4_about r135.2 lo x17_136 (6 : Int32)) fun r138 => jn1 (fun (s0_139 : Int32) => jn0 (jn0 ((rec136 (x17_136 + (1 : Int32)))) fun J141 => (if s0_139 = 0 then J141 else z_tn (M_X4_about r135.2 lo x17_136 (4 : Int32)) fun r142 => z_tn (M_X4_about r135.2 lo r130 (4 : Int32)) fun r143 => (if r143 < r142 then none else z_tn (M_X4_about r135.2 lo x17_136 (4 : Int32)) fun r144 => z_tn (M_X4_about r135.2 lo r130 (4 : Int32)) fun r145 => (if r144 = r145 then (if r130 ≤ x17_136 then J141 else none) else J141)))) fun J140 => (if x17_136 = r130 then (if s0_139 = 0 then none else J140) else J140)) fun J139 => jn0 ((J139 (0 : Int32))) fun J152 => (if r138 = (1 : Int32) then z_tn (M_X4_about r135.2 lo x17_136 (0 : Int32)) fun r153 => (if (zi (X : Int)) < r153 then J152 else z_tn (M_X4_about r135.2 lo x17_136 (0 : Int32)) fun r154 => z_tn (M_X4_about r135.2 lo x17_136 (2 : Int32)) fun r155 => (if (r154 + r155) ≤ (zi (X : Int)) then J152 else z_tn (M_X4_about r135.2 lo x17_136 (1 : Int32)) fun r156 => (if r129 < r156 then J152 else z_tn (M_X4_about r135.2 lo x17_136 (1 : Int32)) fun r157 => z_tn (M_X4_about r135.2 lo x17_136 (3 : Int32)) fun r158 => (if (r157 + r158) ≤ r129 then J152 else (J139 (1 : Int32)))))) else J152))) 700 (0 : Int32) else none)) else none)) fun J133 => (if r132 = 0 then (J133 s0_131 (1 : Int32)) else (J133 s0_131 (0 : Int32)))) fun J131 => (if 0 ≤ r130 then (J131 (0 : Int32)) else (J131 (1 : Int32))) else none) else none)) fun J125 => (if r124 ≤ 0 then (J125 s0_123 (0 : Int32)) else (J125 s0_123 (1 : Int32)))) fun J123 => (if r122 ≤ 0 then (J123 (0 : Int32)) else (J123 (1 : Int32)))))) = rec7 (x9 + zi (cordS A n X 0)) (zi ((X + 1 : Nat) : Int)) h := by
  obtain ⟨hn, ho⟩ := I.ok
  have cd : ∀ w : Nat, w ≤ 3 → M_X4_cord h lo (zi (X : Int)) (zi (w : Int)) = some (.inr (zi (cordS A n X w))) := fun w hw => (c_cord I (a := (X : Int)) (w := (w : Int)) (by omega) (by omega)).1 (by omega)
  have c0 : M_X4_cord h lo (zi (X : Int)) 0 = some (.inr (zi (cordS A n X 0))) := cd 0 (by omega)
  have c1 : M_X4_cord h lo (zi (X : Int)) 1 = some (.inr (zi (cordS A n X 1))) := cd 1 (by omega)
  have c2 : M_X4_cord h lo (zi (X : Int)) 2 = some (.inr (zi (cordS A n X 2))) := cd 2 (by omega)
  have c3 : M_X4_cord h lo (zi (X : Int)) 3 = some (.inr (zi (cordS A n X 3))) := cd 3 (by omega)
  obtain ⟨f1, f2, f3, f4, f5, f6, f7, f8, f9⟩ := cord_facts ho (X : Int)
  obtain ⟨Y, hY, eY⟩ := y_below (x5 >>> ((3 : Int32) &&& 31)) (n := 24) (by omega) (by omega)
  have eY' : M_L_below (x5 >>> ((3 : Int32) &&& 31)) 24 = some (zi (Y : Int)) := eY
  have l0 : M_X4_cell h lo (zi (X : Int)) (zi (Y : Int)) 0 = some (.inr (zi (lay A n X Y))) := (c_cell I (a := (X : Int)) (b := (Y : Int)) (w := 0) (by omega) (by omega) (by omega)).1 (by omega)
  have l1 : M_X4_cell h lo (zi (X : Int)) (zi (Y : Int)) 1 = some (.inr (zi (hbS A 10 X Y n).1)) := (c_cell I (a := (X : Int)) (b := (Y : Int)) (w := 1) (by omega) (by omega) (by omega)).1 (by omega)
  have k1 : M_X4_count h lo 1 = some (.inr (zi (outS A n), h)) := c_count_h I (w := 1) (by omega) (by omega)
  obtain ⟨H1, H2, H3, -⟩ := high_facts (A := A) (n := n) ho X Y
  have lb := lay_bd A n X Y
  have lo' := lay_outS ho X Y
  obtain ⟨-, o1, o2⟩ := adS_out ho
  have e1 : zi (X : Int) + 1 = zi ((X + 1 : Nat) : Int) := zi_add _ 1
  have tin := t_in I hX hY (rec7 (x9 + zi (cordS A n X 0)) (zi ((X + 1 : Nat) : Int)) h)
  generalize cordS A n X 0 = q0 at *
  generalize cordS A n X 1 = q1 at *
  generalize cordS A n X 2 = q2 at *
  generalize cordS A n X 3 = q3 at *
  have d1 : (zi q0 < zi q2) = (q0 < q2) := zi_lt (by omega) (by omega) (by omega) (by omega)
  have d2 : (zi q0 < zi q1) = (q0 < q1) := zi_lt (by omega) (by omega) (by omega) (by omega)
  have d3 : (zi q0 ≤ 0) = (q0 ≤ 0) := zi_le (b := 0) (by omega) (by omega) (by omega) (by omega)
  have d4 : (zi q3 ≤ 0) = (q3 ≤ 0) := zi_le (b := 0) (by omega) (by omega) (by omega) (by omega)
  have mb : q1 * q2 ≤ 24 * 24 := Int.mul_le_mul (by omega) (by omega) (by omega) (by omega)
  have d5 : (zi q0 ≤ zi q1 * zi q2) = (q0 ≤ q1 * q2) := by rw [zi_mul]; exact zi_le (by omega) (by omega) (by omega) (by omega)
  have d6 : (0 ≤ zi (hbS A 10 X Y n).1) = (0 ≤ (hbS A 10 X Y n).1) := zi_le (a := 0) (by omega) (by omega) (by omega) (by omega)
  have d7 : (zi (lay A n X Y) = 0) = (lay A n X Y = 0) := zi_eq (b := 0) (by omega) (by omega) (by omega) (by omega)
  have d8 : (zi (n : Int) ≤ zi (hbS A 10 X Y n).1) = ((n : Int) ≤ (hbS A 10 X Y n).1) := zi_le (by omega) (by omega) (by omega) (by omega)
  have d9 : (zi (lay A n X Y) ≤ zi (outS A n)) = (lay A n X Y ≤ outS A n) := zi_le (by omega) (by omega) (by omega) (by omega)
  have g1 : (if zi q0 ≤ 0 then (0 : Int32) else 1) = (if zi q3 ≤ 0 then 0 else 1) := ifp (by rw [d3, d4]; exact f3) _ _
  have g2 : (if 0 ≤ zi (hbS A 10 X Y n).1 then (0 : Int32) else 1) = (if zi (lay A n X Y) = 0 then 1 else 0) := by
    by_cases g : lay A n X Y = 0
    · rw [if_neg (by rw [d6]; have := H1.mpr g; omega), if_pos (by rw [d7]; exact g)]
    · rw [if_pos (by rw [d6]; have := fun w => g (H1.mp w); omega), if_neg (by rw [d7]; exact g)]
  rw [I.x5, ob_some, c0, tn_e, c2, tn_e, tn_e, if_neg (by rw [d1]; omega), c1, tn_e, tn_e, if_neg (by rw [d2]; omega), tn_e, jn1_if, c3, tn_e, jn2_if, if_pos g1, tn_e, tn_e, tn_e, if_pos (by rw [d5]; exact f4), eY', ob_some, l1, tn_e, jn1_if, l0, tn_e, jn2_if, if_pos g2, if_neg (by rw [d8]; omega), tn_e, k1, tn_e, if_pos (by show zi (lay A n X Y) ≤ zi (outS A n); rw [d9]; exact lo'), e1]
  exact tin
set_option maxHeartbeats 1000000 in
theorem t_awn (I : IC Z t0 lo h nx n A D sn S B G hr ro) {i : Nat} (hi : i < n) {R : Type} (rec8 : Int32 → Int32 → Int32 → Int32 → Option R) (x10 x11 x12 x5 : Int32) : ((z_ck h lo 5).bind fun _ => z_tn (M_X4_about h lo (zi (i : Int)) (6 : Int32)) fun r99 => jn1 (fun (s0_100 : Int32) => z_tn (M_X4_about h lo (zi (i : Int)) (7 : Int32)) fun r101 => (M_L_below (x5 >>> ((2 : Int32) &&& 31)) (zi (n : Int))).bind fun r102 => z_tn (M_X4_about h lo (zi (i : Int)) (7 : Int32)) fun r103 => (if s0_100 < r103 then none else z_tn (M_X4_share h lo (zi (i : Int)) (zi (i : Int))) fun r104 => (if r104 = s0_100 then z_tn (M_X4_share h lo (zi (i : Int)) r102) fun r105 => z_tn (M_X4_share h lo r102 (zi (i : Int))) fun r106 => (if r105 = r106 then z_tn (M_X4_share h lo (zi (i : Int)) r102) fun r107 => (if r107 ≤ s0_100 then (rec8 (x10 + r101) (x11 + s0_100) (if x12 < s0_100 then s0_100 else x12) ((zi (i : Int)) + (1 : Int32))) else none) else none) else none))) fun J100 => (if r99 = (1 : Int32) then z_tn (M_X4_about h lo (zi (i : Int)) (2 : Int32)) fun r112 => z_tn (M_X4_about h lo (zi (i : Int)) (3 : Int32)) fun r113 => (J100 (r112 * r113)) else (J100 (0 : Int32)))) = rec8 (x10 + zi (ownS A n i)) (x11 + zi (shrS A i i)) (if x12 < zi (shrS A i i) then zi (shrS A i i) else x12) (zi ((i + 1 : Nat) : Int)) := by
  obtain ⟨hn, ho⟩ := I.ok
  have o := ho i hi
  unfold okA at o
  have f2 : M_X4_about h lo (zi (i : Int)) 2 = some (.inr (zi (A i 2))) := a_f I hi (k := 2) (by omega)
  have f3 : M_X4_about h lo (zi (i : Int)) 3 = some (.inr (zi (A i 3))) := a_f I hi (k := 3) (by omega)
  have f6 : M_X4_about h lo (zi (i : Int)) 6 = some (.inr (zi (A i 6))) := a_f I hi (k := 6) (by omega)
  have f7 := a_o I hi
  obtain ⟨j, hj, ej⟩ := y_below (x5 >>> ((2 : Int32) &&& 31)) (n := n) (by omega) (by omega)
  have sh : ∀ a b : Nat, a < n → b < n → M_X4_share h lo (zi (a : Int)) (zi (b : Int)) = some (.inr (zi (shrS A a b))) := fun a b ha hb => by
    have := (c_share I (a := (a : Int)) (w := (b : Int)) (by omega) (by omega)).1 (by omega)
    rw [Int.toNat_natCast, Int.toNat_natCast] at this
    exact this
  have s1 := sh i i hi hi
  have s2 := sh i j hi hj
  have s3 := sh j i hj hi
  rw [shr_sym] at s3
  have b1' := own_le (A := A) (n := n) i
  have b2 := own_nn (A := A) (n := n) i
  have b3 := shr_le (A := A) i j
  have b4 := shr_nn (A := A) i i
  have b5 := shr_nn (A := A) i j
  have ar := shr_self (A := A) (i := i) (ho i hi)
  have e1 : zi (i : Int) + 1 = zi ((i + 1 : Nat) : Int) := zi_add _ 1
  have c6 : (zi (A i 6) = 1) = (A i 6 = 1) := zi_eq (b := 1) (by omega) (by omega) (by omega) (by omega)
  have d1 : (zi (shrS A i i) < zi (ownS A n i)) = (shrS A i i < ownS A n i) := zi_lt (by omega) (by omega) (by omega) (by omega)
  have d2 : (zi (shrS A i j) ≤ zi (shrS A i i)) = (shrS A i j ≤ shrS A i i) := zi_le (by omega) (by omega) (by omega) (by omega)
  have key : ∀ K : Int32 → Option R, (jn1 K fun J100 => (if zi (A i 6) = (1 : Int32) then z_tn (M_X4_about h lo (zi (i : Int)) (2 : Int32)) fun r112 => z_tn (M_X4_about h lo (zi (i : Int)) (3 : Int32)) fun r113 => (J100 (r112 * r113)) else (J100 (0 : Int32)))) = K (zi (shrS A i i)) := by
    intro K
    rw [jn1_e, ar]
    by_cases g : A i 6 = 1
    · rw [if_pos (by rw [c6]; exact g), if_pos g, f2, tn_e, f3, tn_e, zi_mul]
    · rw [if_neg (by rw [c6]; exact g), if_neg g]; rfl
  rw [I.x5, ob_some, f6, tn_e, key, f7, tn_e, ej, ob_some, tn_e, if_neg (by rw [d1]; omega), s1, tn_e, if_pos rfl, s2, tn_e, s3, tn_e, if_pos rfl, tn_e, if_pos (by rw [d2]; exact b3), e1]
theorem LJ.st (L : LJ Z N t0 lo h nx n A D sn S B G hr ro) : sn ≤ 8 ∧ ∀ i, i < sn → 0 ≤ S i 0 ∧ S i 0 < 24 ∧ 0 ≤ S i 1 ∧ S i 1 < 24 := by
  obtain ⟨I, ⟨ra, rs, Pa, Ps, s⟩, -⟩ := L
  exact ⟨s.2.2.1.1, fun i hi => by have := s.2.2.1.2.2.2 i hi; omega⟩
set_option maxHeartbeats 1000000 in
theorem t_told (L : LJ Z N t0 lo h nx n A D sn S B G hr ro) (hN : N ≤ 100000) {i : Nat} (hi : i < sn) {R : Type} (rec19 : Int32 → zH → Option R) : ((z_ck h lo 5).bind fun _ => z_tn (M_X4_told h lo (zi (i : Int)) (2 : Int32)) fun r78 => z_tn (M_X4_told h lo (zi (i : Int)) (0 : Int32)) fun r79 => z_tn (M_X4_told h lo (zi (i : Int)) (1 : Int32)) fun r80 => z_tn (M_X4_cell h lo r79 r80 (2 : Int32)) fun r81 => (if r81 < r78 then none else z_tn (M_X4_told h lo (zi (i : Int)) (2 : Int32)) fun r82 => (if 0 ≤ r82 then (rec19 ((zi (i : Int)) + (1 : Int32)) h) else none))) = rec19 (zi ((i + 1 : Nat) : Int)) h := by
  obtain ⟨hs8, hS⟩ := L.st
  have o := hS i hi
  obtain ⟨I, -, F, off, b, p1, p2, p3, p4, p5⟩ := L
  have td : ∀ w : Nat, w ≤ 3 → M_X4_told h lo (zi (i : Int)) (zi (w : Int)) = some (.inr (toldS A n G S B i w)) := fun w hw => by
    have := (c_told I (a := (i : Int)) (w := (w : Int)) (by omega) (by omega)).1 (by omega)
    rw [Int.toNat_natCast] at this
    exact this
  have q0 : M_X4_told h lo (zi (i : Int)) 0 = some (.inr (zi (S i 0))) := td 0 (by omega)
  have q1 : M_X4_told h lo (zi (i : Int)) 1 = some (.inr (zi (S i 1))) := td 1 (by omega)
  have q2 : M_X4_told h lo (zi (i : Int)) 2 = some (.inr (gotS G S B i)) := td 2 (by omega)
  have q3 : M_X4_cell h lo (zi (S i 0)) (zi (S i 1)) 2 = some (.inr (G (S i 0).toNat (S i 1).toNat)) := (c_cell I (a := S i 0) (b := S i 1) (w := 2) (by omega) (by omega) (by omega)).1 (by omega)
  obtain ⟨v1, v2, v3⟩ := p5 i hi
  have w1 := p1 (S i 0).toNat (S i 1).toNat
  have w2 := tot_ge (F := F) (fun x y => (p1 x y).2) (a := (S i 0).toNat) (b := (S i 1).toNat) (by omega) (by omega)
  have ge : gotS G S B i = zi (F (S i 0).toNat (S i 1).toNat - b i) := by
    unfold gotS
    rw [w1.1, v1, zi_sub]
  rw [ge] at q2
  rw [w1.1] at q3
  generalize F (S i 0).toNat (S i 1).toNat = f at *
  have d1 : (zi f < zi (f - b i)) = (f < f - b i) := zi_lt (by omega) (by omega) (by omega) (by omega)
  have d2 : (0 ≤ zi (f - b i)) = (0 ≤ f - b i) := zi_le (a := 0) (by omega) (by omega) (by omega) (by omega)
  have e1 : zi (i : Int) + 1 = zi ((i + 1 : Nat) : Int) := zi_add _ 1
  rw [I.x5, ob_some, q2, tn_e, q0, tn_e, q1, tn_e, q3, tn_e, if_neg (by rw [d1]; omega), tn_e, if_pos (by rw [d2]; omega), e1]
end TURN2
