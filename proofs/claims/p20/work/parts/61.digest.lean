/-! digest -/
def dgF (f : Nat → Int32) : Nat → Int64 → Int64
  | 0, d => d
  | k + 1, d => dgF f k d * 31 + (f k).toInt64
def dgI (F : Nat → Int64 → Int64) : Nat → Int64 → Int64
  | 0, d => d
  | k + 1, d => F k (dgI F k d)
theorem dgF_0 (f : Nat → Int32) (d : Int64) : d = dgF f 0 d := rfl
theorem dgI_0 (F : Nat → Int64 → Int64) (d : Int64) : d = dgI F 0 d := rfl
theorem dgF_s (f : Nat → Int32) (k : Nat) (d : Int64) : dgF f k d * 31 + (f k).toInt64 = dgF f (k + 1) d := rfl
theorem dgI_s (F : Nat → Int64 → Int64) (k : Nat) (d : Int64) : F k (dgI F k d) = dgI F (k + 1) d := rfl
noncomputable def dgC (A : Nat → Nat → Int) (n : Nat) (S : Nat → Nat → Int) (sn : Nat) (G : Nat → Nat → Int32) (hr ro : Int32) (k : Nat) : Int64 := dgF (fun w => ctS A n S sn G hr ro (w : Nat)) k 1741
def dgA (A : Nat → Nat → Int) (n : Nat) (D : Nat → Int32) (i : Nat) (d : Int64) : Int64 := dgF (fun w => aboutS A n D i (w : Nat)) 9 d
def dgT (A : Nat → Nat → Int) (n : Nat) (G : Nat → Nat → Int32) (S : Nat → Nat → Int) (B : Nat → Int32) (i : Nat) (d : Int64) : Int64 := dgF (fun w => toldS A n G S B i (w : Nat)) 4 d
def dgY (A : Nat → Nat → Int) (n : Nat) (G : Nat → Nat → Int32) (c y : Nat) (d : Int64) : Int64 := dgF (fun w => cellS A n G (c : Nat) (y : Nat) (w : Nat)) 3 d
def dgK (A : Nat → Nat → Int) (n : Nat) (G : Nat → Nat → Int32) (c : Nat) (d : Int64) : Int64 := dgI (dgY A n G c) 24 (dgF (fun w => zi (cordS A n (c : Nat) (w : Nat))) 4 d)
noncomputable def digS (A : Nat → Nat → Int) (n : Nat) (D : Nat → Int32) (S : Nat → Nat → Int) (B : Nat → Int32) (sn : Nat) (G : Nat → Nat → Int32) (hr ro : Int32) : Int64 :=
  dgI (dgK A n G) 24 (dgI (dgT A n G S B) sn (dgI (dgA A n D) n (dgC A n S sn G hr ro 11)))
section DIG
variable {Z : Nat → Prop} {t0 lo : Nat} {h : zH} {nx n : Nat} {A : Nat → Nat → Int} {D : Nat → Int32} {sn : Nat} {S : Nat → Nat → Int} {B : Nat → Int32} {G : Nat → Nat → Int32} {hr ro th : Int32}
theorem p_digCol {x c s sl g : Nat} {gd go qd mc : Int32} {ea : Nat} {P : Nat → Nat} (kx : kX h x c s sl g hr gd go) (k : kW h c qd mc ea n P A D) (hl : kLy h c n A) (kg : kG h g G) {i : Nat} (hi : i < 24) (X : Int64) :
    M_X4_digestOfColumn h x X (zi i) = some (dgK A n G i X) := by
  unfold M_X4_digestOfColumn
  refine wl2_st (fun w => dgF (fun w => zi (cordS A n (i : Nat) (w : Nat))) w X) (fun w => zi (w : Int)) 4 (dgF_0 ..) n_0 ?_ ?_ 700 (by omega)
  · intro rec w hw
    have e1 : M_X4_cord h x (zi i) (zi w) = some (.inr (zi (cordS A n i w))) := by
      rw [p_X4cord kx k hl (by omega) (by omega), if_pos (by omega)]
    simp (disch := omega) only [n_3, zi_lt, ck_of kx, ob_some, e1, z_tn]
    rw [if_neg (by omega), n_1, zi_add, Int.natCast_add, Int.natCast_one]
    rfl
  · intro rec
    simp (disch := omega) only [n_3, zi_lt]
    rw [if_pos (by omega)]
    refine wl2_st (fun y => dgI (dgY A n G i) y (dgF (fun w => zi (cordS A n (i : Nat) (w : Nat))) 4 X)) (fun y => zi (y : Int)) 24 (dgI_0 ..) n_0 ?_ ?_ 700 (by omega)
    · intro rec2 y hy
      simp (disch := omega) only [n_24, zi_le]
      rw [if_neg (by omega)]
      refine wl2_st (fun w => dgF (fun w => cellS A n G (i : Nat) (y : Nat) (w : Nat)) w (dgI (dgY A n G i) y (dgF (fun w => zi (cordS A n (i : Nat) (w : Nat))) 4 X))) (fun w => zi (w : Int)) 3 (dgF_0 ..) n_0 ?_ ?_ 700 (by omega)
      · intro rec3 w hw
        have e1 : M_X4_cell h x (zi i) (zi y) (zi w) = some (.inr (cellS A n G i y w)) := by
          rw [p_X4cell kx k hl kg (by omega) (by omega) (by omega), if_pos (by omega)]
        simp (disch := omega) only [n_2, zi_lt, ck_of kx, ob_some, e1, z_tn]
        rw [if_neg (by omega), n_1, zi_add, Int.natCast_add, Int.natCast_one]
        rfl
      · intro rec3
        simp (disch := omega) only [n_2, zi_lt]
        rw [if_pos (by omega), n_1, zi_add, Int.natCast_add, Int.natCast_one]
        rfl
    · intro rec2
      simp (disch := omega) only [n_24, zi_le]
      rw [if_pos (by omega)]
      rfl
theorem c_digest (I : IC Z t0 lo h nx n A D sn S B G hr ro) : ∃ h', M_X4_digest h lo = some (digS A n D S B sn G hr ro, h') ∧ IC Z t0 lo h' nx n A D sn S B G hr ro ∧ frC Z h h' := by
  unfold M_X4_digest
  refine wl3_go (Post := fun r => ∃ h', r = some (digS A n D S B sn G hr ro, h') ∧ IC Z t0 lo h' nx n A D sn S B G hr ro ∧ frC Z h h')
    (fun d X x3 H => ∃ k : Nat, k ≤ 11 ∧ d = 11 - k ∧ X = dgC A n S sn G hr ro k ∧ x3 = zi k ∧ IC Z t0 lo H nx n A D sn S B G hr ro ∧ frC Z h H) ?_ 11 700 _ _ _ ⟨0, by omega, rfl, rfl, n_0, I, fun _ _ => rfl⟩ (by omega)
  rintro rec d X x3 H ⟨k, hk, rfl, rfl, rfl, I, fr⟩
  have e10 : ((10 : Int32) < zi k) = ((10 : Int) < k) := zi_lt (a := 10) (by omega) (by omega) (by omega) (by omega)
  have I' := I
  obtain ⟨qd, mc, mc', og, rf, ea, ea', P, Q, f1, f2, f3, f4, ⟨x1, x2⟩, ⟨w1, w2, w3, w4⟩, ⟨s1, s2, s3⟩, ⟨t1, t2, t3⟩, s, -⟩ := I'
  have hn := w1.2.1.2.1
  simp only [e10]
  by_cases hk2 : k = 11
  · left
    subst hk2
    rw [if_pos (by omega)]
    refine ⟨H, ?_, I, fr⟩
    refine wl2_st (fun i => dgI (dgA A n D) i (dgC A n S sn G hr ro 11)) (fun i => zi (i : Int)) n (dgI_0 ..) n_0 ?_ ?_ 700 (by omega)
    · intro rec2 i hi
      simp (disch := omega) only [gR_of x1 (k := 0) rfl, ob_some, ck_of w1.1, p_size w1.1 w1.2.1, zi_le]
      rw [if_neg (by omega)]
      refine wl2_st (fun w => dgF (fun w => aboutS A n D i (w : Nat)) w (dgI (dgA A n D) i (dgC A n S sn G hr ro 11))) (fun w => zi (w : Int)) 9 (dgF_0 ..) n_0 ?_ ?_ 700 (by omega)
      · intro rec3 w hw
        have e1 : M_X4_about H lo (zi i) (zi w) = some (.inr (aboutS A n D i w)) := by
          rw [p_X4about x1 w1 w2 (by omega) (by omega), if_pos (by omega), Int.toNat_natCast]
        simp (disch := omega) only [n_8, zi_lt, ck_of x1, ob_some, e1, z_tn]
        rw [if_neg (by omega), n_1, zi_add, Int.natCast_add, Int.natCast_one]
        rfl
      · intro rec3
        simp (disch := omega) only [n_8, zi_lt]
        rw [if_pos (by omega), n_1, zi_add, Int.natCast_add, Int.natCast_one]
        rfl
    · intro rec2
      simp (disch := omega) only [gR_of x1 (k := 0) rfl, ob_some, ck_of w1.1, p_size w1.1 w1.2.1, zi_le]
      rw [if_pos (by omega)]
      refine wl2_st (fun i => dgI (dgT A n G S B) i (dgI (dgA A n D) n (dgC A n S sn G hr ro 11))) (fun i => zi (i : Int)) sn (dgI_0 ..) n_0 ?_ ?_ 700 (by omega)
      · intro rec3 i hi
        simp (disch := omega) only [gR_of x1 (k := 2) rfl, ob_some, ck_of t1.1.1, p_lsize t1.1, zi_le]
        rw [if_neg (by omega)]
        refine wl2_st (fun w => dgF (fun w => toldS A n G S B i (w : Nat)) w (dgI (dgT A n G S B) i (dgI (dgA A n D) n (dgC A n S sn G hr ro 11)))) (fun w => zi (w : Int)) 4 (dgF_0 ..) n_0 ?_ ?_ 700 (by omega)
        · intro rec4 w hw
          have e1 : M_X4_told H lo (zi i) (zi w) = some (.inr (toldS A n G S B i w)) := by
            rw [p_X4told x1 w1 w2 x2 t1 t2 (by omega) (by omega), if_pos (by omega), Int.toNat_natCast]
          simp (disch := omega) only [n_3, zi_lt, ck_of x1, ob_some, e1, z_tn]
          rw [if_neg (by omega), n_1, zi_add, Int.natCast_add, Int.natCast_one]
          rfl
        · intro rec4
          simp (disch := omega) only [n_3, zi_lt]
          rw [if_pos (by omega), n_1, zi_add, Int.natCast_add, Int.natCast_one]
          rfl
      · intro rec3
        simp (disch := omega) only [gR_of x1 (k := 2) rfl, ob_some, ck_of t1.1.1, p_lsize t1.1, zi_le]
        rw [if_pos (by omega)]
        refine wl2_st (fun c => dgI (dgK A n G) c (dgI (dgT A n G S B) sn (dgI (dgA A n D) n (dgC A n S sn G hr ro 11)))) (fun c => zi (c : Int)) 24 (dgI_0 ..) n_0 ?_ ?_ 700 (by omega)
        · intro rec4 c hc
          simp (disch := omega) only [n_24, zi_le, ck_of x1, ob_some, p_digCol x1 w1 w2 x2 hc]
          rw [if_neg (by omega), n_1, zi_add, Int.natCast_add, Int.natCast_one]
          rfl
        · intro rec4
          simp (disch := omega) only [n_24, zi_le]
          rw [if_pos (by omega)]
          rfl
  · right
    rw [if_neg (by omega)]
    obtain ⟨h', r1, I2, fr2⟩ := (c_count I (w := (k : Int)) (by omega)).1 (by omega)
    simp only [ck_of x1, ob_some, r1, z_tn]
    exact ⟨11 - (k + 1), _, _, _, by omega, ⟨k + 1, by omega, rfl, rfl, by rw [n_1, zi_add]; rfl, I2, fun q q1 => (fr2 q q1).trans (fr q q1)⟩, rfl⟩
end DIG
