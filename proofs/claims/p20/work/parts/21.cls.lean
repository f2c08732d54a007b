/-! THE PURE SIDE: what the class's small methods answer -/
theorem zi_ex (x : Int32) : ∃ e : Int, x = zi e ∧ -2147483648 ≤ e ∧ e < 2147483648 := ⟨x.toInt, zi_of x, int_b x⟩
theorem gI_of {h : zH} {a ci k : Nat} {fs : List Value} {x : Int32} (e : h a = some (zO ci fs)) (e2 : fs[k]? = some (.int x)) : z_gI h a ci k = some x := by
  simp only [z_gI, z_ob_of e, Option.bind_some, e2]
theorem gR_of {h : zH} {a ci k : Nat} {fs : List Value} {x : Nat} (e : h a = some (zO ci fs)) (e2 : fs[k]? = some (.ref x)) : z_gR h a ci k = some x := by
  simp only [z_gR, z_ob_of e, Option.bind_some, e2]
theorem ck_of {h : zH} {a ci : Nat} {fs : List Value} (e : h a = some (zO ci fs)) : z_ck h a ci = some () := by
  simp only [z_ck, z_ob_of e, Option.bind_some]
theorem pV_of {h : zH} {a ci k : Nat} {fs : List Value} {v : Value} (e : h a = some (zO ci fs)) (e2 : k < fs.length) : z_pV h a ci k v = some (z_up h a (zO ci (fs.set k v))) := by
  simp only [z_pV, z_ob_of e, Option.bind_some, if_pos e2]
theorem ai_of {h : zH} {a n : Nat} {f : Nat → Int32} (e : h a = some (zI n f)) : z_ai h a = some (n, f) := by simp [z_ai, e]
theorem aq_of {h : zH} {a n : Nat} {f : Nat → Option Nat} (e : h a = some (zQ n f)) : z_aq h a = some (n, f) := by simp [z_aq, e]
theorem al_of {h : zH} {a n : Nat} {f : Nat → Int32} (e : h a = some (zI n f)) : z_al h a = some (zi n) := by simp [z_al, e, zi_ofNat]
theorem aI_of {h : zH} {a n : Nat} {f : Nat → Int32} {i : Int} (e : h a = some (zI n f)) (hn : n ≤ 100000) (h1 : 0 ≤ i) (h2 : i < n) : z_aI h a (zi i) = some (f i.toNat) := by
  simp only [z_aI, ai_of e, Option.bind_some]
  rw [if_neg, zi_nn (by omega) (by omega)]
  rw [zi_nn (by omega) (by omega), n_0, zi_lt (by omega) (by omega) (by omega) (by omega)]
  omega
theorem sI_of {h : zH} {a n : Nat} {f : Nat → Int32} {i : Int} {x : Int32} (e : h a = some (zI n f)) (hn : n ≤ 100000) (h1 : 0 ≤ i) (h2 : i < n) : z_sI h a (zi i) x = some (z_up h a (zI n (upd f i.toNat x))) := by
  simp only [z_sI, ai_of e, Option.bind_some]
  rw [if_neg, zi_nn (by omega) (by omega)]
  rw [zi_nn (by omega) (by omega), n_0, zi_lt (by omega) (by omega) (by omega) (by omega)]
  omega
theorem aR_of {h : zH} {a n : Nat} {f : Nat → Option Nat} {i : Int} (e : h a = some (zQ n f)) (hn : n ≤ 100000) (h1 : 0 ≤ i) (h2 : i < n) : z_aR h a (zi i) = f i.toNat := by
  simp only [z_aR, aq_of e, Option.bind_some]
  rw [if_neg, zi_nn (by omega) (by omega)]
  rw [zi_nn (by omega) (by omega), n_0, zi_lt (by omega) (by omega) (by omega) (by omega)]
  omega
theorem up_at (h : zH) (a : Nat) (c : zC) : z_up h a c a = some c := by simp [z_up]
theorem up_ne {h : zH} {a q : Nat} {c : zC} (e : q ≠ a) : z_up h a c q = h q := by simp [z_up, e]
theorem up_up (h : zH) (a : Nat) (c d : zC) : z_up (z_up h a c) a d = z_up h a d := by
  funext q; by_cases e : q = a <;> simp [z_up, e]
theorem up_same {h : zH} {a : Nat} {c : zC} (e : h a = some c) : z_up h a c = h := by
  funext q; by_cases e2 : q = a
  · subst e2; rw [up_at, e]
  · rw [up_ne e2]
/-! an awning -/
abbrev oA (A : Nat → Int) (D : Int32) : zC := zO 1 [.int (zi (A 0)), .int (zi (A 1)), .int (zi (A 2)), .int (zi (A 3)), .int (zi (A 4)), .int (zi (A 5)), .int (zi (A 6)), .int D]
def okA (A : Nat → Int) : Prop := 0 ≤ A 0 ∧ 0 ≤ A 1 ∧ 1 ≤ A 2 ∧ 1 ≤ A 3 ∧ A 0 + A 2 ≤ 24 ∧ A 1 + A 3 ≤ 24 ∧ 1 ≤ A 4 ∧ A 4 ≤ 9 ∧ 0 ≤ A 5 ∧ A 5 ≤ 3 ∧ 0 ≤ A 6 ∧ A 6 ≤ 1
def cv (A : Nat → Int) (x y : Int) : Bool := decide (A 6 = 1 ∧ A 0 ≤ x ∧ x < A 0 + A 2 ∧ A 1 ≤ y ∧ y < A 1 + A 3)
def b1 (b : Bool) : Int := if b = true then 1 else 0
theorem b1_bd (b : Bool) : 0 ≤ b1 b ∧ b1 b ≤ 1 := by cases b <;> simp [b1]
theorem cv_t {A : Nat → Int} {x y : Int} (e : A 6 = 1 ∧ A 0 ≤ x ∧ x < A 0 + A 2 ∧ A 1 ≤ y ∧ y < A 1 + A 3) : cv A x y = true := decide_eq_true e
theorem cv_f {A : Nat → Int} {x y : Int} (e : ¬(A 6 = 1 ∧ A 0 ≤ x ∧ x < A 0 + A 2 ∧ A 1 ≤ y ∧ y < A 1 + A 3)) : cv A x y = false := decide_eq_false e
theorem p_covers {h : zH} {a : Nat} {A : Nat → Int} {D : Int32} (ha : h a = some (oA A D)) (ho : okA A) {x y : Int} (hx : -100 ≤ x ∧ x ≤ 100) (hy : -100 ≤ y ∧ y ≤ 100) :
    M_X0_covers h a (zi x) (zi y) = some (zi (b1 (cv A x y))) := by
  obtain ⟨o0, o1, o2, o3, o4, o5, o6, o7, o8, o9, o10, o11⟩ := ho
  simp (disch := omega) only [M_X0_covers, z_gI, z_ob_of ha, ob_some, Option.bind_none, jn0_e, jn1_e, jn2_e, jn3_e, jn4_e, jn5_e, List.getElem?_cons_succ, List.getElem?_cons_zero, n_0, n_1, n_2, n_3, n_4, n_5, n_6, n_7, n_8, n_9, n_10, n_20, n_23, n_24, n_576, n_577, n_m1, zi_neg, zi_add, zi_sub, zi_mul, zi_lt, zi_le, zi_eq]
  repeat' split
  all_goals first | (rw [cv_f (by omega)]; rfl) | (rw [cv_t (by omega)]; rfl)
theorem p_isCell {x y : Int} (hx : -2147483648 ≤ x ∧ x < 2147483648) (hy : -2147483648 ≤ y ∧ y < 2147483648) :
    M_X4_isCell (zi x) (zi y) = some (if 0 ≤ x ∧ x < 24 ∧ 0 ≤ y ∧ y < 24 then 1 else 0) := by
  simp (disch := omega) only [M_X4_isCell, n_0, n_24, zi_lt, zi_le, zi_eq, jn0]
  repeat' split
  all_goals first | rfl | omega
/-! the lists -/
def kL (h : zH) (a : Nat) (mc : Int32) (ea n : Nat) (P : Nat → Nat) : Prop :=
  h a = some (zO 0 [.int mc, .ref ea, .int (zi n)]) ∧ n ≤ 10 ∧ (0 < n → ∃ f, h ea = some (zQ 10 f) ∧ ∀ k, k < n → f k = some (P k))
theorem p_lsize {h : zH} {a : Nat} {mc : Int32} {ea n : Nat} {P : Nat → Nat} (k : kL h a mc ea n P) : M_Jx4a65c_size_8abf5 h a = some (zi n) := by
  simp only [M_Jx4a65c_size_8abf5, z_gI, z_ob_of k.1, ob_some, Option.bind_none, jn0_e, jn1_e, jn2_e, jn3_e, jn4_e, jn5_e, List.getElem?_cons_succ, List.getElem?_cons_zero]
theorem p_check {i n : Int} (h1 : 0 ≤ i) (h2 : i < n) (h3 : n < 2147483648) : M_J15_checkIndex_7cf53 (zi i) (zi n) = some (zi i) := by
  simp (disch := omega) only [M_J15_checkIndex_7cf53, M_J3_checkIndex_8e157, n_0, zi_lt, zi_le, zi_eq]
  rw [if_neg (by omega), if_pos (by omega)]
  rfl
theorem p_get {h : zH} {a : Nat} {mc : Int32} {ea n : Nat} {P : Nat → Nat} (k : kL h a mc ea n P) {i : Nat} (hi : i < n) : M_Jx4a65c_get_915e3 h a (zi i) = some (P i) := by
  obtain ⟨k1, k2, k3⟩ := k
  obtain ⟨f, k4, k5⟩ := k3 (by omega)
  simp only [M_Jx4a65c_get_915e3, gI_of k1 (k := 2) rfl, Option.bind_some, p_check (i := i) (n := n) (by omega) (by omega) (by omega), ck_of k1, M_Jx4a65c_elementData_915e3, gR_of k1 (k := 1) rfl]
  rw [aR_of k4 (by omega) (by omega) (by omega), Int.toNat_natCast, k5 i hi]
  rfl
/-! the canopy -/
def kC (h : zH) (c : Nat) (qd : Int32) : Prop := h c = some (zO 2 [.ref (c + 1), .ref (c + 2), .ref (c + 3), .ref (c + 4), .int qd])
theorem p_size {h : zH} {c : Nat} {qd mc : Int32} {ea n : Nat} {P : Nat → Nat} (hc : kC h c qd) (k : kL h (c + 1) mc ea n P) : M_X1_size h c = some (zi n) := by
  simp only [M_X1_size, gR_of hc (k := 0) rfl, Option.bind_some, ck_of k.1, p_lsize k]
theorem p_numbered {h : zH} {c : Nat} {qd mc : Int32} {ea n : Nat} {P : Nat → Nat} {A : Nat → Nat → Int} {D : Nat → Int32} (hc : kC h c qd) (k : kL h (c + 1) mc ea n P) (ha : ∀ i, i < n → h (P i) = some (oA (A i) (D i))) {x : Int} (hx : -2147483648 ≤ x ∧ x < 2147483648) :
    M_X1_numbered h c (zi x) = if 0 ≤ x ∧ x < n then some (.inr (P x.toNat)) else some (.inl "java/lang/IndexOutOfBoundsException") := by
  have hn := k.2.1
  simp (disch := omega) only [M_X1_numbered, gR_of hc (k := 0) rfl, Option.bind_some, ck_of k.1, p_lsize k, n_0, zi_lt, zi_le, zi_eq]
  by_cases h1 : x < 0
  · rw [if_pos h1, if_neg (by omega)]
  rw [if_neg h1]
  by_cases h2 : x < n
  · obtain ⟨i, rfl⟩ : ∃ i : Nat, x = i := ⟨x.toNat, by omega⟩
    rw [if_pos h2, if_pos (by omega), p_get k (by omega), Option.bind_some, ck_of (ha i (by omega))]
    rfl
  · rw [if_neg h2, if_neg (by omega)]
theorem p_layersAt {h : zH} {c : Nat} {qd : Int32} {L : Nat → Int32} (hc : kC h c qd) (hl : h (c + 2) = some (zI 576 L)) {x y : Int} (hx : -100 ≤ x ∧ x ≤ 100) (hy : -100 ≤ y ∧ y ≤ 100) :
    M_X1_layersAt h c (zi x) (zi y) = some (if 0 ≤ x ∧ x < 24 ∧ 0 ≤ y ∧ y < 24 then L (24 * y + x).toNat else zi 0) := by
  simp only [M_X1_layersAt, p_isCell (x := x) (y := y) (by omega) (by omega), Option.bind_some, gR_of hc (k := 1) rfl]
  by_cases h1 : 0 ≤ x ∧ x < 24 ∧ 0 ≤ y ∧ y < 24
  · rw [if_pos h1, if_neg (by decide), if_pos h1]
    simp only [n_0, n_1, n_2, n_3, n_4, n_5, n_6, n_7, n_8, n_9, n_10, n_20, n_23, n_24, n_576, n_577, n_m1, zi_neg, zi_add, zi_sub, zi_mul]
    rw [aI_of hl (by omega) (by omega) (by omega), Int.mul_comm y 24]
    rfl
  · rw [if_neg h1, if_pos rfl, if_neg h1]
    rfl
