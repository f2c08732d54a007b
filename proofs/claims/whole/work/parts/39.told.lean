/-! told by the reference; the counts but outline and parts -/
theorem kAt_hT {h : zH} {m n sn sn' : Nat} {t hr ro : Int32} {S : Nat → Nat → Int} {B : Nat → Int32} (ka : kAt h m sn' S B) : kAt (hT h m t n sn hr ro) m sn' S B := by
  obtain ⟨h1, ⟨f, h2, h3⟩, g, h4, h5⟩ := ka
  exact ⟨h1, ⟨f, (hT_ne (by omega)).trans h2, h3⟩, g, (hT_ne (by omega)).trans h4, h5⟩
theorem p_got {h : zH} {m n sn : Nat} {th hr ro : Int32} {G : Nat → Nat → Int32} {S : Nat → Nat → Int} {B : Nat → Int32} (km : kM h m th n sn hr ro) (kg : kGm h m G) (ka : kAt h m sn S B) (os : okS2 S sn) {i : Nat} (hi : i < sn) :
    M_X5_got h m (zi i) = some (gotS G S B i) := by
  obtain ⟨h1, ⟨f, h2, h3⟩, f', h4, h5⟩ := ka
  have o := os i hi
  simp only [M_X5_got, gR_of km (k := 6) rfl, gR_of km (k := 4) rfl, gR_of km (k := 5) rfl, Option.bind_some]
  rw [cI_of h2 (by omega) (by omega) (by omega), Option.bind_some, Int.toNat_natCast, h3 i hi, cI_of kg (by omega) (by omega) (by omega), Option.bind_some, cI_of h4 (by omega) (by omega) (by omega), Option.bind_some, Int.toNat_natCast, h5 i hi,
    show (24 * S i 0 + S i 1).toNat / 24 = (S i 0).toNat from by omega, show (24 * S i 0 + S i 1).toNat % 24 = (S i 1).toNat from by omega]
  rfl
theorem p_stallTold {h : zH} {m n sn : Nat} {th hr ro : Int32} {A : Nat → Nat → Int} {D : Nat → Int32} {G : Nat → Nat → Int32} {S : Nat → Nat → Int} {B : Nat → Int32} (km : kM h m th n sn hr ro) (ks : kSh h m n A D) (kg : kGm h m G) (ka : kAt h m sn S B) (os : okS2 S sn) {i : Nat} (hi : i < sn)
    {w : Int} (hw : 0 ≤ w ∧ w ≤ 3) : M_X5_stallTold h m (zi i) (zi w) = some (toldS A n G S B i w) := by
  obtain ⟨h1, ⟨f, h2, h3⟩, f', h4, h5⟩ := id ka
  have o := os i hi
  have q0 : (zi w = 0) = (w = 0) := zi_eq (b := 0) (by omega) (by omega) (by omega) (by omega)
  have q1 : (zi w = 1) = (w = 1) := zi_eq (b := 1) (by omega) (by omega) (by omega) (by omega)
  have q2 : (zi w = 2) = (w = 2) := zi_eq (b := 2) (by omega) (by omega) (by omega) (by omega)
  have e1 : z_aI h (m + 2) (zi i) = some (zi (24 * S i 0 + S i 1)) := by
    rw [cI_of h2 (by omega) (by omega) (by omega), Int.toNat_natCast, h3 i hi]
  have e2 : zi (24 * S i 0 + S i 1) / 24 = zi (S i 0) := by
    rw [n_24, zi_div (by omega) (by omega) (by omega) (by omega)]; congr 1; omega
  have e3 : zi (24 * S i 0 + S i 1) - zi (S i 0) * 24 = zi (S i 1) := by
    rw [n_24, zi_mul, zi_sub]; congr 1; omega
  have e4 : M_X5_lying h m (zi (S i 0)) (zi (S i 1)) = some (zi (lay A n (S i 0) (S i 1))) := by
    obtain ⟨y, hy⟩ : ∃ y : Nat, S i 1 = y := ⟨(S i 1).toNat, by omega⟩
    rw [hy]; exact p_lying km ks (by omega) (by omega)
  simp only [M_X5_stallTold, q0, q1, q2, gR_of km (k := 4) rfl, ck_of km, Option.bind_some, e1, e2, e3, e4, p_got km kg ka os hi]
  unfold toldS
  by_cases w0 : w = 0
  · rw [if_pos w0, if_pos w0]
  by_cases w1 : w = 1
  · rw [if_neg w0, if_neg w0, if_pos w1, if_pos w1]
  by_cases w2 : w = 2
  · rw [if_neg w0, if_neg w0, if_neg w1, if_neg w1, if_pos w2, if_pos w2]
  · rw [if_neg w0, if_neg w0, if_neg w1, if_neg w1, if_neg w2, if_neg w2]
theorem p_isStall {h : zH} {m n sn : Nat} {th hr ro : Int32} (km : kM h m th n sn hr ro) (hn : sn ≤ 8) {a : Int} (ha : -2147483648 ≤ a ∧ a < 2147483648) : M_X5_isStall h m (zi a) = some (zi (b1 (decide (0 ≤ a ∧ a < sn)))) := by
  have e : M_X5_isIn (zi a) 0 (zi (sn : Int) - 1) = some (zi (b1 (decide (0 ≤ a ∧ a < sn)))) := by
    rw [n_0, n_1, zi_sub, p_isIn ha (by omega) (by omega)]
    congr 4
    exact propext ⟨fun h => by omega, fun h => by omega⟩
  simp only [M_X5_isStall, gI_of km (k := 3) rfl, Option.bind_some, e]
  rw [if_pos]
  cases decide (0 ≤ a ∧ a < (sn : Int)) <;> decide
theorem p_X5told {h : zH} {m n sn : Nat} {th hr ro : Int32} {A : Nat → Nat → Int} {D : Nat → Int32} {G : Nat → Nat → Int32} {S : Nat → Nat → Int} {B : Nat → Int32} (km : kM h m th n sn hr ro) (ks : kSh h m n A D) (kg : kGm h m G) (ka : kAt h m sn S B) (os : okS2 S sn)
    {a w : Int} (ha : -2147483648 ≤ a ∧ a < 2147483648) (hw : -2147483648 ≤ w ∧ w < 2147483648) :
    M_X5_told h m (zi a) (zi w) = some (if (0 ≤ a ∧ a < sn) ∧ 0 ≤ w ∧ w ≤ 3 then (toldS A n G S B a.toNat w, hT h m 0 n sn hr ro) else (0, hT h m 1 n sn hr ro)) := by
  have k1 := kM_hT h m 0 n sn hr ro
  have i3 : M_X5_isIn (zi w) 0 3 = some (zi (b1 (decide (0 ≤ w ∧ w ≤ 3)))) := by
    rw [n_0, n_3]; exact p_isIn (by omega) (by omega) (by omega)
  simp only [M_X5_told, p_setTh km, Option.bind_some, p_isStall k1 ka.1 ha, i3, jn0, b1_0, ck_of k1, p_no k1, hT_hT]
  by_cases h1 : 0 ≤ a ∧ a < sn
  · rw [if_neg (by omega)]
    obtain ⟨i, rfl⟩ : ∃ i : Nat, a = i := ⟨a.toNat, by omega⟩
    by_cases h2 : 0 ≤ w ∧ w ≤ 3
    · rw [if_neg (by omega), if_pos ⟨h1, h2⟩, p_stallTold k1 (kSh_hT ks) (kGm_hT kg) (kAt_hT ka) os (by omega) h2, Int.toNat_natCast]
      rfl
    · rw [if_pos (by omega), if_neg (fun h => h2 h.2)]
  · rw [if_pos (by omega), if_neg (fun h => h1 h.1)]
def outS (A : Nat → Nat → Int) (n : Nat) : Int := sm n fun i => A i 6
theorem p_sizeOut {h : zH} {c : Nat} {qd mc : Int32} {ea n : Nat} {P : Nat → Nat} {A : Nat → Nat → Int} {D : Nat → Int32} (k : kW h c qd mc ea n P A D) : M_X1_sizeOut h c = some (zi (outS A n)) := by
  have hn := k.2.1.2.1
  unfold M_X1_sizeOut
  refine wl2_st (fun j => zi (outS A j)) (fun j => zi (j : Int)) n n_0 n_0 ?_ ?_ 700 (by omega)
  · intro rec j hj
    have hp := (k.2.2 j hj).1
    have o := (k.2.2 j hj).2
    unfold okA at o
    have h6 : (zi (A j 6) = 0) = (A j 6 = 0) := zi_eq (b := 0) (by omega) (by omega) (by omega) (by omega)
    simp (disch := omega) only [gR_of k.1 (k := 0) rfl, ck_of k.2.1.1, p_lsize k.2.1, Option.bind_some, zi_le, p_get k.2.1 hj, ck_of hp, gI_of hp (k := 6) rfl, h6, jn1, n_1, zi_add, Int.natCast_add, Int.natCast_one]
    rw [if_neg (by omega)]
    by_cases h1 : A j 6 = 0
    · rw [if_pos h1]
      refine congrArg (fun z => rec (zi z) _) ?_
      show outS A j = sm j (fun i => A i 6) + A j 6
      rw [h1, Int.add_zero]
      rfl
    · rw [if_neg h1]
      refine congrArg (fun z => rec (zi z) _) ?_
      show outS A j + 1 = sm j (fun i => A i 6) + A j 6
      rw [show A j 6 = 1 from by omega]
      rfl
  · intro rec
    simp (disch := omega) only [gR_of k.1 (k := 0) rfl, ck_of k.2.1.1, p_lsize k.2.1, Option.bind_some, zi_le]
    rw [if_pos (by omega)]
theorem p_out {h : zH} {m n sn : Nat} {th hr ro : Int32} {A : Nat → Nat → Int} {D : Nat → Int32} (km : kM h m th n sn hr ro) (ks : kSh h m n A D) : M_X5_out h m = some (zi (outS A n)) := by
  have hn := ks.1
  unfold M_X5_out
  refine wl2_st (fun j => zi (outS A j)) (fun j => zi (j : Int)) n n_0 n_0 ?_ ?_ 700 (by omega)
  · intro rec j hj
    simp (disch := omega) only [gI_of km (k := 1) rfl, Option.bind_some, ck_of km, zi_le, p_of6 km ks hj, n_1, zi_add, Int.natCast_add, Int.natCast_one]
    rw [if_neg (by omega)]
    rfl
  · intro rec
    simp (disch := omega) only [gI_of km (k := 1) rfl, Option.bind_some, zi_le]
    rw [if_pos (by omega)]
def opnS (A : Nat → Nat → Int) (n : Nat) (S : Nat → Nat → Int) (sn : Nat) : Int := sm sn fun i => b1 (decide (lay A n (S i 0) (S i 1) = 0))
theorem p_open {h : zH} {m n sn : Nat} {th hr ro : Int32} {A : Nat → Nat → Int} {D : Nat → Int32} {G : Nat → Nat → Int32} {S : Nat → Nat → Int} {B : Nat → Int32} (km : kM h m th n sn hr ro) (ks : kSh h m n A D) (kg : kGm h m G) (ka : kAt h m sn S B) (os : okS2 S sn) : M_X5_open h m = some (zi (opnS A n S sn)) := by
  have hn := ks.1
  have hs := ka.1
  unfold M_X5_open
  refine wl2_st (fun j => zi (opnS A n S j)) (fun j => zi (j : Int)) sn n_0 n_0 ?_ ?_ 700 (by omega)
  · intro rec j hj
    have e3 : M_X5_stallTold h m (zi j) 3 = some (zi (lay A n (S j 0) (S j 1))) := by
      rw [n_3, p_stallTold km ks kg ka os hj (w := 3) (by omega)]; rfl
    have hb := lay_bd A n (S j 0) (S j 1)
    have e4 : (zi (lay A n (S j 0) (S j 1)) = 0) = (lay A n (S j 0) (S j 1) = 0) := zi_eq (b := 0) (by omega) (by omega) (by omega) (by omega)
    simp (disch := omega) only [gI_of km (k := 3) rfl, Option.bind_some, ck_of km, zi_le, e3, e4, jn1, jn2]
    rw [if_neg (by omega)]
    by_cases h1 : lay A n (S j 0) (S j 1) = 0
    · rw [if_pos h1]
      simp only [n_1, zi_add, Int.natCast_add, Int.natCast_one]
      refine congrArg (fun z => rec (zi z) _) ?_
      show opnS A n S j + 1 = sm j _ + b1 (decide (lay A n (S j 0) (S j 1) = 0))
      rw [decide_eq_true h1]; rfl
    · rw [if_neg h1]
      simp only [n_0, n_1, zi_add, Int.natCast_add, Int.natCast_one]
      refine congrArg (fun z => rec (zi z) _) ?_
      show opnS A n S j + 0 = sm j _ + b1 (decide (lay A n (S j 0) (S j 1) = 0))
      rw [decide_eq_false h1]; rfl
  · intro rec
    simp (disch := omega) only [gI_of km (k := 3) rfl, Option.bind_some, zi_le]
    rw [if_pos (by omega)]
