/-! would -/
theorem p_drops {d : Int} (hd : -2147483648 ≤ d ∧ d < 2147483648) : M_X4_requireDrops (zi d) = some (if 1 ≤ d ∧ d ≤ 20 then .inr () else .inl sIA) := by
  simp (disch := omega) only [M_X4_requireDrops, n_1, n_20, zi_lt, zi_le, zi_eq]
  by_cases h1 : d < 1
  · rw [if_pos h1, if_neg (by omega)]
  · rw [if_neg h1]
    by_cases h2 : d ≤ 20
    · rw [if_pos h2, if_pos (by omega)]
    · rw [if_neg h2, if_neg (by omega)]
theorem p_fallenAt {s c : Nat} {σ : zS} {h : zH} {x y : Int} (hi : 0 ≤ x ∧ x < 24 ∧ 0 ≤ y ∧ y < 24) : M_X2_fallenAt (hS s c σ h) s (zi x) (zi y) = some (zi (σ.1 x.toNat y.toNat)) := by
  have hc : M_X4_isCell (zi x) (zi y) = some 1 := by rw [p_isCell (by omega) (by omega), if_pos hi]
  simp only [M_X2_fallenAt, hc, Option.bind_some]
  rw [if_neg (by decide), gR_of (hS_0 s c σ h) (k := 1) rfl, Option.bind_some, n_24, zi_mul, zi_add, cI_of (hS_1 s c σ h) (by omega) (by omega) (by omega), show (y * 24 + x).toNat % 24 = x.toNat from by omega, show (y * 24 + x).toNat / 24 = y.toNat from by omega]
  rfl
theorem p_X4would {h : zH} {x c s sl g : Nat} {hr gd go qd mc mc' og rf : Int32} {ea ea' n sn : Nat} {P Q : Nat → Nat} {A : Nat → Nat → Int} {D : Nat → Int32} {S : Nat → Nat → Int} {B : Nat → Int32} {f1 f2 : Nat → Int32} (kx : kX h x c s sl g hr gd go) (k : kW h c qd mc ea n P A D) (kt : kSt h sl mc' ea' sn Q S B) (os : okS2 S sn)
    (e : sepW s c ea n P) (ex : x ≠ s ∧ x ≠ s + 1 ∧ x ≠ s + 2) (eq : ∀ i, i < sn → Q i ≠ s ∧ Q i ≠ s + 1 ∧ Q i ≠ s + 2)
    (e0 : h s = some (zO 3 [.ref c, .ref (s + 1), .ref (s + 2), .int og, .int rf])) (e1 : h (s + 1) = some (cA 576 f1)) (e2 : h (s + 2) = some (cA 10 f2))
    {a d : Int} (ha : -2147483648 ≤ a ∧ a < 2147483648) (hd : -2147483648 ≤ d ∧ d < 2147483648) :
    M_X4_would h x (zi a) (zi d) = some (if 0 ≤ a ∧ a < sn then (if 1 ≤ d ∧ d ≤ 20 then .inr (zi ((pL A n d 9).1 (S a.toNat 0).toNat (S a.toNat 1).toNat), hS s c (pL A n d 9) h) else .inl sIA) else .inl sIO) := by
  have ho : ∀ i, i < n → okA (A i) := fun i hi => (k.2.2 i hi).2
  simp only [M_X4_would, ck_of kx, ob_some, p_numStall kx kt ha, z_tb]
  by_cases h1 : 0 ≤ a ∧ a < sn
  · obtain ⟨i, rfl⟩ : ∃ i : Nat, a = i := ⟨a.toNat, by omega⟩
    have hi : i < sn := by omega
    have o := os i hi
    rw [if_pos h1, if_pos (c := 0 ≤ (i : Int) ∧ _) h1]
    simp only [ob_some, Int.toNat_natCast, p_drops hd]
    by_cases h2 : 1 ≤ d ∧ d ≤ 20
    · have hpour : M_X2_pour h s (zi d) = some (hS s c (pL A n d 9) h) := p_pour k e e0 e1 e2 fun m j hm hj h6 h4 => pL_K ho (by omega) (by omega) m j hj h6 h4
      have kx' : kX (hS s c (pL A n d 9) h) x c s sl g hr gd go := (hS_ne ex).trans kx
      have hp : hS s c (pL A n d 9) h (Q i) = some (zO 4 [.int (zi (S i 0)), .int (zi (S i 1)), .int (B i)]) := (hS_ne (eq i hi)).trans (kt.2 i hi)
      rw [if_pos h2, if_pos (c := 1 ≤ d ∧ _) h2]
      simp only [gR_of kx (k := 1) rfl, ck_of e0, ob_some, hpour, gR_of kx' (k := 1) rfl, gI_of hp (k := 0) rfl, gI_of hp (k := 1) rfl, ck_of (hS_0 s c _ h), p_fallenAt (s := s) (c := c) (σ := pL A n d 9) (h := h) (x := S i 0) (y := S i 1) (by omega)]
    · rw [if_neg h2, if_neg (c := 1 ≤ d ∧ _) h2]
  · rw [if_neg h1, if_neg (c := 0 ≤ a ∧ _) h1]
    rfl
theorem p_X5would {h : zH} {m n sn : Nat} {th hr ro : Int32} {A : Nat → Nat → Int} {D : Nat → Int32} {S : Nat → Nat → Int} {B : Nat → Int32} {f g : Nat → Int32} (km : kM h m th n sn hr ro) (ks : kSh h m n A D) (ka : kAt h m sn S B) (os : okS2 S sn) (e5 : h (m + 5) = some (cA 576 f)) (e6 : h (m + 6) = some (cA 10 g))
    {a d : Int} (ha : -2147483648 ≤ a ∧ a < 2147483648) (hd : -2147483648 ≤ d ∧ d < 2147483648) :
    M_X5_would h m (zi a) (zi d) = some (if 0 ≤ a ∧ a < sn then (if 1 ≤ d ∧ d ≤ 20 then (zi ((pL A n d 9).1 (S a.toNat 0).toNat (S a.toNat 1).toNat), hM m (pL A n d 9) (hT h m 0 n sn hr ro)) else (0, hT h m 2 n sn hr ro)) else (0, hT h m 1 n sn hr ro)) := by
  have k1 := kM_hT h m 0 n sn hr ro
  have k2 := kSh_hT (n := n) (sn := sn) (t := 0) (hr := hr) (ro := ro) ks
  have i20 : M_X5_isIn (zi d) 1 20 = some (zi (b1 (decide (1 ≤ d ∧ d ≤ 20)))) := by
    rw [n_1, n_20]; exact p_isIn (by omega) (by omega) (by omega)
  simp only [M_X5_would, p_setTh km, ob_some, ck_of k1, p_isStall k1 ka.1 ha, i20, b1_0, p_no k1, hT_hT]
  by_cases h1 : 0 ≤ a ∧ a < sn
  · obtain ⟨i, rfl⟩ : ∃ i : Nat, a = i := ⟨a.toNat, by omega⟩
    have hi : i < sn := by omega
    have o := os i hi
    rw [if_neg (by omega), if_pos (c := 0 ≤ (i : Int) ∧ _) h1]
    by_cases h2 : 1 ≤ d ∧ d ≤ 20
    · have hpour : M_X5_pour (hT h m 0 n sn hr ro) m (zi d) = some (zi (pL A n d 9).2.2, hM m (pL A n d 9) (hT h m 0 n sn hr ro)) := p_mpour k1 k2 ((hT_ne (by omega)).trans e5) ((hT_ne (by omega)).trans e6) (by omega)
      have k3 : kM (hM m (pL A n d 9) (hT h m 0 n sn hr ro)) m 0 n sn hr ro := kM_hM k1
      obtain ⟨a1, ⟨fa, a2, a3⟩, -⟩ := ka
      have a4 : hM m (pL A n d 9) (hT h m 0 n sn hr ro) (m + 2) = some (cA 8 fa) := (hM_ne (by omega)).trans ((hT_ne (by omega)).trans a2)
      rw [if_neg (by omega), if_pos (c := 1 ≤ d ∧ _) h2, hpour, ob_some, gR_of k3 (k := 9) rfl, ob_some, gR_of k3 (k := 4) rfl, ob_some, cI_of a4 (by omega) (by omega) (by omega), ob_some, Int.toNat_natCast, a3 i hi, cI_of (hM_5 ..) (by omega) (by omega) (by omega), ob_some,
        show (24 * S i 0 + S i 1).toNat / 24 = (S i 0).toNat from by omega, show (24 * S i 0 + S i 1).toNat % 24 = (S i 1).toNat from by omega]
    · rw [if_pos (by omega), if_neg (c := 1 ≤ d ∧ _) h2]
  · rw [if_pos (by omega), if_neg (c := 0 ≤ a ∧ _) h1]
