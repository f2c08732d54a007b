/-! what is asked, under the invariant -/
section ASKS
variable {t0 lo : Nat} {h : zH} {nx n : Nat} {A : Nat → Nat → Int} {D : Nat → Int32} {sn : Nat} {S : Nat → Nat → Int} {B : Nat → Int32} {G : Nat → Nat → Int32} {hr ro th : Int32}
theorem c_about (I : IC t0 lo h nx n A D sn S B G hr ro) {a w : Int} (ha : -2147483648 ≤ a ∧ a < 2147483648) (hw : -2147483648 ≤ w ∧ w < 2147483648) : ((0 ≤ a ∧ a < n) ∧ 0 ≤ w ∧ w ≤ 8 → M_X4_about h lo (zi a) (zi w) = some (.inr (aboutS A n D a.toNat w))) ∧ (¬((0 ≤ a ∧ a < n) ∧ 0 ≤ w ∧ w ≤ 8) → M_X4_about h lo (zi a) (zi w) = some (.inl sIO)) := by
  obtain ⟨qd, mc, mc', og, rf, ea, ea', P, Q, f1, f2, f3, f4, ⟨x1, x2⟩, ⟨w1, w2, w3, w4⟩, -, ⟨t1, t2, t3⟩, -⟩ := I
  have key := p_X4about x1 w1 w2 ha hw
  exact ⟨fun g => by rw [key, if_pos g], fun g => by rw [key, if_neg g]⟩
theorem m_about (J : IM lo h th n A D sn S B G hr ro) {a w : Int} (ha : -2147483648 ≤ a ∧ a < 2147483648) (hw : -2147483648 ≤ w ∧ w < 2147483648) : ((0 ≤ a ∧ a < n) ∧ 0 ≤ w ∧ w ≤ 8 → ∃ h', M_X5_about h (lo + 11) (zi a) (zi w) = some (aboutS A n D a.toNat w, h') ∧ IM lo h' 0 n A D sn S B G hr ro ∧ frM lo nx h h') ∧ (¬((0 ≤ a ∧ a < n) ∧ 0 ≤ w ∧ w ≤ 8) → ∃ h', M_X5_about h (lo + 11) (zi a) (zi w) = some (0, h') ∧ IM lo h' 1 n A D sn S B G hr ro ∧ frM lo nx h h') := by
  have key := p_X5about J.1 J.2.1 ha hw
  exact ⟨fun g => ⟨_, by rw [key, if_pos g], J.hT 0, frM_hT⟩, fun g => ⟨_, by rw [key, if_neg g], J.hT 1, frM_hT⟩⟩
theorem c_cell (I : IC t0 lo h nx n A D sn S B G hr ro) {a b w : Int} (ha : -2147483648 ≤ a ∧ a < 2147483648) (hb : -2147483648 ≤ b ∧ b < 2147483648) (hw : -2147483648 ≤ w ∧ w < 2147483648) : ((0 ≤ a ∧ a < 24 ∧ 0 ≤ b ∧ b < 24) ∧ 0 ≤ w ∧ w ≤ 2 → M_X4_cell h lo (zi a) (zi b) (zi w) = some (.inr (cellS A n G a b w))) ∧ (¬((0 ≤ a ∧ a < 24 ∧ 0 ≤ b ∧ b < 24) ∧ 0 ≤ w ∧ w ≤ 2) → M_X4_cell h lo (zi a) (zi b) (zi w) = some (.inl sIO)) := by
  obtain ⟨qd, mc, mc', og, rf, ea, ea', P, Q, f1, f2, f3, f4, ⟨x1, x2⟩, ⟨w1, w2, w3, w4⟩, -, ⟨t1, t2, t3⟩, -⟩ := I
  have key := p_X4cell x1 w1 w2 x2 ha hb hw
  exact ⟨fun g => by rw [key, if_pos g], fun g => by rw [key, if_neg g]⟩
theorem m_cell (J : IM lo h th n A D sn S B G hr ro) {a b w : Int} (ha : -2147483648 ≤ a ∧ a < 2147483648) (hb : -2147483648 ≤ b ∧ b < 2147483648) (hw : -2147483648 ≤ w ∧ w < 2147483648) : ((0 ≤ a ∧ a < 24 ∧ 0 ≤ b ∧ b < 24) ∧ 0 ≤ w ∧ w ≤ 2 → ∃ h', M_X5_cell h (lo + 11) (zi a) (zi b) (zi w) = some (cellS A n G a b w, h') ∧ IM lo h' 0 n A D sn S B G hr ro ∧ frM lo nx h h') ∧ (¬((0 ≤ a ∧ a < 24 ∧ 0 ≤ b ∧ b < 24) ∧ 0 ≤ w ∧ w ≤ 2) → ∃ h', M_X5_cell h (lo + 11) (zi a) (zi b) (zi w) = some (0, h') ∧ IM lo h' 1 n A D sn S B G hr ro ∧ frM lo nx h h') := by
  have key := p_X5cell J.1 J.2.1 J.2.2.1 ha hb hw
  exact ⟨fun g => ⟨_, by rw [key, if_pos g], J.hT 0, frM_hT⟩, fun g => ⟨_, by rw [key, if_neg g], J.hT 1, frM_hT⟩⟩
theorem c_cord (I : IC t0 lo h nx n A D sn S B G hr ro) {a w : Int} (ha : -2147483648 ≤ a ∧ a < 2147483648) (hw : -2147483648 ≤ w ∧ w < 2147483648) : (0 ≤ a ∧ a < 24 ∧ 0 ≤ w ∧ w ≤ 3 → M_X4_cord h lo (zi a) (zi w) = some (.inr (zi (cordS A n a w)))) ∧ (¬(0 ≤ a ∧ a < 24 ∧ 0 ≤ w ∧ w ≤ 3) → M_X4_cord h lo (zi a) (zi w) = some (.inl sIO)) := by
  obtain ⟨qd, mc, mc', og, rf, ea, ea', P, Q, f1, f2, f3, f4, ⟨x1, x2⟩, ⟨w1, w2, w3, w4⟩, -, ⟨t1, t2, t3⟩, -⟩ := I
  have key := p_X4cord x1 w1 w2 ha hw
  exact ⟨fun g => by rw [key, if_pos g], fun g => by rw [key, if_neg g]⟩
theorem m_cord (J : IM lo h th n A D sn S B G hr ro) {a w : Int} (ha : -2147483648 ≤ a ∧ a < 2147483648) (hw : -2147483648 ≤ w ∧ w < 2147483648) : (0 ≤ a ∧ a < 24 ∧ 0 ≤ w ∧ w ≤ 3 → ∃ h', M_X5_cord h (lo + 11) (zi a) (zi w) = some (zi (cordS A n a w), h') ∧ IM lo h' 0 n A D sn S B G hr ro ∧ frM lo nx h h') ∧ (¬(0 ≤ a ∧ a < 24 ∧ 0 ≤ w ∧ w ≤ 3) → ∃ h', M_X5_cord h (lo + 11) (zi a) (zi w) = some (0, h') ∧ IM lo h' 1 n A D sn S B G hr ro ∧ frM lo nx h h') := by
  have key := p_X5cord J.1 J.2.1 ha hw
  exact ⟨fun g => ⟨_, by rw [key, if_pos g], J.hT 0, frM_hT⟩, fun g => ⟨_, by rw [key, if_neg g], J.hT 1, frM_hT⟩⟩
theorem c_told (I : IC t0 lo h nx n A D sn S B G hr ro) {a w : Int} (ha : -2147483648 ≤ a ∧ a < 2147483648) (hw : -2147483648 ≤ w ∧ w < 2147483648) : ((0 ≤ a ∧ a < sn) ∧ 0 ≤ w ∧ w ≤ 3 → M_X4_told h lo (zi a) (zi w) = some (.inr (toldS A n G S B a.toNat w))) ∧ (¬((0 ≤ a ∧ a < sn) ∧ 0 ≤ w ∧ w ≤ 3) → M_X4_told h lo (zi a) (zi w) = some (.inl sIO)) := by
  obtain ⟨qd, mc, mc', og, rf, ea, ea', P, Q, f1, f2, f3, f4, ⟨x1, x2⟩, ⟨w1, w2, w3, w4⟩, -, ⟨t1, t2, t3⟩, -⟩ := I
  have key := p_X4told x1 w1 w2 x2 t1 t2 ha hw
  exact ⟨fun g => by rw [key, if_pos g], fun g => by rw [key, if_neg g]⟩
theorem m_told (J : IM lo h th n A D sn S B G hr ro) {a w : Int} (ha : -2147483648 ≤ a ∧ a < 2147483648) (hw : -2147483648 ≤ w ∧ w < 2147483648) : ((0 ≤ a ∧ a < sn) ∧ 0 ≤ w ∧ w ≤ 3 → ∃ h', M_X5_told h (lo + 11) (zi a) (zi w) = some (toldS A n G S B a.toNat w, h') ∧ IM lo h' 0 n A D sn S B G hr ro ∧ frM lo nx h h') ∧ (¬((0 ≤ a ∧ a < sn) ∧ 0 ≤ w ∧ w ≤ 3) → ∃ h', M_X5_told h (lo + 11) (zi a) (zi w) = some (0, h') ∧ IM lo h' 1 n A D sn S B G hr ro ∧ frM lo nx h h') := by
  obtain ⟨j1, j2, j3, j4, j5, -⟩ := id J
  have key := p_X5told j1 j2 j3 j4 j5 ha hw
  exact ⟨fun g => ⟨_, by rw [key, if_pos g], J.hT 0, frM_hT⟩, fun g => ⟨_, by rw [key, if_neg g], J.hT 1, frM_hT⟩⟩
theorem c_share (I : IC t0 lo h nx n A D sn S B G hr ro) {a w : Int} (ha : -2147483648 ≤ a ∧ a < 2147483648) (hw : -2147483648 ≤ w ∧ w < 2147483648) : ((0 ≤ a ∧ a < n) ∧ 0 ≤ w ∧ w < n → M_X4_share h lo (zi a) (zi w) = some (.inr (zi (shrS A a.toNat w.toNat)))) ∧ (¬((0 ≤ a ∧ a < n) ∧ 0 ≤ w ∧ w < n) → M_X4_share h lo (zi a) (zi w) = some (.inl sIO)) := by
  obtain ⟨qd, mc, mc', og, rf, ea, ea', P, Q, f1, f2, f3, f4, ⟨x1, x2⟩, ⟨w1, w2, w3, w4⟩, -, ⟨t1, t2, t3⟩, -⟩ := I
  have key := p_X4share x1 w1 ha hw
  exact ⟨fun g => by rw [key, if_pos g], fun g => by rw [key, if_neg g]⟩
theorem m_share (J : IM lo h th n A D sn S B G hr ro) {a w : Int} (ha : -2147483648 ≤ a ∧ a < 2147483648) (hw : -2147483648 ≤ w ∧ w < 2147483648) : ((0 ≤ a ∧ a < n) ∧ 0 ≤ w ∧ w < n → ∃ h', M_X5_share h (lo + 11) (zi a) (zi w) = some (zi (shrS A a.toNat w.toNat), h') ∧ IM lo h' 0 n A D sn S B G hr ro ∧ frM lo nx h h') ∧ (¬((0 ≤ a ∧ a < n) ∧ 0 ≤ w ∧ w < n) → ∃ h', M_X5_share h (lo + 11) (zi a) (zi w) = some (0, h') ∧ IM lo h' 1 n A D sn S B G hr ro ∧ frM lo nx h h') := by
  have key := p_X5share J.1 J.2.1 ha hw
  exact ⟨fun g => ⟨_, by rw [key, if_pos g], J.hT 0, frM_hT⟩, fun g => ⟨_, by rw [key, if_neg g], J.hT 1, frM_hT⟩⟩
theorem c_best (I : IC t0 lo h nx n A D sn S B G hr ro) {w v q : Int} (hw : -2147483648 ≤ w ∧ w < 2147483648) (hv : -2147483648 ≤ v ∧ v < 2147483648) (hq : -2147483648 ≤ q ∧ q < 2147483648) :
    ((1 ≤ w ∧ w ≤ 24 ∧ 1 ≤ v ∧ v ≤ 24) ∧ (0 ≤ q ∧ q ≤ 2) → M_X4_best h lo (zi w) (zi v) (zi q) = some (.inr (zi (besS A n w.toNat v.toNat q)))) ∧ (¬(1 ≤ w ∧ w ≤ 24 ∧ 1 ≤ v ∧ v ≤ 24) → M_X4_best h lo (zi w) (zi v) (zi q) = some (.inl sIA)) ∧ ((1 ≤ w ∧ w ≤ 24 ∧ 1 ≤ v ∧ v ≤ 24) ∧ ¬(0 ≤ q ∧ q ≤ 2) → M_X4_best h lo (zi w) (zi v) (zi q) = some (.inl sIO)) := by
  obtain ⟨qd, mc, mc', og, rf, ea, ea', P, Q, f1, f2, f3, f4, ⟨x1, x2⟩, ⟨w1, w2, w3, w4⟩, -, ⟨t1, t2, t3⟩, -⟩ := I
  have key := p_X4best x1 w1 w2 hw hv hq
  exact ⟨fun g => by rw [key, if_pos g.1, if_pos g.2], fun g => by rw [key, if_neg g], fun g => by rw [key, if_pos g.1, if_neg g.2]⟩
theorem m_best (hnx : lo + 18 ≤ nx) (J : IM lo h th n A D sn S B G hr ro) {w v q : Int} (hw : -2147483648 ≤ w ∧ w < 2147483648) (hv : -2147483648 ≤ v ∧ v < 2147483648) (hq : -2147483648 ≤ q ∧ q < 2147483648) :
    ((1 ≤ w ∧ w ≤ 24 ∧ 1 ≤ v ∧ v ≤ 24) ∧ (0 ≤ q ∧ q ≤ 2) → ∃ h' nx', M_X5_best h nx (lo + 11) (zi w) (zi v) (zi q) = some (zi (besS A n w.toNat v.toNat q), h', nx') ∧ nx ≤ nx' ∧ IM lo h' 0 n A D sn S B G hr ro ∧ frM lo nx h h') ∧ (¬(1 ≤ w ∧ w ≤ 24 ∧ 1 ≤ v ∧ v ≤ 24) → ∃ h', M_X5_best h nx (lo + 11) (zi w) (zi v) (zi q) = some (0, h', nx) ∧ IM lo h' 1 n A D sn S B G hr ro ∧ frM lo nx h h') ∧
      ((1 ≤ w ∧ w ≤ 24 ∧ 1 ≤ v ∧ v ≤ 24) ∧ ¬(0 ≤ q ∧ q ≤ 2) → ∃ h', M_X5_best h nx (lo + 11) (zi w) (zi v) (zi q) = some (0, h', nx) ∧ IM lo h' 2 n A D sn S B G hr ro ∧ frM lo nx h h') := by
  have key := p_X5best (nx := nx) J.1 J.2.1 (by omega) hw hv hq
  refine ⟨fun g => ?_, fun g => ⟨_, by rw [key, if_neg g], J.hT 1, frM_hT⟩, fun g => ⟨_, by rw [key, if_pos g.1, if_neg g.2], J.hT 2, frM_hT⟩⟩
  rw [if_pos g.1, if_pos g.2] at key
  exact ⟨_, _, key, by omega, (J.hT 0).fr fun q q1 q2 => hB_ne (by omega), fun q q1 q2 => (hB_ne (by omega)).trans (hT_ne (by omega))⟩
theorem c_advise (I : IC t0 lo h nx n A D sn S B G hr ro) : M_X4_advise h lo = some (zi (adS A n n).1) := by
  obtain ⟨qd, mc, mc', og, rf, ea, ea', P, Q, f1, f2, f3, f4, ⟨x1, x2⟩, ⟨w1, w2, w3, w4⟩, -⟩ := I
  exact p_X4advise x1 w1 w2
theorem m_advise (J : IM lo h th n A D sn S B G hr ro) : ∃ h', M_X5_advise h (lo + 11) = some (zi (adS A n n).1, h') ∧ IM lo h' 0 n A D sn S B G hr ro ∧ frM lo nx h h' := ⟨_, p_X5advise J.1 J.2.1, J.hT 0, frM_hT⟩
end ASKS
/-- what holds between the calls -/
def LI (t0 lo : Nat) (h : zH) (nx : Nat) : Prop := ∃ (th : Int32) (n : Nat) (A : Nat → Nat → Int) (D : Nat → Int32) (sn : Nat) (S : Nat → Nat → Int) (B : Nat → Int32) (G : Nat → Nat → Int32) (hr ro : Int32), IC t0 lo h nx n A D sn S B G hr ro ∧ IM lo h th n A D sn S B G hr ro ∧ ∃ f, h (lo + 18) = some (zL 1 f)
theorem IC.nx19 {t0 lo : Nat} {h : zH} {nx n : Nat} {A : Nat → Nat → Int} {D : Nat → Int32} {sn : Nat} {S : Nat → Nat → Int} {B : Nat → Int32} {G : Nat → Nat → Int32} {hr ro : Int32} (I : IC t0 lo h nx n A D sn S B G hr ro) : lo + 19 ≤ nx := by
  obtain ⟨qd, mc, mc', og, rf, ea, ea', P, Q, f1, f2, f3, f4, -, -, -, -, s, -⟩ := I
  exact s.2.1
theorem IC.x5 {t0 lo : Nat} {h : zH} {nx n : Nat} {A : Nat → Nat → Int} {D : Nat → Int32} {sn : Nat} {S : Nat → Nat → Int} {B : Nat → Int32} {G : Nat → Nat → Int32} {hr ro : Int32} (I : IC t0 lo h nx n A D sn S B G hr ro) : z_ck h lo 5 = some () := by
  obtain ⟨qd, mc, mc', og, rf, ea, ea', P, Q, f1, f2, f3, f4, ⟨x1, -⟩, -⟩ := I
  exact ck_of x1
theorem LI.ck {t0 lo : Nat} {h : zH} {nx : Nat} (L : LI t0 lo h nx) : z_ck h lo 5 = some () ∧ z_ck h (lo + 11) 6 = some () ∧ lo + 19 ≤ nx := by
  obtain ⟨th, n, A, D, sn, S, B, G, hr, ro, I, J, -⟩ := L
  exact ⟨I.x5, ck_of J.1, I.nx19⟩
theorem LI_step {t0 lo : Nat} {h1 h5 : zH} {n1 n5 n : Nat} {A : Nat → Nat → Int} {D : Nat → Int32} {sn : Nat} {S : Nat → Nat → Int} {B : Nat → Int32} {G : Nat → Nat → Int32} {hr ro th : Int32} {f : Nat → Int64} (I1 : IC t0 lo h1 n1 n A D sn S B G hr ro) (fr : frM lo n1 h1 h5) (J5 : IM lo h5 th n A D sn S B G hr ro) (ho : h1 (lo + 18) = some (zL 1 f)) (hn : n1 ≤ n5) : LI t0 lo h5 n5 ∧ h5 (lo + 18) = some (zL 1 f) := by
  have h19 := I1.nx19
  have e : h5 (lo + 18) = some (zL 1 f) := (fr _ (by omega) (by omega)).trans ho
  exact ⟨⟨th, n, A, D, sn, S, B, G, hr, ro, I1.fr (fun q hq => fr q (by omega) (by omega)) hn, J5, f, e⟩, e⟩
theorem LI_out {t0 lo : Nat} {h h' : zH} {nx' n n' : Nat} {A A' : Nat → Nat → Int} {D D' : Nat → Int32} {sn sn' : Nat} {S S' : Nat → Nat → Int} {B B' : Nat → Int32} {G G' : Nat → Nat → Int32} {hr ro hr' ro' th : Int32} (f : Nat → Int64) (I' : IC t0 lo h' nx' n' A' D' sn' S' B' G' hr' ro') (fr : frC lo h h') (J : IM lo h th n A D sn S B G hr ro) :
    IC t0 lo (z_up h' (lo + 18) (zL 1 f)) nx' n' A' D' sn' S' B' G' hr' ro' ∧ IM lo (z_up h' (lo + 18) (zL 1 f)) th n A D sn S B G hr ro :=
  ⟨I'.fr (fun q hq => up_ne (by omega)) (Nat.le_refl _), J.fr fun q q1 q2 => (up_ne (by omega)).trans (fr q q1 (by omega))⟩
theorem frC_rf {lo : Nat} {h : zH} : frC lo h h := fun _ _ _ => rfl
