/-! what is asked, under the invariant -/
section ASKS
variable {Z : Nat → Prop} {Z : Nat → Prop} {t0 lo : Nat} {h : zH} {nx n : Nat} {A : Nat → Nat → Int} {D : Nat → Int32} {sn : Nat} {S : Nat → Nat → Int} {B : Nat → Int32} {G : Nat → Nat → Int32} {hr ro th : Int32}
theorem c_about (I : IC Z t0 lo h nx n A D sn S B G hr ro) {a w : Int} (ha : -2147483648 ≤ a ∧ a < 2147483648) (hw : -2147483648 ≤ w ∧ w < 2147483648) : ((0 ≤ a ∧ a < n) ∧ 0 ≤ w ∧ w ≤ 8 → M_X4_about h lo (zi a) (zi w) = some (.inr (aboutS A n D a.toNat w))) ∧ (¬((0 ≤ a ∧ a < n) ∧ 0 ≤ w ∧ w ≤ 8) → M_X4_about h lo (zi a) (zi w) = some (.inl sIO)) := by
  obtain ⟨qd, mc, mc', og, rf, ea, ea', P, Q, f1, f2, f3, f4, ⟨x1, x2⟩, ⟨w1, w2, w3, w4⟩, -, ⟨t1, t2, t3⟩, -⟩ := I
  have key := p_X4about x1 w1 w2 ha hw
  exact ⟨fun g => by rw [key, if_pos g], fun g => by rw [key, if_neg g]⟩
theorem c_cell (I : IC Z t0 lo h nx n A D sn S B G hr ro) {a b w : Int} (ha : -2147483648 ≤ a ∧ a < 2147483648) (hb : -2147483648 ≤ b ∧ b < 2147483648) (hw : -2147483648 ≤ w ∧ w < 2147483648) : ((0 ≤ a ∧ a < 24 ∧ 0 ≤ b ∧ b < 24) ∧ 0 ≤ w ∧ w ≤ 2 → M_X4_cell h lo (zi a) (zi b) (zi w) = some (.inr (cellS A n G a b w))) ∧ (¬((0 ≤ a ∧ a < 24 ∧ 0 ≤ b ∧ b < 24) ∧ 0 ≤ w ∧ w ≤ 2) → M_X4_cell h lo (zi a) (zi b) (zi w) = some (.inl sIO)) := by
  obtain ⟨qd, mc, mc', og, rf, ea, ea', P, Q, f1, f2, f3, f4, ⟨x1, x2⟩, ⟨w1, w2, w3, w4⟩, -, ⟨t1, t2, t3⟩, -⟩ := I
  have key := p_X4cell x1 w1 w2 x2 ha hb hw
  exact ⟨fun g => by rw [key, if_pos g], fun g => by rw [key, if_neg g]⟩
theorem c_cord (I : IC Z t0 lo h nx n A D sn S B G hr ro) {a w : Int} (ha : -2147483648 ≤ a ∧ a < 2147483648) (hw : -2147483648 ≤ w ∧ w < 2147483648) : (0 ≤ a ∧ a < 24 ∧ 0 ≤ w ∧ w ≤ 3 → M_X4_cord h lo (zi a) (zi w) = some (.inr (zi (cordS A n a w)))) ∧ (¬(0 ≤ a ∧ a < 24 ∧ 0 ≤ w ∧ w ≤ 3) → M_X4_cord h lo (zi a) (zi w) = some (.inl sIO)) := by
  obtain ⟨qd, mc, mc', og, rf, ea, ea', P, Q, f1, f2, f3, f4, ⟨x1, x2⟩, ⟨w1, w2, w3, w4⟩, -, ⟨t1, t2, t3⟩, -⟩ := I
  have key := p_X4cord x1 w1 w2 ha hw
  exact ⟨fun g => by rw [key, if_pos g], fun g => by rw [key, if_neg g]⟩
theorem c_told (I : IC Z t0 lo h nx n A D sn S B G hr ro) {a w : Int} (ha : -2147483648 ≤ a ∧ a < 2147483648) (hw : -2147483648 ≤ w ∧ w < 2147483648) : ((0 ≤ a ∧ a < sn) ∧ 0 ≤ w ∧ w ≤ 3 → M_X4_told h lo (zi a) (zi w) = some (.inr (toldS A n G S B a.toNat w))) ∧ (¬((0 ≤ a ∧ a < sn) ∧ 0 ≤ w ∧ w ≤ 3) → M_X4_told h lo (zi a) (zi w) = some (.inl sIO)) := by
  obtain ⟨qd, mc, mc', og, rf, ea, ea', P, Q, f1, f2, f3, f4, ⟨x1, x2⟩, ⟨w1, w2, w3, w4⟩, -, ⟨t1, t2, t3⟩, -⟩ := I
  have key := p_X4told x1 w1 w2 x2 t1 t2 ha hw
  exact ⟨fun g => by rw [key, if_pos g], fun g => by rw [key, if_neg g]⟩
theorem c_share (I : IC Z t0 lo h nx n A D sn S B G hr ro) {a w : Int} (ha : -2147483648 ≤ a ∧ a < 2147483648) (hw : -2147483648 ≤ w ∧ w < 2147483648) : ((0 ≤ a ∧ a < n) ∧ 0 ≤ w ∧ w < n → M_X4_share h lo (zi a) (zi w) = some (.inr (zi (shrS A a.toNat w.toNat)))) ∧ (¬((0 ≤ a ∧ a < n) ∧ 0 ≤ w ∧ w < n) → M_X4_share h lo (zi a) (zi w) = some (.inl sIO)) := by
  obtain ⟨qd, mc, mc', og, rf, ea, ea', P, Q, f1, f2, f3, f4, ⟨x1, x2⟩, ⟨w1, w2, w3, w4⟩, -, ⟨t1, t2, t3⟩, -⟩ := I
  have key := p_X4share x1 w1 ha hw
  exact ⟨fun g => by rw [key, if_pos g], fun g => by rw [key, if_neg g]⟩
theorem c_advise (I : IC Z t0 lo h nx n A D sn S B G hr ro) : M_X4_advise h lo = some (zi (adS A n n).1) := by
  obtain ⟨qd, mc, mc', og, rf, ea, ea', P, Q, f1, f2, f3, f4, ⟨x1, x2⟩, ⟨w1, w2, w3, w4⟩, -⟩ := I
  exact p_X4advise x1 w1 w2
end ASKS
theorem IC.nx19 {Z : Nat → Prop} {t0 lo : Nat} {h : zH} {nx n : Nat} {A : Nat → Nat → Int} {D : Nat → Int32} {sn : Nat} {S : Nat → Nat → Int} {B : Nat → Int32} {G : Nat → Nat → Int32} {hr ro : Int32} (I : IC Z t0 lo h nx n A D sn S B G hr ro) : lo + 19 ≤ nx := by
  obtain ⟨qd, mc, mc', og, rf, ea, ea', P, Q, f1, f2, f3, f4, -, -, -, -, s, -⟩ := I
  exact s.2.1
theorem IC.x5 {Z : Nat → Prop} {t0 lo : Nat} {h : zH} {nx n : Nat} {A : Nat → Nat → Int} {D : Nat → Int32} {sn : Nat} {S : Nat → Nat → Int} {B : Nat → Int32} {G : Nat → Nat → Int32} {hr ro : Int32} (I : IC Z t0 lo h nx n A D sn S B G hr ro) : z_ck h lo 5 = some () := by
  obtain ⟨qd, mc, mc', og, rf, ea, ea', P, Q, f1, f2, f3, f4, ⟨x1, -⟩, -⟩ := I
  exact ck_of x1
theorem frC_rf {Z : Nat → Prop} {h : zH} : frC Z h h := fun _ _ => rfl
