/-! move, by the class -/
theorem p_room {x y w v : Int} (hx : -2147483648 ≤ x ∧ x < 2147483648) (hy : -2147483648 ≤ y ∧ y < 2147483648) (hw : 1 ≤ w ∧ w ≤ 24) (hv : 1 ≤ v ∧ v ≤ 24) :
    M_X4_requireRoomInSquare (zi x) (zi y) (zi w) (zi v) = some (if 0 ≤ x ∧ x ≤ 24 - w ∧ 0 ≤ y ∧ y ≤ 24 - v then .inr () else .inl sIO) := by
  simp (disch := omega) only [M_X4_requireRoomInSquare, n_0, n_24, zi_sub, zi_lt, zi_le, zi_eq]
  repeat' split
  all_goals first | rfl | omega
def movA (a : Nat → Int) (x y : Int) : Nat → Int := fun k => if k = 0 then x else if k = 1 then y else a k
theorem movA_ok {a : Nat → Int} {x y : Int} (o : okA a) (h : 0 ≤ x ∧ x ≤ 24 - a 2 ∧ 0 ≤ y ∧ y ≤ 24 - a 3) : okA (movA a x y) := by
  unfold okA at o
  simp only [okA, movA]
  simp
  omega
theorem kW_hL {h : zH} {c : Nat} {qd mc : Int32} {ea n : Nat} {P : Nat → Nat} {A : Nat → Nat → Int} {D : Nat → Int32} {A' : Nat → Nat → Int} (k : kW h c qd mc ea n P A D) (e2 : ∀ q, inW c ea n P q → q ≠ c + 2) : kW (hL c A' n h) c qd mc ea n P A D := kW_eq (fun q hq => up_ne (e2 q hq)) k
theorem p_X4move {h : zH} {x c s sl g : Nat} {hr gd go qd mc : Int32} {ea n : Nat} {P : Nat → Nat} {A : Nat → Nat → Int} {D : Nat → Int32} {f : Nat → Int32} (kx : kX h x c s sl g hr gd go) (k : kW h c qd mc ea n P A D) (e : sepP c ea n P) (e2 : ∀ q, inW c ea n P q → q ≠ c + 2) (hx : ∀ i, i < n → P i ≠ x) (hxc : x ≠ c + 2) (hf : h (c + 2) = some (cA 576 f))
    {a X Y : Int} (ha : -2147483648 ≤ a ∧ a < 2147483648) (hX : -2147483648 ≤ X ∧ X < 2147483648) (hY : -2147483648 ≤ Y ∧ Y < 2147483648) :
    M_X4_move h x (zi a) (zi X) (zi Y) = some (if (0 ≤ a ∧ a < n) ∧ 0 ≤ X ∧ X ≤ 24 - A a.toNat 2 ∧ 0 ≤ Y ∧ Y ≤ 24 - A a.toNat 3 then
      .inr (zi (tot fun p q => b1 (decide (1 ≤ lay (upA A a.toNat (movA (A a.toNat) X Y)) n p q))), hL c (upA A a.toNat (movA (A a.toNat) X Y)) n (z_up h (P a.toNat) (oA (movA (A a.toNat) X Y) (D a.toNat)))) else .inl sIO) := by
  have hn := k.2.1.2.1
  simp only [M_X4_move, gR_of kx (k := 0) rfl, ck_of k.1, ob_some, p_numbered k.1 k.2.1 (fun i hi => (k.2.2 i hi).1) ha, z_tb]
  by_cases h1 : 0 ≤ a ∧ a < n
  · obtain ⟨i, rfl⟩ : ∃ i : Nat, a = i := ⟨a.toNat, by omega⟩
    have hi : i < n := by omega
    have hp := (k.2.2 i hi).1
    have o := (k.2.2 i hi).2
    have o' := o
    unfold okA at o'
    rw [if_pos h1]
    simp only [ob_some, Int.toNat_natCast, gI_of hp (k := 2) rfl, gI_of hp (k := 3) rfl, p_room hX hY (w := A i 2) (v := A i 3) (by omega) (by omega)]
    by_cases h2 : 0 ≤ X ∧ X ≤ 24 - A i 2 ∧ 0 ≤ Y ∧ Y ≤ 24 - A i 3
    · have k' := kW_set k e hi (a := movA (A i) X Y) (d := D i) (movA_ok o h2)
      have kx' : kX (z_up h (P i) (oA (movA (A i) X Y) (D i))) x c s sl g hr gd go := (up_ne (fun q => hx i hi q.symm)).trans kx
      have hf' : z_up h (P i) (oA (movA (A i) X Y) (D i)) (c + 2) = some (cA 576 f) := (up_ne (fun q => (e i hi).2.2.1 q.symm)).trans hf
      have kL' := kW_hL (A' := upA A i (movA (A i) X Y)) k' e2
      have kxL : kX (hL c (upA A i (movA (A i) X Y)) n (z_up h (P i) (oA (movA (A i) X Y) (D i)))) x c s sl g hr gd go := (up_ne hxc).trans kx'
      have hcov : M_X1_covered (hL c (upA A i (movA (A i) X Y)) n (z_up h (P i) (oA (movA (A i) X Y) (D i)))) c = some (zi (tot fun p q => b1 (decide (1 ≤ lay (upA A i (movA (A i) X Y)) n p q)))) := by
        rw [M_X1_covered, ck_of kL'.1, Option.bind_some, n_1, p_cells hn kL'.1 (up_at ..) (by omega)]
        rfl
      have hput : ((z_pV h (P i) 1 0 (.int (zi X))).bind fun h_7 => z_pV h_7 (P i) 1 1 (.int (zi Y))) = some (z_up h (P i) (oA (movA (A i) X Y) (D i))) := by
        rw [pV_of hp (k := 0) (by simp), Option.bind_some, pV_of (up_at _ _ _) (k := 1) (by simp), up_up]
        simp only [List.set, movA]
        rfl
      obtain ⟨h7, g7, g8⟩ := Option.bind_eq_some_iff.mp hput
      rw [if_pos h2, if_pos (c := (0 ≤ (i : Int) ∧ _) ∧ _) ⟨h1, h2⟩]
      simp only []
      rw [g7, ob_some, g8, ob_some, gR_of kx' (k := 0) rfl, ob_some, ck_of k'.1, ob_some, p_layOut k' e2 hf', ob_some, gR_of kxL (k := 0) rfl, ob_some, ck_of kL'.1, ob_some, hcov, ob_some]
    · rw [if_neg h2, if_neg (c := (0 ≤ (i : Int) ∧ _) ∧ _) (fun h => h2 h.2)]
  · rw [if_neg h1, if_neg (c := (0 ≤ a ∧ _) ∧ _) (fun h => h1 h.1)]
    rfl
