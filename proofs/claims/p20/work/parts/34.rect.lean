/-! counts over a rectangle -/
theorem sm_rect1 {x w : Nat} (f : Nat → Int) (h : x + w ≤ 24) : sm w (fun k => f (x + k)) = sm 24 fun i => if x ≤ i ∧ i < x + w then f i else 0 := by
  rw [sm_cut (a := x + w) (b := 24) (fun k hk => if_neg (by omega)) h, sm_split]
  have h1 : sm x (fun i => if x ≤ i ∧ i < x + w then f i else 0) = 0 := by
    rw [sm_congr (g := fun _ => 0) fun k hk => if_neg (by omega), sm_zero]
  have h2 : sm w (fun k => if x ≤ x + k ∧ x + k < x + w then f (x + k) else 0) = sm w fun k => f (x + k) := sm_congr fun k hk => if_pos (by omega)
  rw [h1, h2]
  omega
theorem sm_rect {x y w v : Nat} (g : Nat → Nat → Int) (hx : x + w ≤ 24) (hy : y + v ≤ 24) :
    sm v (fun j => sm w fun k => g (x + k) (y + j)) = tot fun p q => if x ≤ p ∧ p < x + w ∧ y ≤ q ∧ q < y + v then g p q else 0 := by
  have h1 : sm v (fun j => sm w fun k => g (x + k) (y + j)) = sm v fun j => sm 24 fun p => if x ≤ p ∧ p < x + w then g p (y + j) else 0 := sm_congr fun j _ => sm_rect1 (fun p => g p (y + j)) hx
  rw [h1, sm_rect1 (fun q => sm 24 fun p => if x ≤ p ∧ p < x + w then g p q else 0) hy, tot, sm_swap]
  refine sm_congr fun q _ => ?_
  by_cases h2 : y ≤ q ∧ q < y + v
  · rw [if_pos h2]
    refine sm_congr fun p _ => ?_
    by_cases h3 : x ≤ p ∧ p < x + w
    · rw [if_pos h3, if_pos ⟨h3.1, h3.2, h2⟩]
    · rw [if_neg h3, if_neg (fun h => h3 ⟨h.1, h.2.1⟩)]
  · rw [if_neg h2, sm_congr (g := fun _ => 0) (fun p _ => if_neg fun h => h2 h.2.2), sm_zero]
theorem sm_b1_bd (n : Nat) (f : Nat → Bool) : 0 ≤ sm n (fun k => b1 (f k)) ∧ sm n (fun k => b1 (f k)) ≤ n := by
  have := sm_bd (n := n) (f := fun k => b1 (f k)) (B := 1) fun i _ => b1_bd _
  omega
def ownS (A : Nat → Nat → Int) (n a : Nat) : Int := tot fun x y => b1 (cv (A a) x y && decide (lay A n x y = 1))
theorem p_only {h : zH} {c : Nat} {qd mc : Int32} {ea n : Nat} {P : Nat → Nat} {A : Nat → Nat → Int} {D : Nat → Int32} (k : kW h c qd mc ea n P A D) (hl : kLy h c n A) {i : Nat} (hi : i < n) :
    M_X1_coveredOnlyBy h c (P i) = some (zi (ownS A n i)) := by
  have hn := k.2.1.2.1
  have ho : ∀ i, i < n → okA (A i) := fun i hi => (k.2.2 i hi).2
  have hp := (k.2.2 i hi).1
  have o := ho i hi
  unfold okA at o
  have h6 : (zi (A i 6) = 0) = (A i 6 = 0) := zi_eq (b := 0) (by omega) (by omega) (by omega) (by omega)
  simp only [M_X1_coveredOnlyBy, gI_of hp (k := 6) rfl, gI_of hp (k := 1) rfl, Option.bind_some, h6]
  by_cases hz : A i 6 = 0
  · rw [if_pos hz, ownS, tot, sm_congr (g := fun _ => 0), sm_zero, n_0]
    intro x _
    rw [sm_congr (g := fun _ => 0), sm_zero]
    intro y _
    rw [cv_f (by omega)]
    rfl
  · rw [if_neg hz]
    obtain ⟨x0, hx0⟩ : ∃ x0 : Nat, A i 0 = x0 := ⟨(A i 0).toNat, by omega⟩
    obtain ⟨y0, hy0⟩ : ∃ y0 : Nat, A i 1 = y0 := ⟨(A i 1).toNat, by omega⟩
    obtain ⟨w, hw⟩ : ∃ w : Nat, A i 2 = w := ⟨(A i 2).toNat, by omega⟩
    obtain ⟨v, hv⟩ : ∃ v : Nat, A i 3 = v := ⟨(A i 3).toNat, by omega⟩
    have hS : ownS A n i = sm v fun j => sm w fun t => b1 (decide (lay A n (x0 + t : Nat) (y0 + j : Nat) = 1)) := by
      rw [sm_rect (fun p q => b1 (decide (lay A n (p : Nat) (q : Nat) = 1))) (by omega) (by omega), ownS]
      refine sm_congr fun p _ => sm_congr fun q _ => ?_
      show b1 (cv (A i) p q && decide (lay A n p q = 1)) = if x0 ≤ p ∧ p < x0 + w ∧ y0 ≤ q ∧ q < y0 + v then b1 (decide (lay A n p q = 1)) else 0
      by_cases h1 : x0 ≤ p ∧ p < x0 + w ∧ y0 ≤ q ∧ q < y0 + v
      · rw [if_pos h1, cv_t (by omega), Bool.true_and]
      · rw [if_neg h1, cv_f (by omega)]; rfl
    rw [hS]
    refine wl2_st (fun j => zi (sm j fun j => sm w fun t => b1 (decide (lay A n (x0 + t : Nat) (y0 + j : Nat) = 1)))) (fun j => zi (y0 + j : Nat)) v n_0 (by rw [hy0]; rfl) ?_ ?_ 700 (by omega)
    · intro rec j hj
      simp (disch := omega) only [gI_of hp (k := 1) rfl, gI_of hp (k := 3) rfl, gI_of hp (k := 0) rfl, Option.bind_some, zi_add, zi_le]
      rw [if_neg (by omega)]
      refine wl2_st (fun t' => zi (sm j (fun j => sm w fun t => b1 (decide (lay A n (x0 + t : Nat) (y0 + j : Nat) = 1))) + sm t' fun t => b1 (decide (lay A n (x0 + t : Nat) (y0 + j : Nat) = 1)))) (fun t => zi (x0 + t : Nat)) w (by rw [sm, Int.add_zero]) (by rw [hx0]; rfl) ?_ ?_ 700 (by omega)
      · intro rec2 t ht
        have hb := lay_bd A n (x0 + t : Nat) (y0 + j : Nat)
        simp (disch := omega) only [gI_of hp (k := 0) rfl, gI_of hp (k := 2) rfl, Option.bind_some, zi_add, zi_le, ck_of k.1, p_at k.1 hl _ _ ho, jn1, n_1, zi_eq]
        rw [if_neg (by omega)]
        simp only [sm, ← Nat.add_assoc, Int.natCast_add, Int.natCast_one, ← Int.add_assoc]
        by_cases h1 : lay A n ((x0 : Int) + t) ((y0 : Int) + j) = 1
        · rw [if_pos h1, decide_eq_true h1]; rfl
        · rw [if_neg h1, decide_eq_false h1]; simp [b1]
      · intro rec2
        simp (disch := omega) only [gI_of hp (k := 0) rfl, gI_of hp (k := 2) rfl, Option.bind_some, zi_add, zi_le, n_1]
        rw [if_pos (by omega)]
        simp only [sm, ← Nat.add_assoc, Int.natCast_add, Int.natCast_one]
    · intro rec
      simp (disch := omega) only [gI_of hp (k := 1) rfl, gI_of hp (k := 3) rfl, Option.bind_some, zi_add, zi_le]
      rw [if_pos (by omega)]
