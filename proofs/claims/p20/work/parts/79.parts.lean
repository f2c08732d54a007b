/-! THE SIM: parts, by names -/
def hN (nx : Nat) (N : Nat → Nat → Int) (h : zH) : zH := fun q => if q = nx then some (zD 26 fun j => if j < 26 then some (nx + 1 + j) else none) else if nx < q ∧ q ≤ nx + 26 then some (cA 26 fun p => zi (N (q - nx - 1) p)) else h q
section HN
variable {nx : Nat} {N : Nat → Nat → Int} {h : zH}
theorem hN_r {j : Nat} (hj : j < 26) : hN nx N h (nx + 1 + j) = some (cA 26 fun p => zi (N j p)) := by
  rw [hN, if_neg (by omega), if_pos (by omega), show nx + 1 + j - nx - 1 = j by omega]
theorem hN_ne {q : Nat} (hq : q < nx) : hN nx N h q = h q := by rw [hN, if_neg (by omega), if_neg (by omega)]
theorem hN_c {j : Nat} (hj : j < 26) : z_aD (hN nx N h) nx (zi (j : Int)) = some (nx + 1 + j) := by
  have e : hN nx N h nx = some (zD 26 fun j => if j < 26 then some (nx + 1 + j) else none) := by rw [hN, if_pos rfl]
  rw [aD_of e (by omega) (by omega) (by omega), Int.toNat_natCast, if_pos hj]
theorem hN_at {j p : Nat} (hj : j < 26) (hp : p < 26) : z_aI (hN nx N h) (nx + 1 + j) (zi (p : Int)) = some (zi (N j p)) := by
  rw [cI_of (hN_r hj) (by omega) (by omega) (by omega), Int.toNat_natCast]
def upN (N : Nat → Nat → Int) (x y : Nat) (v : Int) : Nat → Nat → Int := fun i j => if i = x ∧ j = y then v else N i j
theorem hN_set {j p : Nat} {v : Int} (hj : j < 26) (hp : p < 26) : z_sI (hN nx N h) (nx + 1 + j) (zi (p : Int)) (zi v) = some (hN nx (upN N j p v) h) := by
  rw [csI_of (hN_r hj) (by omega) (by omega) (by omega), Int.toNat_natCast]
  refine congrArg some (funext fun q => ?_)
  by_cases g : q = nx + 1 + j
  · rw [g, up_at, hN_r hj]
    refine congrArg some (cA_congr fun z hz => ?_)
    unfold upN
    by_cases g2 : z = p
    · rw [if_pos g2, if_pos ⟨rfl, g2⟩]
    · rw [if_neg g2, if_neg (fun q => g2 q.2)]
  · rw [up_ne g]
    unfold hN
    by_cases g1 : q = nx
    · rw [if_pos g1, if_pos g1]
    · rw [if_neg g1, if_neg g1]
      by_cases g2 : nx < q ∧ q ≤ nx + 26
      · rw [if_pos g2, if_pos g2]
        refine congrArg some (cA_congr fun z hz => ?_)
        unfold upN
        rw [if_neg (fun q => by omega)]
      · rw [if_neg g2, if_neg g2]
theorem hN_0 : z_mm h nx 26 26 = hN nx (fun _ _ => 0) h := by
  funext q
  unfold z_mm hN
  by_cases g1 : q = nx
  · rw [if_pos g1, if_pos g1]
  · rw [if_neg g1, if_neg g1]
    by_cases g2 : nx < q ∧ q ≤ nx + 26
    · rw [if_pos g2, if_pos g2]
      exact congrArg some (zc0 26)
    · rw [if_neg g2, if_neg g2]
end HN
def lb (x y : Nat) : Int := 1 + 24 * (x : Int) + y
/-- names: of cells of the same part, none below the own one -/
def gN (V : Nat → Nat → Bool) (N : Nat → Nat → Int) : Prop :=
  (∀ i j, ¬(∃ x y, i = x + 1 ∧ j = y + 1 ∧ V x y = true) → N i j = 0) ∧ ∀ x y, V x y = true → lb x y ≤ N (x + 1) (y + 1) ∧ ∃ u v, cn V x y u v ∧ N (x + 1) (y + 1) = lb u v
theorem gN_bd {V : Nat → Nat → Bool} {N : Nat → Nat → Int} (hV : inQ V) (g : gN V N) (i j : Nat) : 0 ≤ N i j ∧ N i j ≤ 576 := by
  by_cases h : ∃ x y, i = x + 1 ∧ j = y + 1 ∧ V x y = true
  · obtain ⟨x, y, rfl, rfl, hv⟩ := h
    obtain ⟨-, u, v, g2, g3⟩ := g.2 x y hv
    have := hV u v (cn_in g2 hv)
    rw [g3]
    unfold lb
    omega
  · rw [g.1 i j h]; omega
theorem gN_pos {V : Nat → Nat → Bool} {N : Nat → Nat → Int} (g : gN V N) {i j : Nat} (h : 0 < N i j) : ∃ x y, i = x + 1 ∧ j = y + 1 ∧ V x y = true := by
  refine Classical.byContradiction fun q => ?_
  have := g.1 i j q
  omega
/-- the greatest name beside -/
def mx (a b : Int) : Int := if a < b then b else a
def msN (N : Nat → Nat → Int) (x y : Nat) : Int := mx (mx (N x (y + 1)) (N (x + 2) (y + 1))) (mx (N (x + 1) y) (N (x + 1) (y + 2)))
theorem msN_of (N : Nat → Nat → Int) (x y : Nat) : (N x (y + 1) ≤ msN N x y ∧ N (x + 2) (y + 1) ≤ msN N x y ∧ N (x + 1) y ≤ msN N x y ∧ N (x + 1) (y + 2) ≤ msN N x y) ∧ (msN N x y = N x (y + 1) ∨ msN N x y = N (x + 2) (y + 1) ∨ msN N x y = N (x + 1) y ∨ msN N x y = N (x + 1) (y + 2)) := by
  unfold msN mx
  repeat' split
  all_goals omega
def stb (N : Nat → Nat → Int) (x y : Nat) : Prop := N (x + 1) (y + 1) = 0 ∨ msN N x y ≤ N (x + 1) (y + 1)
theorem gN_up {V : Nat → Nat → Bool} {N : Nat → Nat → Int} {x y : Nat} (g : gN V N) (h0 : N (x + 1) (y + 1) ≠ 0) (hb : 0 ≤ N (x + 1) (y + 1)) (h1 : N (x + 1) (y + 1) < msN N x y) : gN V (upN N (x + 1) (y + 1) (msN N x y)) := by
  obtain ⟨x', y', e1, e2, hv⟩ := gN_pos g (show 0 < N (x + 1) (y + 1) by omega)
  obtain rfl : x' = x := by omega
  obtain rfl : y' = y := by omega
  refine ⟨fun i j h => ?_, fun a b hab => ?_⟩
  · unfold upN
    rw [if_neg (fun q => h ⟨x', y', q.1, q.2, hv⟩)]
    exact g.1 i j h
  · unfold upN
    by_cases q : a + 1 = x' + 1 ∧ b + 1 = y' + 1
    · rw [if_pos q]
      obtain rfl : a = x' := by omega
      obtain rfl : b = y' := by omega
      have h2 := (g.2 a b hab).1
      refine ⟨by omega, ?_⟩
      have key : ∀ i j, 0 < N i j → (∀ u v, i = u + 1 → j = v + 1 → adj a b u v) → ∃ u v, cn V a b u v ∧ N i j = lb u v := by
        intro i j hp ha
        obtain ⟨u, v, q1, q2, q3⟩ := gN_pos g hp
        obtain ⟨-, u', v', q4, q5⟩ := g.2 u v q3
        exact ⟨u', v', cn_tr (cn_st (cn_rf V a b) q3 (ha u v q1 q2)) q4, by rw [q1, q2]; exact q5⟩
      rcases (msN_of N a b).2 with e | e | e | e <;> rw [e] at h1 ⊢
      · exact key _ _ (by omega) fun u v q1 q2 => by unfold adj; omega
      · exact key _ _ (by omega) fun u v q1 q2 => by unfold adj; omega
      · exact key _ _ (by omega) fun u v q1 q2 => by unfold adj; omega
      · exact key _ _ (by omega) fun u v q1 q2 => by unfold adj; omega
    · rw [if_neg q]
      exact g.2 a b hab
def pot (N : Nat → Nat → Int) : Int := tot fun x y => N (x + 1) (y + 1)
theorem pot_up {N : Nat → Nat → Int} {x y : Nat} (hx : x < 24) (hy : y < 24) (v : Int) : pot (upN N (x + 1) (y + 1) v) = pot N + (v - N (x + 1) (y + 1)) := by
  unfold pot
  rw [← tot_add2 _ _ hx hy]
  refine tot_congr fun a b _ _ => ?_
  unfold upN add2
  by_cases q : a = x ∧ b = y
  · obtain ⟨rfl, rfl⟩ := q
    rw [if_pos ⟨rfl, rfl⟩, if_pos ⟨rfl, rfl⟩]
    show v = N (a + 1) (b + 1) + (v - N (a + 1) (b + 1))
    omega
  · rw [if_neg (by omega), if_neg q]
theorem pot_bd {V : Nat → Nat → Bool} {N : Nat → Nat → Int} (hV : inQ V) (g : gN V N) : 0 ≤ pot N ∧ pot N ≤ 331776 := by
  have h1 : ∀ x, x < 24 → 0 ≤ sm 24 (fun y => N (x + 1) (y + 1)) ∧ sm 24 (fun y => N (x + 1) (y + 1)) ≤ 13824 := fun x _ => by
    have := sm_bd (n := 24) (f := fun y => N (x + 1) (y + 1)) (B := 576) fun y _ => gN_bd hV g _ _
    omega
  have := sm_bd (n := 24) (f := fun x => sm 24 fun y => N (x + 1) (y + 1)) (B := 13824) h1
  show 0 ≤ (sm 24 fun x => sm 24 fun y => N (x + 1) (y + 1)) ∧ (sm 24 fun x => sm 24 fun y => N (x + 1) (y + 1)) ≤ 331776
  omega
/-- where nothing moves, names tell the parts -/
theorem stb_cn {V : Nat → Nat → Bool} {N : Nat → Nat → Int} (hV : inQ V) (g : gN V N) (hs : ∀ x y, x < 24 → y < 24 → stb N x y) {x y u v : Nat} (hv : V x y = true) (h : cn V x y u v) : N (u + 1) (v + 1) = N (x + 1) (y + 1) := by
  have one : ∀ a b c d, V a b = true → V c d = true → adj a b c d → N (c + 1) (d + 1) ≤ N (a + 1) (b + 1) := by
    intro a b c d h1 h2 h3
    have h4 := hV a b h1
    have h5 := (g.2 a b h1).1
    have h6 := (msN_of N a b).1
    rcases hs a b h4.1 h4.2 with h7 | h7
    · unfold lb at h5; omega
    · unfold adj at h3
      rcases h3 with ⟨rfl, h8 | h8⟩ | ⟨rfl, h8 | h8⟩
      · have : N (a + 1) (d + 1) = N (a + 1) (b + 2) := by rw [← h8]
        omega
      · have : N (a + 1) (d + 1) = N (a + 1) b := by rw [h8]
        omega
      · have : N (c + 1) (b + 1) = N (a + 2) (b + 1) := by rw [← h8]
        omega
      · have : N (c + 1) (b + 1) = N a (b + 1) := by rw [h8]
        omega
  have key := h (fun a b => V a b = true ∧ N (a + 1) (b + 1) = N (x + 1) (y + 1)) ⟨hv, rfl⟩ fun a b c d h1 h2 h3 => by
    have := one a b c d h1.1 h2 h3
    have := one c d a b h2 h1.1 (adj_sym h3)
    exact ⟨h2, by have := h1.2; omega⟩
  exact key.2
theorem stb_cnt {V : Nat → Nat → Bool} {N : Nat → Nat → Int} (hV : inQ V) (g : gN V N) (hs : ∀ x y, x < 24 → y < 24 → stb N x y) : (tot fun x y => b1 (decide (N (x + 1) (y + 1) = lb x y))) = pcnt V V := by
  have h0 : ∀ x y, N (x + 1) (y + 1) = lb x y → V x y = true := fun x y h => by
    obtain ⟨a, b, e1, e2, e3⟩ := gN_pos g (show 0 < N (x + 1) (y + 1) by rw [h]; unfold lb; omega)
    obtain rfl : a = x := by omega
    obtain rfl : b = y := by omega
    exact e3
  refine pcnt_one hV ⟨fun x y h => h0 x y (of_decide_eq_true h), fun x y h => ?_, fun x y u v h1 h2 h3 => ?_⟩
  · obtain ⟨-, u, v, h1, h2⟩ := g.2 x y h
    exact ⟨u, v, h1, decide_eq_true ((stb_cn hV g hs h h1).trans h2)⟩
  · have e1 := of_decide_eq_true h1
    have e2 := of_decide_eq_true h2
    have e3 := stb_cn hV g hs (h0 x y e1) h3
    have a1 := hV x y (h0 x y e1)
    have a2 := hV u v (h0 u v e2)
    rw [e1, e2] at e3
    unfold lb at e3
    omega
theorem zi_mx {a b : Int} (ha : 0 ≤ a ∧ a ≤ 576) (hb : 0 ≤ b ∧ b ≤ 576) : (if zi a < zi b then zi b else zi a) = zi (mx a b) := by
  have e : (zi a < zi b) = (a < b) := zi_lt (by omega) (by omega) (by omega) (by omega)
  unfold mx
  by_cases q : a < b
  · rw [if_pos (by rw [e]; exact q), if_pos q]
  · rw [if_neg (by rw [e]; exact q), if_neg q]
theorem mx_bd {a b : Int} (ha : 0 ≤ a ∧ a ≤ 576) (hb : 0 ≤ b ∧ b ≤ 576) : 0 ≤ mx a b ∧ mx a b ≤ 576 := by
  unfold mx
  split <;> omega
