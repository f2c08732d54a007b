/-! the outline -/
def pq (A : Nat → Nat → Int) (n : Nat) (x y : Int) : Bool := decide (0 < lay A n x y)
theorem pq_out {A : Nat → Nat → Int} {n : Nat} {x y : Int} (ho : ∀ i, i < n → okA (A i)) (h : ¬(0 ≤ x ∧ x < 24 ∧ 0 ≤ y ∧ y < 24)) : pq A n x y = false := decide_eq_false (by rw [lay_out ho h]; omega)
def olS (A : Nat → Nat → Int) (n : Nat) (x y : Nat) : Int :=
  b1 (pq A n x y && !pq A n ((x : Int) - 1) y) + b1 (pq A n x y && !pq A n x ((y : Int) - 1)) + b1 (pq A n x y && !pq A n ((x : Int) + 1) y) + b1 (pq A n x y && !pq A n x ((y : Int) + 1))
theorem p_openAt {h : zH} {c n : Nat} {qd : Int32} {A : Nat → Nat → Int} (hn : n ≤ 10) (hc : kC h c qd) (hl : kLy h c n A) (ho : ∀ i, i < n → okA (A i)) {x y : Int} (hx : -100 ≤ x ∧ x ≤ 100) (hy : -100 ≤ y ∧ y ≤ 100) :
    M_X1_openAt h c (zi x) (zi y) = some (zi (b1 (!pq A n x y))) := by
  have hb := lay_bd A n x y
  have e4 : (zi (lay A n x y) = 0) = (lay A n x y = 0) := zi_eq (b := 0) (by omega) (by omega) (by omega) (by omega)
  simp only [M_X1_openAt, ck_of hc, Option.bind_some, p_at hc hl hx hy ho, e4, pq]
  by_cases h1 : lay A n x y = 0
  · rw [if_pos h1, decide_eq_false (by omega)]; rfl
  · rw [if_neg h1, decide_eq_true (by omega)]; rfl
theorem p_coutline {h : zH} {c n : Nat} {qd : Int32} {A : Nat → Nat → Int} (hn : n ≤ 10) (hc : kC h c qd) (hl : kLy h c n A) (ho : ∀ i, i < n → okA (A i)) : M_X1_outline h c = some (zi (tot (olS A n))) := by
  rw [tot, sm_swap]
  unfold M_X1_outline
  refine wl2_st (fun y => zi (sm y fun y => sm 24 fun x => olS A n x y)) (fun y => zi (y : Int)) 24 n_0 n_0 ?_ ?_ 700 (by omega)
  · intro rec y hy
    simp (disch := omega) only [n_24, zi_le]
    rw [if_neg (by omega)]
    refine wl2_st (fun x => zi ((sm y fun y => sm 24 fun x => olS A n x y) + sm x fun x => olS A n x y)) (fun x => zi (x : Int)) 24 (by rw [sm, Int.add_zero]) n_0 ?_ ?_ 700 (by omega)
    · intro rec2 x hx
      have hb := lay_bd A n x y
      have e4 : (zi (lay A n x y) ≤ 0) = (lay A n x y ≤ 0) := zi_le (b := 0) (by omega) (by omega) (by omega) (by omega)
      have o1 : M_X1_openSides h c (zi x) (zi y) = some (zi (b1 (!pq A n ((x : Int) - 1) y) + b1 (!pq A n x ((y : Int) - 1)) + b1 (!pq A n ((x : Int) + 1) y) + b1 (!pq A n x ((y : Int) + 1)))) := by
        simp (disch := omega) only [M_X1_openSides, ck_of hc, Option.bind_some, n_1, zi_add, zi_sub, p_openAt hn hc hl ho]
      simp (disch := omega) only [zi_le, ck_of hc, Option.bind_some, p_at hc hl _ _ ho, e4, jn1, o1]
      rw [if_neg (by omega)]
      by_cases h1 : lay A n x y ≤ 0
      · rw [if_pos h1, n_1, zi_add, Int.natCast_add, Int.natCast_one]
        refine congrArg (fun z => rec2 (zi z) _) ?_
        show _ = _ + (sm x _ + olS A n x y)
        have h2 : pq A n x y = false := decide_eq_false (by omega)
        simp only [olS, h2, Bool.false_and, b1, Bool.false_eq_true, if_false, Int.add_zero]
      · rw [if_neg h1, n_1, zi_add, zi_add, Int.natCast_add, Int.natCast_one]
        refine congrArg (fun z => rec2 (zi z) _) ?_
        show _ = _ + (sm x _ + olS A n x y)
        have h2 : pq A n x y = true := decide_eq_true (by omega)
        simp only [olS, h2, Bool.true_and, Int.add_assoc]
    · intro rec2
      simp (disch := omega) only [zi_le, n_1, zi_add, Int.natCast_add, Int.natCast_one]
      rw [if_pos (by omega)]
      rfl
  · intro rec
    simp (disch := omega) only [n_24, zi_le]
    rw [if_pos (by omega)]
theorem b1_xor (a b : Bool) : b1 (a ^^ b) = b1 (a && !b) + b1 (!a && b) := by cases a <;> cases b <;> rfl
theorem sm_shift {n : Nat} {f : Nat → Int} (h : f 0 = 0) : sm (n + 1) f = sm n fun k => f (k + 1) := by
  rw [Nat.add_comm, sm_split]
  have h1 : sm 1 f = 0 := by rw [sm, sm, h]; rfl
  rw [h1, Int.zero_add]
  exact sm_congr fun k _ => by rw [Nat.add_comm]
theorem ol_V {A : Nat → Nat → Int} {n : Nat} (ho : ∀ i, i < n → okA (A i)) (x : Int) :
    sm 32 (fun j => b1 (pq A n x (j : Nat) ^^ (decide (1 ≤ j) && pq A n x ((j - 1 : Nat) : Int)))) = sm 24 (fun j => b1 (pq A n x (j : Nat) && !pq A n x ((j : Int) - 1))) + sm 24 fun j => b1 (pq A n x (j : Nat) && !pq A n x ((j : Int) + 1)) := by
  simp only [b1_xor]
  rw [sm_add]
  have e1 : sm 32 (fun j => b1 (pq A n x (j : Nat) && !(decide (1 ≤ j) && pq A n x ((j - 1 : Nat) : Int)))) = sm 24 fun j => b1 (pq A n x (j : Nat) && !pq A n x ((j : Int) - 1)) := by
    rw [sm_cut (a := 24) (fun k hk => by rw [pq_out ho (by omega)]; rfl) (by omega)]
    refine sm_congr fun j _ => ?_
    cases j with
    | zero => rw [pq_out (x := x) (y := ((0 : Nat) : Int) - 1) ho (by omega)]; rfl
    | succ j =>
      rw [Nat.add_sub_cancel, show (((j + 1 : Nat) : Int) - 1) = (j : Int) from by omega, decide_eq_true (by omega : 1 ≤ j + 1), Bool.true_and]
  have e2 : sm 32 (fun j => b1 (!pq A n x (j : Nat) && (decide (1 ≤ j) && pq A n x ((j - 1 : Nat) : Int)))) = sm 24 fun j => b1 (pq A n x (j : Nat) && !pq A n x ((j : Int) + 1)) := by
    have h0 : b1 (!pq A n x ((0 : Nat) : Int) && (decide (1 ≤ 0) && pq A n x ((0 - 1 : Nat) : Int))) = 0 := by simp [b1]
    rw [sm_shift (n := 31) h0, sm_cut (a := 24) (fun k hk => by rw [Nat.add_sub_cancel, pq_out (x := x) (y := (k : Int)) ho (by omega)]; simp [b1]) (by omega)]
    refine sm_congr fun j _ => ?_
    rw [Nat.add_sub_cancel, decide_eq_true (by omega : 1 ≤ j + 1), Bool.true_and, Bool.and_comm, Int.natCast_add, Int.natCast_one]
  rw [e1, e2]
theorem ol_H {A : Nat → Nat → Int} {n : Nat} (ho : ∀ i, i < n → okA (A i)) :
    sm 25 (fun x => sm 32 fun j => b1 (pq A n (x : Nat) (j : Nat) ^^ pq A n ((x : Int) - 1) (j : Nat))) = sm 24 (fun x => sm 24 fun j => b1 (pq A n (x : Nat) (j : Nat) && !pq A n ((x : Int) - 1) (j : Nat))) + sm 24 fun x => sm 24 fun j => b1 (pq A n (x : Nat) (j : Nat) && !pq A n ((x : Int) + 1) (j : Nat)) := by
  simp only [b1_xor, sm_add]
  have e1 : sm 25 (fun x => sm 32 fun j => b1 (pq A n (x : Nat) (j : Nat) && !pq A n ((x : Int) - 1) (j : Nat))) = sm 24 fun x => sm 24 fun j => b1 (pq A n (x : Nat) (j : Nat) && !pq A n ((x : Int) - 1) (j : Nat)) := by
    rw [sm_cut (a := 24) (b := 25) (fun k hk => by rw [sm_congr (g := fun _ => 0) fun j _ => by rw [pq_out ho (by omega)]; rfl, sm_zero]) (by omega)]
    exact sm_congr fun x _ => sm_cut (fun k hk => by rw [pq_out (y := (k : Int)) ho (by omega)]; rfl) (by omega)
  have e2 : sm 25 (fun x => sm 32 fun j => b1 (!pq A n (x : Nat) (j : Nat) && pq A n ((x : Int) - 1) (j : Nat))) = sm 24 fun x => sm 24 fun j => b1 (pq A n (x : Nat) (j : Nat) && !pq A n ((x : Int) + 1) (j : Nat)) := by
    have h0 : sm 32 (fun j => b1 (!pq A n ((0 : Nat) : Int) (j : Nat) && pq A n (((0 : Nat) : Int) - 1) (j : Nat))) = 0 := by
      rw [sm_congr (g := fun _ => 0) fun j _ => by rw [pq_out (x := ((0 : Nat) : Int) - 1) ho (by omega)]; simp [b1], sm_zero]
    rw [sm_shift (n := 24) h0]
    refine sm_congr fun x _ => ?_
    rw [sm_cut (a := 24) (b := 32) (fun k hk => by rw [pq_out (x := ((x + 1 : Nat) : Int) - 1) (y := (k : Int)) ho (by omega)]; simp [b1]) (by omega)]
    refine sm_congr fun j _ => ?_
    rw [Bool.and_comm, show (((x + 1 : Nat) : Int) - 1) = (x : Int) from by omega, Int.natCast_add, Int.natCast_one]
  rw [e1, e2]
theorem ol_all {A : Nat → Nat → Int} {n : Nat} (ho : ∀ i, i < n → okA (A i)) :
    sm 25 (fun x => sm 32 (fun j => b1 (pq A n (x : Nat) (j : Nat) ^^ (decide (1 ≤ j) && pq A n (x : Nat) ((j - 1 : Nat) : Int)))) + sm 32 fun j => b1 (pq A n (x : Nat) (j : Nat) ^^ pq A n ((x : Int) - 1) (j : Nat))) = tot (olS A n) := by
  rw [sm_add, ol_H ho, sm_congr (fun x _ => ol_V ho (x : Nat)), sm_cut (a := 24) (b := 25) (fun k hk => by
    rw [sm_congr (g := fun _ => 0) fun j _ => by rw [pq_out ho (by omega)]; rfl, sm_zero, sm_congr (g := fun _ => 0) fun j _ => by rw [pq_out ho (by omega)]; rfl, sm_zero]; rfl) (by omega)]
  unfold tot olS
  simp only [sm_add]
  omega
