/-! best -/
theorem wl4_st {A B C D R : Type} {f : (A → B → C → D → Option R) → A → B → C → D → Option R} {r : Option R} (a : Nat → A) (b : Nat → B) (c : Nat → C) (d : Nat → D) (N : Nat) {x : A} {y : B} {z : C} {w : D} (hx : x = a 0) (hy : y = b 0) (hz : z = c 0) (hw : w = d 0)
    (hs : ∀ rec k, k < N → f rec (a k) (b k) (c k) (d k) = rec (a (k + 1)) (b (k + 1)) (c (k + 1)) (d (k + 1))) (he : ∀ rec, f rec (a N) (b N) (c N) (d N) = r) (fuel : Nat) (hf : N < fuel) : wl4 f fuel x y z w = r := by
  subst hx hy hz hw
  have key : ∀ e k fuel, k + e = N → e < fuel → wl4 f fuel (a k) (b k) (c k) (d k) = r := by
    intro e
    induction e with
    | zero =>
      intro k fuel hk hf
      obtain ⟨g, rfl⟩ : ∃ g, fuel = g + 1 := ⟨fuel - 1, by omega⟩
      have : k = N := by omega
      subst this
      exact he _
    | succ e ih =>
      intro k fuel hk hf
      obtain ⟨g, rfl⟩ : ∃ g, fuel = g + 1 := ⟨fuel - 1, by omega⟩
      exact (hs _ k (by omega)).trans (ih (k + 1) g (by omega) (by omega))
  exact key N 0 fuel (by omega) hf
def gnS (A : Nat → Nat → Int) (n w v x y : Nat) : Int := sm v fun j => sm w fun t => b1 (!pq A n (x + t : Nat) (y + j : Nat))
theorem gnS_bd {A : Nat → Nat → Int} {n w v x y : Nat} (hw : w ≤ 24) (hv : v ≤ 24) : 0 ≤ gnS A n w v x y ∧ gnS A n w v x y ≤ 576 := by
  have h := sm_bd (n := v) (f := fun j => sm w fun t => b1 (!pq A n (x + t : Nat) (y + j : Nat))) (B := 24) fun j _ => by
    have := sm_b1_bd w fun t => !pq A n (x + t : Nat) (y + j : Nat)
    omega
  exact ⟨h.1, Int.le_trans h.2 (by omega)⟩
theorem p_notIn {h : zH} {c n : Nat} {qd : Int32} {A : Nat → Nat → Int} (hn : n ≤ 10) (hc : kC h c qd) (hl : kLy h c n A) (ho : ∀ i, i < n → okA (A i)) {x y w v : Nat} (hx : x + w ≤ 24) (hy : y + v ≤ 24) :
    M_X1_notCoveredIn h c (zi x) (zi y) (zi w) (zi v) = some (zi (gnS A n w v x y)) := by
  unfold M_X1_notCoveredIn
  refine wl2_st (fun j => zi (sm j fun j => sm w fun t => b1 (!pq A n (x + t : Nat) (y + j : Nat)))) (fun j => zi (y + j : Nat)) v n_0 rfl ?_ ?_ 700 (by omega)
  · intro rec j hj
    simp (disch := omega) only [zi_add, zi_le]
    rw [if_neg (by omega)]
    refine wl2_st (fun t' => zi (sm j (fun j => sm w fun t => b1 (!pq A n (x + t : Nat) (y + j : Nat))) + sm t' fun t => b1 (!pq A n (x + t : Nat) (y + j : Nat)))) (fun t => zi (x + t : Nat)) w (by rw [sm, Int.add_zero]) rfl ?_ ?_ 700 (by omega)
    · intro rec2 t ht
      have hb := lay_bd A n (x + t : Nat) (y + j : Nat)
      have e4 : (zi (lay A n (x + t : Nat) (y + j : Nat)) = 0) = (lay A n (x + t : Nat) (y + j : Nat) = 0) := zi_eq (b := 0) (by omega) (by omega) (by omega) (by omega)
      simp (disch := omega) only [zi_le, ck_of hc, Option.bind_some, p_at hc hl _ _ ho, jn1, e4]
      rw [if_neg (by omega), n_1, zi_add, zi_add]
      have q1 : ((x + t : Nat) : Int) + 1 = ((x + (t + 1) : Nat) : Int) := by omega
      rw [q1]
      by_cases h1 : lay A n (x + t : Nat) (y + j : Nat) = 0
      · rw [if_pos h1]
        refine congrArg (fun z => rec2 (zi z) _) ?_
        show _ = _ + (sm t _ + b1 (!pq A n (x + t : Nat) (y + j : Nat)))
        have h2 : pq A n (x + t : Nat) (y + j : Nat) = false := decide_eq_false (by omega)
        rw [h2, Int.add_assoc]; rfl
      · rw [if_neg h1]
        refine congrArg (fun z => rec2 (zi z) _) ?_
        show _ = _ + (sm t _ + b1 (!pq A n (x + t : Nat) (y + j : Nat)))
        have h2 : pq A n (x + t : Nat) (y + j : Nat) = true := decide_eq_true (by omega)
        rw [h2]
        simp [b1]
    · intro rec2
      simp (disch := omega) only [zi_le, zi_add, n_1]
      rw [if_pos (by omega)]
      have q1 : ((y + j : Nat) : Int) + 1 = ((y + (j + 1) : Nat) : Int) := by omega
      rw [q1]
      rfl
  · intro rec
    simp (disch := omega) only [zi_add, zi_le]
    rw [if_pos (by omega)]
    rfl
abbrev zB : Type := Int × Int × Int
def bsX (A : Nat → Nat → Int) (n w v y : Nat) : Nat → zB → zB
  | 0, σ => σ
  | k + 1, σ => if (bsX A n w v y k σ).2.2 < gnS A n w v k y then ((k : Int), (y : Int), gnS A n w v k y) else bsX A n w v y k σ
def bsY (A : Nat → Nat → Int) (n w v : Nat) : Nat → zB
  | 0 => (0, 0, -1)
  | j + 1 => bsX A n w v j (25 - w) (bsY A n w v j)
def bdB (σ : zB) : Prop := -1 ≤ σ.2.2 ∧ σ.2.2 ≤ 576
theorem bsX_bd {A : Nat → Nat → Int} {n w v y : Nat} (hw : w ≤ 24) (hv : v ≤ 24) {σ : zB} (b : bdB σ) (k : Nat) : bdB (bsX A n w v y k σ) := by
  induction k with
  | zero => exact b
  | succ k ih =>
    have := gnS_bd (A := A) (n := n) (x := k) (y := y) hw hv
    rw [bsX]
    split
    · exact ⟨by simp only; omega, by simp only; omega⟩
    · exact ih
theorem bsY_bd {A : Nat → Nat → Int} {n w v : Nat} (hw : w ≤ 24) (hv : v ≤ 24) (k : Nat) : bdB (bsY A n w v k) := by
  induction k with
  | zero => exact ⟨by simp [bsY], by simp [bsY]⟩
  | succ k ih => exact bsX_bd hw hv ih _
def besS (A : Nat → Nat → Int) (n w v : Nat) (q : Int) : Int := if q = 0 then (bsY A n w v (25 - v)).1 else if q = 1 then (bsY A n w v (25 - v)).2.1 else (bsY A n w v (25 - v)).2.2
abbrev sIA : String := "java/lang/IllegalArgumentException"
theorem p_extent {w v : Int} (hw : -2147483648 ≤ w ∧ w < 2147483648) (hv : -2147483648 ≤ v ∧ v < 2147483648) : M_X4_requireExtent (zi w) (zi v) = some (if 1 ≤ w ∧ w ≤ 24 ∧ 1 ≤ v ∧ v ≤ 24 then .inr () else .inl sIA) := by
  simp (disch := omega) only [M_X4_requireExtent, n_1, n_24, zi_lt, zi_le, zi_eq]
  by_cases h1 : w < 1
  · rw [if_pos h1, if_neg (by omega)]
  rw [if_neg h1]
  by_cases h2 : 24 < w
  · rw [if_pos h2, if_neg (by omega)]
  rw [if_neg h2]
  by_cases h3 : v < 1
  · rw [if_pos h3, if_neg (by omega)]
  rw [if_neg h3]
  by_cases h4 : v ≤ 24
  · rw [if_pos h4, if_pos (by omega)]
  · rw [if_neg h4, if_neg (by omega)]
theorem p_X4best {h : zH} {x c s sl g : Nat} {hr gd go qd mc : Int32} {ea n : Nat} {P : Nat → Nat} {A : Nat → Nat → Int} {D : Nat → Int32} (kx : kX h x c s sl g hr gd go) (k : kW h c qd mc ea n P A D) (hl : kLy h c n A)
    {w v q : Int} (hw : -2147483648 ≤ w ∧ w < 2147483648) (hv : -2147483648 ≤ v ∧ v < 2147483648) (hq : -2147483648 ≤ q ∧ q < 2147483648) :
    M_X4_best h x (zi w) (zi v) (zi q) = some (if 1 ≤ w ∧ w ≤ 24 ∧ 1 ≤ v ∧ v ≤ 24 then (if 0 ≤ q ∧ q ≤ 2 then .inr (zi (besS A n w.toNat v.toNat q)) else .inl sIO) else .inl sIA) := by
  have ho : ∀ i, i < n → okA (A i) := fun i hi => (k.2.2 i hi).2
  have hn := k.2.1.2.1
  have q0 : (zi q = 0) = (q = 0) := zi_eq (b := 0) (by omega) (by omega) (by omega) (by omega)
  have q1 : (zi q = 1) = (q = 1) := zi_eq (b := 1) (by omega) (by omega) (by omega) (by omega)
  have hwh : M_X4_requireWhat (zi q) 2 = some (if 0 ≤ q ∧ q ≤ 2 then .inr () else .inl sIO) := by rw [n_2]; exact p_what hq (by omega)
  simp only [M_X4_best, p_extent hw hv, hwh, z_tb, ob_some]
  by_cases h1 : 1 ≤ w ∧ w ≤ 24 ∧ 1 ≤ v ∧ v ≤ 24
  · obtain ⟨W, rfl⟩ : ∃ W : Nat, w = W := ⟨w.toNat, by omega⟩
    obtain ⟨V, rfl⟩ : ∃ V : Nat, v = V := ⟨v.toNat, by omega⟩
    by_cases h2 : 0 ≤ q ∧ q ≤ 2
    · rw [if_pos h1, if_pos h2, if_pos (c := 1 ≤ (W : Int) ∧ _) h1, if_pos (c := 0 ≤ q ∧ q ≤ 2) h2]
      simp only [Int.toNat_natCast]
      refine wl4_st (fun j => zi (bsY A n W V j).1) (fun j => zi (bsY A n W V j).2.1) (fun j => zi (bsY A n W V j).2.2) (fun j => zi (j : Int)) (25 - V) n_0 n_0 n_m1 n_0 ?_ ?_ 700 (by omega)
      · intro rec j hj
        have hb := bsY_bd (A := A) (n := n) (w := W) (v := V) (by omega) (by omega) j
        simp (disch := omega) only [n_24, zi_sub, zi_lt]
        rw [if_neg (by omega)]
        refine wl4_st (fun t => zi (bsX A n W V j t (bsY A n W V j)).1) (fun t => zi (bsX A n W V j t (bsY A n W V j)).2.1) (fun t => zi (bsX A n W V j t (bsY A n W V j)).2.2) (fun t => zi (t : Int)) (25 - W) rfl rfl rfl n_0 ?_ ?_ 700 (by omega)
        · intro rec2 t ht
          have hb2 := bsX_bd (A := A) (n := n) (w := W) (v := V) (y := j) (by omega) (by omega) hb t
          unfold bdB at hb2
          have hg := gnS_bd (A := A) (n := n) (w := W) (v := V) (x := t) (y := j) (by omega) (by omega)
          simp (disch := omega) only [zi_lt, gR_of kx (k := 0) rfl, ck_of k.1, ob_some, p_notIn hn k.1 hl ho (x := t) (y := j) (w := W) (v := V) (by omega) (by omega), jn3_e, zi_le, n_1, zi_add, Int.natCast_add, Int.natCast_one, bsX]
          rw [if_neg (by omega)]
          by_cases h3 : (bsX A n W V j t (bsY A n W V j)).2.2 < gnS A n W V t j
          · rw [if_neg (by omega), if_pos h3]
          · rw [if_pos (by omega), if_neg h3]
        · intro rec2
          simp (disch := omega) only [zi_lt, n_1, zi_add, Int.natCast_add, Int.natCast_one]
          rw [if_pos (by omega)]
          rfl
      · intro rec
        simp (disch := omega) only [n_24, zi_sub, zi_lt, q0, q1]
        rw [if_pos (by omega)]
        unfold besS
        by_cases w0 : q = 0
        · rw [if_pos w0, if_pos w0]
        by_cases w1 : q = 1
        · rw [if_neg w0, if_neg w0, if_pos w1, if_pos w1]
        · rw [if_neg w0, if_neg w0, if_neg w1, if_neg w1]
    · rw [if_pos h1, if_neg h2, if_pos (c := 1 ≤ (W : Int) ∧ _) h1, if_neg (c := 0 ≤ q ∧ q ≤ 2) h2]
  · rw [if_neg h1, if_neg (c := 1 ≤ w ∧ _) h1]
