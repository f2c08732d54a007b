/-! the highest awning over a cell -/
def hbS (A : Nat → Nat → Int) (l x y : Int) : Nat → Int × Int
  | 0 => (-1, 0)
  | k + 1 => if A k 4 < l ∧ (hbS A l x y k).2 < A k 4 ∧ cv (A k) x y = true then ((k : Int), A k 4) else hbS A l x y k
def kA (h : zH) (n : Nat) (P : Nat → Nat) (A : Nat → Nat → Int) (D : Nat → Int32) : Prop := ∀ i, i < n → h (P i) = some (oA (A i) (D i)) ∧ okA (A i)
theorem hbS_bd {A : Nat → Nat → Int} {l x y : Int} (k : Nat) (ho : ∀ i, i < k → okA (A i)) : -1 ≤ (hbS A l x y k).1 ∧ (hbS A l x y k).1 < k ∧ 0 ≤ (hbS A l x y k).2 ∧ (hbS A l x y k).2 ≤ 9 := by
  induction k with
  | zero => simp [hbS]
  | succ k ih =>
    have h1 := ih fun i hi => ho i (by omega)
    have h2 := ho k (by omega)
    unfold okA at h2
    rw [hbS]
    split <;> (try simp only) <;> omega
theorem p_highest {h : zH} {c : Nat} {qd mc : Int32} {ea n : Nat} {P : Nat → Nat} {A : Nat → Nat → Int} {D : Nat → Int32} (hc : kC h c qd) (k : kL h (c + 1) mc ea n P) (ha : kA h n P A D) {l x y : Int} (hl : -100 ≤ l ∧ l ≤ 100) (hx : -100 ≤ x ∧ x ≤ 100) (hy : -100 ≤ y ∧ y ≤ 100) :
    M_X1_highestBelow h c (zi l) (zi x) (zi y) = some (zi (hbS A l x y n).1) := by
  have hn := k.2.1
  unfold M_X1_highestBelow
  refine wl3_st (fun j => zi (hbS A l x y j).1) (fun j => zi (hbS A l x y j).2) (fun j => zi (j : Int)) n rfl rfl rfl ?_ ?_ 700 (by omega)
  · intro rec j hj
    obtain ⟨hp, ho⟩ := ha j hj
    have hb := hbS_bd (l := l) (x := x) (y := y) j fun i hi => (ha i (by omega)).2
    have ho' := ho
    unfold okA at ho'
    simp (disch := omega) only [gR_of hc (k := 0) rfl, ob_some, Option.bind_none, jn0_e, jn1_e, jn2_e, jn3_e, jn4_e, jn5_e, ck_of k.1, p_lsize k, zi_lt, zi_le, zi_eq, p_get k hj, ck_of hp, gI_of hp (k := 4) rfl, p_covers hp ho hx hy, n_1, zi_add, Int.natCast_add, Int.natCast_one]
    rw [if_neg (by omega), hbS]
    by_cases h1 : A j 4 < l
    · rw [if_neg (by omega)]
      by_cases h2 : (hbS A l x y j).2 < A j 4
      · rw [if_neg (by omega)]
        by_cases h3 : cv (A j) x y = true
        · rw [if_neg (by rw [h3]; decide), if_pos ⟨h1, h2, h3⟩]
        · rw [if_pos (by rw [Bool.eq_false_iff.mpr h3]; rfl), if_neg (by simp [h3])]
      · rw [if_pos (by omega), if_neg (by simp only [h2]; simp)]
    · rw [if_pos (by omega), if_neg (by simp only [h1]; simp)]
  · intro rec
    simp (disch := omega) only [gR_of hc (k := 0) rfl, ob_some, Option.bind_none, jn0_e, jn1_e, jn2_e, jn3_e, jn4_e, jn5_e, ck_of k.1, p_lsize k, zi_lt, zi_le, zi_eq]
    rw [if_pos (by omega)]
/-! arrays of a fixed length -/
def ar (n : Nat) (f : Nat → Int32) : Nat → Int32 := fun p => if p < n then f p else 0
theorem ar_lt {n p : Nat} {f : Nat → Int32} (h : p < n) : ar n f p = f p := if_pos h
theorem ar_congr {n : Nat} {f g : Nat → Int32} (h : ∀ p, p < n → f p = g p) : ar n f = ar n g := by
  funext p
  by_cases hp : p < n
  · rw [ar_lt hp, ar_lt hp, h p hp]
  · simp [ar, hp]
theorem ar_upd {n i : Nat} {f : Nat → Int32} {v : Int32} (h : i < n) : upd (ar n f) i v = ar n (fun p => if p = i then v else f p) := by
  funext p
  by_cases hp : p = i
  · subst hp; simp [upd, ar, h]
  · simp [upd, ar, hp]
theorem ar_0 (n : Nat) : (fun _ => 0 : Nat → Int32) = ar n (fun _ => 0) := by
  funext p; simp [ar]
abbrev cA (n : Nat) (f : Nat → Int32) : zC := zI n (ar n f)
theorem cI_of {h : zH} {a n : Nat} {f : Nat → Int32} {i : Int} (e : h a = some (cA n f)) (hn : n ≤ 100000) (h1 : 0 ≤ i) (h2 : i < n) : z_aI h a (zi i) = some (f i.toNat) := by
  rw [aI_of e hn h1 h2, ar_lt (by omega)]
theorem csI_of {h : zH} {a n : Nat} {f : Nat → Int32} {i : Int} {x : Int32} (e : h a = some (cA n f)) (hn : n ≤ 100000) (h1 : 0 ≤ i) (h2 : i < n) : z_sI h a (zi i) x = some (z_up h a (cA n (fun p => if p = i.toNat then x else f p))) := by
  rw [sI_of e hn h1 h2, ar_upd (by omega)]
theorem cA_congr {n : Nat} {f g : Nat → Int32} (h : ∀ p, p < n → f p = g p) : cA n f = cA n g := by rw [cA, cA, ar_congr h]
theorem up_congr {h : zH} {a n : Nat} {f g : Nat → Int32} (e : ∀ p, p < n → f p = g p) : z_up h a (cA n f) = z_up h a (cA n g) := by rw [cA_congr e]
theorem p_fill {h : zH} {a n : Nat} {f : Nat → Int32} {v : Int32} (e : h a = some (cA n f)) (hn : n ≤ 600) : M_J7_fill_53178 h a v = some (z_up h a (cA n (fun _ => v))) := by
  simp only [M_J7_fill_53178, al_of e, Option.bind_some]
  refine wl2_st (fun j => zi (j : Int)) (fun j => z_up h a (cA n (fun p => if p < j then v else f p))) n rfl ?_ ?_ ?_ 700 (by omega)
  · simp only [Nat.not_lt_zero, if_false]
    exact (up_same e).symm
  · intro rec j hj
    simp (disch := omega) only [zi_lt, zi_le, zi_eq]
    rw [if_neg (by omega), csI_of (up_at h a _) (by omega) (by omega) (by omega), Option.bind_some, up_up]
    simp only [n_1, zi_add, Int.natCast_add, Int.natCast_one]
    refine congrArg (rec _) (up_congr fun p hp => ?_)
    by_cases h1 : p = j
    · rw [if_pos (by omega), if_pos (by omega)]
    · rw [if_neg (by omega)]
      by_cases h2 : p < j
      · rw [if_pos h2, if_pos (by omega)]
      · rw [if_neg h2, if_neg (by omega)]
  · intro rec
    simp (disch := omega) only [zi_lt, zi_le, zi_eq]
    rw [if_pos (by omega)]
    exact congrArg some (up_congr fun p hp => if_pos hp)
