/-! the reference's rain -/
def cnt (A : Nat → Nat → Int) (n : Nat) (a : Int) : Int := sm n fun j => b1 (decide (blP A a j))
theorem sm_le {n : Nat} {f g : Nat → Int} (h : ∀ k, k < n → f k ≤ g k) : sm n f ≤ sm n g := by
  induction n with
  | zero => simp [sm]
  | succ n ih =>
    have h1 := ih fun k hk => h k (by omega)
    have h2 := h n (by omega)
    rw [sm, sm]; omega
theorem cnt_lt {A : Nat → Nat → Int} {n i : Nat} {a : Int} (hi : i < n) (h : blP A a i) : cnt A n i + 1 ≤ cnt A n a := by
  have h1 : sm n (add1 (fun j => b1 (decide (blP A i j))) i 1) ≤ cnt A n a := by
    refine sm_le fun j hj => ?_
    simp only [add1]
    by_cases hji : j = i
    · subst hji
      rw [if_pos rfl, decide_eq_true h, decide_eq_false]
      · simp [b1]
      · intro h2
        have h3 := h2.2
        rw [Int.toNat_natCast] at h3
        unfold hgh at h3
        omega
    · rw [if_neg hji]
      by_cases h2 : blP A i j
      · rw [decide_eq_true h2, decide_eq_true]
        · omega
        · refine ⟨h2.1, ?_⟩
          rcases h.2 with h4 | h4
          · exact .inl h4
          · right
            have h3 := h2.2
            rw [Int.toNat_natCast] at h3
            unfold hgh at h3 h4 ⊢
            omega
      · rw [decide_eq_false h2]
        have := b1_bd (decide (blP A a j))
        simp only [b1, Bool.false_eq_true, if_false] at this ⊢
        omega
  rw [sm_add1 _ _ hi] at h1
  exact h1
theorem cnt_bd (A : Nat → Nat → Int) (n : Nat) (a : Int) : 0 ≤ cnt A n a ∧ cnt A n a ≤ n := by
  have := sm_bd (n := n) (f := fun j => b1 (decide (blP A a j))) (B := 1) fun i _ => b1_bd _
  unfold cnt; omega
theorem b1_1 (b : Bool) : (zi (b1 b) = zi 1) = (b = true) := by cases b <;> decide
theorem p_mhighest {h : zH} {m n sn : Nat} {th hr ro : Int32} {A : Nat → Nat → Int} {D : Nat → Int32} (km : kM h m th n sn hr ro) (ks : kSh h m n A D) {l x : Int} {y : Nat} (hl : -100 ≤ l ∧ l ≤ 100) (hx : -100 ≤ x ∧ x ≤ 100) (hy : y < 24) :
    M_X5_highest h m (zi x) (zi y) (zi l) = some (zi (hbS A l x y n).1) := by
  obtain ⟨hn, f, -, ho⟩ := id ks
  have hh := hbS_Hi (l := l) (x := x) (y := y) n fun i hi => (ho i hi).1
  simp (disch := omega) only [M_X5_highest, ck_of km, Option.bind_some, n_m1, p_below km ks, jn0]
  have key : ∀ (f : (Int32 → Option Int32) → Int32 → Option Int32) (_ : ∀ rec a, f rec (zi a) = if zi a = zi (-1) then some (zi (-1)) else (M_X5_of h m (zi a) 4).bind fun r4 => if zi l ≤ r4 then (M_X5_below h m (zi a)).bind fun r6 => rec r6 else (M_X5_bits h m (zi a) (zi x)).bind fun r7 => if ((r7 >>> (zi y &&& 31)) &&& (1 : Int32)) = 1 then some (zi a) else (M_X5_below h m (zi a)).bind fun r6 => rec r6)
      (d : Nat) (a : Int) (fuel : Nat), cnt A n a ≤ d → d < fuel → (∀ j, j < n → A j 4 < l ∧ cv (A j) x y = true → blP A a j) → wl1 f fuel (zi (blS A a n)) = some (zi (hbS A l x y n).1) := by
    intro f hf d
    induction d with
    | zero =>
      intro a fuel h1 h2 h3
      obtain ⟨g, rfl⟩ : ∃ g, fuel = g + 1 := ⟨fuel - 1, by omega⟩
      rcases blS_Hi A a n with ⟨h4, h5⟩ | ⟨i, h4, h5, h6, -⟩
      · rw [wl1, hf, h4, if_pos rfl, Hi_uniq hh (.inl ⟨rfl, fun j hj hp => h5 j hj (h3 j hj hp)⟩) fun j _ => Iff.rfl]
      · have := cnt_lt h4 h6
        have := cnt_bd A n i
        omega
    | succ d ih =>
      intro a fuel h1 h2 h3
      obtain ⟨g, rfl⟩ : ∃ g, fuel = g + 1 := ⟨fuel - 1, by omega⟩
      rcases blS_Hi A a n with ⟨h4, h5⟩ | ⟨i, h4, h5, h6, h7⟩
      · rw [wl1, hf, h4, if_pos rfl, Hi_uniq hh (.inl ⟨rfl, fun j hj hp => h5 j hj (h3 j hj hp)⟩) fun j _ => Iff.rfl]
      · have hc := cnt_lt h4 h6
        have o := (ho i h4).1
        unfold okA at o
        rw [wl1, hf, h5]
        simp (disch := omega) only [zi_eq, p_of4 km ks h4, Option.bind_some, zi_le, p_bits km ks h4 hx, mk_bit, p_below km ks]
        rw [if_neg (by omega)]
        have hnext : ¬(A i 4 < l ∧ cv (A i) x y = true) → wl1 f g (zi (blS A i n)) = some (zi (hbS A l x y n).1) := fun hne => by
          refine ih i g (by omega) (by omega) fun j hj hp => ?_
          have hb := h3 j hj hp
          have hji : j ≠ i := fun e => hne (e ▸ hp)
          exact ⟨hb.1, .inr (by rw [Int.toNat_natCast]; exact h7 j hj hb hji)⟩
        by_cases h8 : l ≤ A i 4
        · rw [if_pos h8]
          exact hnext (by omega)
        · rw [if_neg h8]
          by_cases h9 : cv (A i) x y = true
          · rw [if_pos (by rw [n_1, b1_1]; exact h9), Hi_uniq hh (.inr ⟨i, h4, rfl, ⟨by omega, h9⟩, fun j hj hp hji => h7 j hj (h3 j hj hp) hji⟩) fun j _ => Iff.rfl]
          · rw [if_neg (by rw [n_1, b1_1]; exact h9)]
            exact hnext (fun h => h9 h.2)
  refine key _ (fun rec a => rfl) n (-1) 700 (cnt_bd A n _).2 (by omega) fun j hj hp => ⟨(cv_out hp.2).1, .inl rfl⟩
def hM (m : Nat) (σ : zS) (h : zH) : zH := z_up (z_up h (m + 5) (cA 576 fun p => zi (σ.1 (p / 24) (p % 24)))) (m + 6) (cA 10 fun p => zi (σ.2.1 p))
theorem hM_5 (m : Nat) (σ : zS) (h : zH) : hM m σ h (m + 5) = some (cA 576 fun p => zi (σ.1 (p / 24) (p % 24))) := by rw [hM, up_ne (by omega), up_at]
theorem hM_6 (m : Nat) (σ : zS) (h : zH) : hM m σ h (m + 6) = some (cA 10 fun p => zi (σ.2.1 p)) := by rw [hM, up_at]
theorem hM_ne {m q : Nat} {σ : zS} {h : zH} (e : q ≠ m + 5 ∧ q ≠ m + 6) : hM m σ h q = h q := by rw [hM, up_ne e.2, up_ne e.1]
theorem hM_mk {m : Nat} {σ : zS} {h h' : zH} (e5 : h' (m + 5) = some (cA 576 fun p => zi (σ.1 (p / 24) (p % 24)))) (e6 : h' (m + 6) = some (cA 10 fun p => zi (σ.2.1 p))) (e : ∀ q, q ≠ m + 5 ∧ q ≠ m + 6 → h' q = h q) : h' = hM m σ h := by
  funext q
  by_cases h1 : q = m + 5
  · subst h1; rw [e5, hM_5]
  by_cases h2 : q = m + 6
  · subst h2; rw [e6, hM_6]
  · rw [e q ⟨h1, h2⟩, hM_ne ⟨h1, h2⟩]
theorem kM_hM {h : zH} {m n sn : Nat} {th hr ro : Int32} {σ : zS} (k : kM h m th n sn hr ro) : kM (hM m σ h) m th n sn hr ro := (hM_ne ⟨by omega, by omega⟩).trans k
theorem kSh_hM {h : zH} {m n : Nat} {A : Nat → Nat → Int} {D : Nat → Int32} {σ : zS} (k : kSh h m n A D) : kSh (hM m σ h) m n A D := by
  obtain ⟨hn, f, h1, h2⟩ := k
  exact ⟨hn, f, (hM_ne ⟨by omega, by omega⟩).trans h1, h2⟩
theorem p_fall {h : zH} {m n sn : Nat} {th hr ro : Int32} {A : Nat → Nat → Int} {D : Nat → Int32} {σ : zS} (km : kM h m th n sn hr ro) (ks : kSh h m n A D) {l d : Int} {x y : Nat} (hl : -100 ≤ l ∧ l ≤ 100) (hx : x < 24) (hy : y < 24) :
    M_X5_fall (hM m σ h) m (zi x) (zi y) (zi l) (zi d) = some (hM m (fal A n l x y d σ) h) := by
  have km' := kM_hM (σ := σ) km
  have ks' := kSh_hM (σ := σ) ks
  obtain ⟨hn, f, -, ho⟩ := id ks
  have hb := hbS_bd (A := A) (l := l) (x := x) (y := y) n fun i hi => (ho i hi).1
  simp (disch := omega) only [M_X5_fall, ck_of km', Option.bind_some, p_mhighest km' ks', n_m1, n_24, zi_mul, zi_add, gR_of km' (k := 9) rfl, gR_of km' (k := 10) rfl, zi_eq]
  unfold fal
  rw [if_pos (c := 0 ≤ (x : Int) ∧ _) (by omega)]
  by_cases h1 : (hbS A l x y n).1 < 0
  · rw [if_pos (by omega), if_pos h1, cI_of (hM_5 m σ h) (by omega) (by omega) (by omega), Option.bind_some, csI_of (hM_5 m σ h) (by omega) (by omega) (by omega), Option.bind_some]
    refine congrArg some (hM_mk ?_ ?_ fun q hq => ?_)
    · rw [up_at]
      refine congrArg some (cA_congr fun p hp => ?_)
      have hq : (p = (24 * (x : Int) + y).toNat) ↔ (p / 24 = (x : Int).toNat ∧ p % 24 = (y : Int).toNat) := by omega
      by_cases h3 : p = (24 * (x : Int) + y).toNat
      · rw [if_pos h3, ← h3, zi_add]
        simp only [add2, if_pos (hq.mp h3)]
      · rw [if_neg h3]
        simp only [add2, if_neg (fun h4 => h3 (hq.mpr h4))]
    · rw [up_ne (by omega), hM_6]
    · rw [up_ne hq.1, hM_ne hq]
  · rw [if_neg (by omega), if_neg h1, cI_of (hM_6 m σ h) (by omega) (by omega) (by omega), Option.bind_some, csI_of (hM_6 m σ h) (by omega) (by omega) (by omega), Option.bind_some]
    refine congrArg some (hM_mk ?_ ?_ fun q hq => ?_)
    · rw [up_ne (by omega), hM_5]
    · rw [up_at]
      refine congrArg some (cA_congr fun p hp => ?_)
      by_cases h3 : p = (hbS A l x y n).1.toNat
      · simp only [add1, ← h3, zi_add, if_true]
      · rw [if_neg h3]
        simp only [add1, if_neg h3]
    · rw [up_ne hq.2, hM_ne hq]
