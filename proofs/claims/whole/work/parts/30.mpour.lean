/-! falls may be told in any order -/
def itr (f : Nat → zS → zS) : Nat → zS → zS
  | 0, σ => σ
  | k + 1, σ => f k (itr f k σ)
theorem itr_congr {f g : Nat → zS → zS} {n : Nat} (h : ∀ k σ, k < n → f k σ = g k σ) (σ : zS) : itr f n σ = itr g n σ := by
  induction n with
  | zero => rfl
  | succ n ih => rw [itr, itr, ih fun k σ hk => h k σ (by omega), h n _ (by omega)]
theorem itr_past {f : Nat → zS → zS} {g : zS → zS} (h : ∀ k σ, g (f k σ) = f k (g σ)) (n : Nat) (σ : zS) : g (itr f n σ) = itr f n (g σ) := by
  induction n with
  | zero => rfl
  | succ n ih => rw [itr, itr, h, ih]
theorem itr_both {f g : Nat → zS → zS} (h : ∀ k j σ, g k (f j σ) = f j (g k σ)) (n : Nat) (σ : zS) : itr (fun k σ => f k (g k σ)) n σ = itr f n (itr g n σ) := by
  induction n with
  | zero => rfl
  | succ n ih => rw [itr, itr, itr, ih, itr_past (g := g n) (f := f) (fun k σ => h n k σ)]
theorem itr_id (n : Nat) (σ : zS) : itr (fun _ σ => σ) n σ = σ := by
  induction n with
  | zero => rfl
  | succ n ih => rw [itr, ih]
theorem itr_swap {G : Nat → Nat → zS → zS} (h : ∀ a b c d σ, G a b (G c d σ) = G c d (G a b σ)) (n m : Nat) (σ : zS) :
    itr (fun y => itr (fun x => G x y) m) n σ = itr (fun x => itr (fun y => G x y) n) m σ := by
  induction n with
  | zero => exact (itr_id m σ).symm
  | succ n ih =>
    rw [itr, ih]
    exact (itr_both (f := fun x => G x n) (g := fun x => itr (fun y => G x y) n) (fun k j σ => (itr_past (g := G j n) (f := fun y => G k y) (fun i σ => h _ _ _ _ σ) n σ).symm) m σ).symm
theorem itr_flat {G : Nat → Nat → zS → zS} (m : Nat) (σ : zS) : itr (fun k => G (k / 24) (k % 24)) (24 * m) σ = itr (fun x => itr (fun y => G x y) 24) m σ := by
  induction m with
  | zero => rfl
  | succ m ih =>
    have h : ∀ j, j ≤ 24 → itr (fun k => G (k / 24) (k % 24)) (24 * m + j) σ = itr (fun y => G m y) j (itr (fun k => G (k / 24) (k % 24)) (24 * m) σ) := by
      intro j
      induction j with
      | zero => exact fun _ => rfl
      | succ j ih2 =>
        intro hj
        rw [← Nat.add_assoc, itr, ih2 (by omega), itr, show (24 * m + j) / 24 = m from by omega, show (24 * m + j) % 24 = j from by omega]
    rw [Nat.mul_add, Nat.mul_one, h 24 (by omega), ih]
    exact rfl
theorem add2_comm (F : Nat → Nat → Int) (a b a' b' : Nat) (d d' : Int) : add2 (add2 F a b d) a' b' d' = add2 (add2 F a' b' d') a b d := by
  funext p q
  simp only [add2]
  split <;> split <;> omega
theorem add1_comm (K : Nat → Int) (a a' : Nat) (d d' : Int) : add1 (add1 K a d) a' d' = add1 (add1 K a' d') a d := by
  funext p
  simp only [add1]
  split <;> split <;> omega
theorem fal_way (A : Nat → Nat → Int) (n : Nat) (l x y d : Int) : (∃ a b, ∀ σ, fal A n l x y d σ = (add2 σ.1 a b d, σ.2.1, σ.2.2)) ∨ (∃ i, ∀ σ, fal A n l x y d σ = (σ.1, add1 σ.2.1 i d, σ.2.2)) ∨ ∀ σ, fal A n l x y d σ = (σ.1, σ.2.1, σ.2.2 + d) := by
  by_cases h1 : 0 ≤ x ∧ x < 24 ∧ 0 ≤ y ∧ y < 24
  · by_cases h2 : (hbS A l x y n).1 < 0
    · exact .inl ⟨x.toNat, y.toNat, fun σ => by unfold fal; rw [if_pos h1, if_pos h2]⟩
    · exact .inr (.inl ⟨(hbS A l x y n).1.toNat, fun σ => by unfold fal; rw [if_pos h1, if_neg h2]⟩)
  · exact .inr (.inr fun σ => fal_out h1)
theorem fal_comm (A : Nat → Nat → Int) (n : Nat) (l x y d l' x' y' d' : Int) (σ : zS) : fal A n l x y d (fal A n l' x' y' d' σ) = fal A n l' x' y' d' (fal A n l x y d σ) := by
  rcases fal_way A n l x y d with ⟨a, b, h1⟩ | ⟨a, h1⟩ | h1 <;> rcases fal_way A n l' x' y' d' with ⟨a', b', h2⟩ | ⟨a', h2⟩ | h2 <;> rw [h1, h2, h1, h2]
  · simp only [add2_comm σ.1 a b]
  · simp only [add1_comm σ.2.1 a]
  · simp only [Int.add_assoc, Int.add_comm d']
theorem pX_itr (A : Nat → Nat → Int) (n : Nat) (d : Int) (y k : Nat) (σ : zS) : pX A n d y k σ = itr (fun x => fal A n 10 (x : Nat) (y : Nat) d) k σ := by
  induction k with
  | zero => rfl
  | succ k ih => rw [pX, ih, itr]
theorem pY_itr (A : Nat → Nat → Int) (n : Nat) (d : Int) (k : Nat) : pY A n d k = itr (fun y => itr (fun x => fal A n 10 (x : Nat) (y : Nat) d) 24) k (fun _ _ => 0, fun _ => 0, 0) := by
  induction k with
  | zero => rfl
  | succ k ih => rw [pY, ih, itr, pX_itr]
theorem pY_flat (A : Nat → Nat → Int) (n : Nat) (d : Int) : itr (fun k => fal A n 10 ((k / 24 : Nat) : Int) ((k % 24 : Nat) : Int) d) 576 (fun _ _ => 0, fun _ => 0, 0) = pL A n d 0 := by
  rw [pL, pY_itr, itr_swap (G := fun x y => fal A n 10 (x : Nat) (y : Nat) d) (fun a b c e σ => fal_comm ..), ← itr_flat (G := fun x y => fal A n 10 (x : Nat) (y : Nat) d)]
/-! the reference's awnings come in the class's order -/
theorem mp_loop {A : Nat → Nat → Int} {n m : Nat} {d : Int} {h : zH} (hn : n ≤ 10) (ho : ∀ i, i < n → okA (A i)) (hd : 0 ≤ d) (hd2 : d ≤ 100)
    (f : (Int32 → Int32 → zH → Option (Int32 × zH)) → Int32 → Int32 → zH → Option (Int32 × zH))
    (f0 : ∀ rec o H, f rec o (zi (-1)) H = some (o, H))
    (f1 : ∀ rec (o : Int) (i : Nat) σ, i < n → 0 ≤ σ.2.1 i ∧ σ.2.1 i < 2147483648 → f rec (zi o) (zi i) (hM m σ h) = rec (zi (o + ((dpS A n (A i) (σ.2.1 i) (cel (A i)).toNat σ).2.2 - σ.2.2))) (zi (blS A i n)) (hM m (dpS A n (A i) (σ.2.1 i) (cel (A i)).toNat σ) h)) :
    ∀ (e fuel mm k : Nat) (a : Int), mm ≤ 9 → k ≤ n → (9 - mm) * 12 + (11 - k) ≤ e → e < fuel → Hi A n (fun j => pnd A (9 - mm) k j = true) a →
      wl3 f fuel (zi (drL A n (9 - mm) k (pL A n d mm)).2.2) (zi a) (hM m (drL A n (9 - mm) k (pL A n d mm)) h) = some (zi (pL A n d 9).2.2, hM m (pL A n d 9) h) := by
  intro e
  induction e with
  | zero => intro fuel mm k a h1 h2 h3; omega
  | succ e ih =>
    intro fuel mm k a h1 h2 h3 h4 ha
    obtain ⟨g, rfl⟩ : ∃ g, fuel = g + 1 := ⟨fuel - 1, by omega⟩
    by_cases hm : mm = 9
    · subst hm
      rcases ha with ⟨hk, -⟩ | ⟨i, g1, g2, g3, -⟩
      · by_cases hk0 : k = 0
        · subst hk0
          rw [hk, wl3, f0]
          rfl
        · have h5 : ∀ k, k ≤ n → drL A n (9 - (9 : Nat)) k (pL A n d 9) = pL A n d 9 := by
            intro k hk
            induction k with
            | zero => rfl
            | succ k ih3 =>
              have o := ho k (by omega)
              unfold okA at o
              rw [drL, if_neg (by omega), ih3 (by omega)]
          rw [hk, wl3, f0, h5 k h2]
      · have o := ho i g1
        unfold okA at o
        rw [pnd_iff] at g3
        omega
    · by_cases hkn : k = n
      · subst hkn
        have h5 := ih (g + 1) (mm + 1) 0 a (by omega) (by omega) (by omega) (by omega) ?_
        · rw [drL, pL] at h5
          exact h5
        · have hp : ∀ j, j < k → (pnd A (9 - mm) k j = true ↔ pnd A (9 - ((mm + 1 : Nat) : Int)) 0 j = true) := fun j hj => by
            rw [pnd_iff, pnd_iff]; omega
          rcases ha with ⟨g1, g2⟩ | ⟨i, g1, g2, g3, g4⟩
          · exact .inl ⟨g1, fun j hj hq => g2 j hj ((hp j hj).mpr hq)⟩
          · exact .inr ⟨i, g1, g2, (hp i g1).mp g3, fun j hj hq hji => g4 j hj ((hp j hj).mpr hq) hji⟩
      · by_cases hq : A k 6 = 1 ∧ A k 4 = 9 - mm
        · have hK := pL_K (d := d) ho hd hd2 mm k (by omega) hq.1 hq.2
          have hak : a = k := Hi_uniq ha (.inr ⟨k, by omega, rfl, pnd_iff.mpr ⟨hq.1, .inr ⟨hq.2, Nat.le_refl k⟩⟩, fun j hj hp hjk => by
            rw [pnd_iff] at hp
            unfold hgh
            omega⟩) fun _ _ => Iff.rfl
          rw [hak, wl3, f1 _ _ k _ (by omega) hK]
          have h5 := ih g mm (k + 1) (blS A k n) h1 (by omega) (by omega) (by omega) ?_
          · rw [drL, if_pos hq] at h5
            rw [← h5]
            congr 2
            omega
          · have hp : ∀ j, j < n → (blP A k j ↔ pnd A (9 - mm) (k + 1) j = true) := fun j hj => by
              rw [pnd_iff]
              unfold blP hgh
              rw [Int.toNat_natCast]
              omega
            rcases blS_Hi A k n with ⟨g1, g2⟩ | ⟨i, g1, g2, g3, g4⟩
            · exact .inl ⟨g1, fun j hj hq => g2 j hj ((hp j hj).mpr hq)⟩
            · exact .inr ⟨i, g1, g2, (hp i g1).mp g3, fun j hj hq hji => g4 j hj ((hp j hj).mpr hq) hji⟩
        · have h5 := ih (g + 1) mm (k + 1) a h1 (by omega) (by omega) (by omega) ?_
          · rw [drL, if_neg hq] at h5
            exact h5
          · have hp : ∀ j, j < n → (pnd A (9 - mm) k j = true ↔ pnd A (9 - mm) (k + 1) j = true) := fun j hj => by
              rw [pnd_iff, pnd_iff]
              by_cases hjk : j = k
              · subst hjk; omega
              · omega
            rcases ha with ⟨g1, g2⟩ | ⟨i, g1, g2, g3, g4⟩
            · exact .inl ⟨g1, fun j hj hq => g2 j hj ((hp j hj).mpr hq)⟩
            · exact .inr ⟨i, g1, g2, (hp i g1).mp g3, fun j hj hq hji => g4 j hj ((hp j hj).mpr hq) hji⟩
theorem mp_all {A : Nat → Nat → Int} {n m : Nat} {d : Int} {h : zH} (hn : n ≤ 10) (ho : ∀ i, i < n → okA (A i)) (hd : 0 ≤ d) (hd2 : d ≤ 100)
    (f : (Int32 → Int32 → zH → Option (Int32 × zH)) → Int32 → Int32 → zH → Option (Int32 × zH))
    (f0 : ∀ rec o H, f rec o (zi (-1)) H = some (o, H))
    (f1 : ∀ rec (o : Int) (i : Nat) σ, i < n → 0 ≤ σ.2.1 i ∧ σ.2.1 i < 2147483648 → f rec (zi o) (zi i) (hM m σ h) = rec (zi (o + ((dpS A n (A i) (σ.2.1 i) (cel (A i)).toNat σ).2.2 - σ.2.2))) (zi (blS A i n)) (hM m (dpS A n (A i) (σ.2.1 i) (cel (A i)).toNat σ) h)) :
    wl3 f 700 0 (zi (blS A (-1) n)) (hM m (pL A n d 0) h) = some (zi (pL A n d 9).2.2, hM m (pL A n d 9) h) := by
  have h0 : (pL A n d 0).2.2 = 0 := by
    rw [← pY_flat]
    have hz : ∀ j, j ≤ 576 → (itr (fun k => fal A n 10 ((k / 24 : Nat) : Int) ((k % 24 : Nat) : Int) d) j (fun _ _ => 0, fun _ => 0, 0)).2.2 = 0 := by
      intro j
      induction j with
      | zero => exact fun _ => rfl
      | succ j ih => intro hj; rw [itr, fal_in (by omega), ih (by omega)]
    exact hz 576 (by omega)
  have h1 := mp_loop (m := m) (d := d) (h := h) hn ho hd hd2 f f0 f1 119 700 0 0 (blS A (-1) n) (by omega) (by omega) (by omega) (by omega) ?_
  · rw [drL, h0] at h1
    rw [n_0]
    exact h1
  · have hp : ∀ j, j < n → (blP A (-1) j ↔ pnd A (9 - ((0 : Nat) : Int)) 0 j = true) := fun j hj => by
      have o := ho j hj
      unfold okA at o
      rw [pnd_iff]
      unfold blP
      omega
    rcases blS_Hi A (-1) n with ⟨g1, g2⟩ | ⟨i, g1, g2, g3, g4⟩
    · exact .inl ⟨g1, fun j hj hq => g2 j hj ((hp j hj).mpr hq)⟩
    · exact .inr ⟨i, g1, g2, (hp i g1).mp g3, fun j hj hq hji => g4 j hj ((hp j hj).mpr hq) hji⟩
theorem p_mpour {h : zH} {m n sn : Nat} {th hr ro : Int32} {A : Nat → Nat → Int} {D : Nat → Int32} {f g : Nat → Int32} (km : kM h m th n sn hr ro) (ks : kSh h m n A D) (e5 : h (m + 5) = some (cA 576 f)) (e6 : h (m + 6) = some (cA 10 g)) {d : Int} (hd : 0 ≤ d ∧ d ≤ 100) :
    M_X5_pour h m (zi d) = some (zi (pL A n d 9).2.2, hM m (pL A n d 9) h) := by
  obtain ⟨hn, f', -, ho'⟩ := id ks
  have ho : ∀ i, i < n → okA (A i) := fun i hi => (ho' i hi).1
  have km5 : ∀ c, kM (z_up h (m + 5) c) m th n sn hr ro := fun c => (up_ne (by omega)).trans km
  have km6 : ∀ c c', kM (z_up (z_up h (m + 5) c) (m + 6) c') m th n sn hr ro := fun c c' => (up_ne (by omega)).trans (km5 c)
  have kmM : ∀ σ, kM (hM m σ h) m th n sn hr ro := fun σ => kM_hM km
  have ksM : ∀ σ, kSh (hM m σ h) m n A D := fun σ => kSh_hM ks
  unfold M_X5_pour
  refine wl2_st (fun j => zi (j : Int)) (fun j => z_up h (m + 5) (cA 576 (fun p => if p < j then 0 else f p))) 576 n_0 ?_ ?_ ?_ 700 (by omega)
  · simp only [Nat.not_lt_zero, if_false]
    exact (up_same e5).symm
  · intro rec j hj
    simp (disch := omega) only [n_576, zi_le]
    rw [if_neg (by omega), gR_of (km5 _) (k := 9) rfl, Option.bind_some, csI_of (up_at h _ _) (by omega) (by omega) (by omega), Option.bind_some, up_up]
    simp only [n_1, zi_add, Int.natCast_add, Int.natCast_one]
    refine congrArg (rec _) (up_congr fun p hp => ?_)
    by_cases h1 : p = j
    · rw [if_pos (by omega), if_pos (by omega)]
    · rw [if_neg (by omega)]
      by_cases h2 : p < j
      · rw [if_pos h2, if_pos (by omega)]
      · rw [if_neg h2, if_neg (by omega)]
  · intro rec
    simp (disch := omega) only [n_576, zi_le]
    rw [if_pos (by omega), up_congr (g := fun _ => 0) fun p hp => if_pos hp]
    refine wl2_st (fun j => zi (j : Int)) (fun j => z_up (z_up h (m + 5) (cA 576 (fun _ => 0))) (m + 6) (cA 10 (fun p => if p < j then 0 else g p))) 10 n_0 ?_ ?_ ?_ 700 (by omega)
    · simp only [Nat.not_lt_zero, if_false]
      exact (up_same ((up_ne (by omega)).trans e6)).symm
    · intro rec2 j hj
      simp (disch := omega) only [n_10, zi_le]
      rw [if_neg (by omega), gR_of (km6 _ _) (k := 10) rfl, Option.bind_some, csI_of (up_at _ _ _) (by omega) (by omega) (by omega), Option.bind_some, up_up]
      simp only [n_1, zi_add, Int.natCast_add, Int.natCast_one]
      refine congrArg (rec2 _) (up_congr fun p hp => ?_)
      by_cases h1 : p = j
      · rw [if_pos (by omega), if_pos (by omega)]
      · rw [if_neg (by omega)]
        by_cases h2 : p < j
        · rw [if_pos h2, if_pos (by omega)]
        · rw [if_neg h2, if_neg (by omega)]
    · intro rec2
      simp (disch := omega) only [n_10, zi_le]
      rw [if_pos (by omega), up_congr (g := fun _ => 0) fun p hp => if_pos hp]
      refine wl2_st (fun j => zi (j : Int)) (fun j => hM m (itr (fun k => fal A n 10 ((k / 24 : Nat) : Int) ((k % 24 : Nat) : Int) d) j (fun _ _ => 0, fun _ => 0, 0)) h) 576 n_0 rfl ?_ ?_ 700 (by omega)
      · intro rec3 j hj
        have e1 : zi (j : Int) / 24 = zi ((j / 24 : Nat) : Int) := by
          rw [n_24, zi_div (by omega) (by omega) (by omega) (by omega)]; rfl
        have e2 : zi (j : Int) - zi ((j / 24 : Nat) : Int) * 24 = zi ((j % 24 : Nat) : Int) := by
          rw [n_24, zi_mul, zi_sub]; congr 1; omega
        simp (disch := omega) only [zi_le, ck_of (kmM _), Option.bind_some, e1, e2]
        rw [if_neg (by omega), p_fall km ks (by omega) (by omega) (by omega), Option.bind_some, itr, n_1, zi_add, Int.natCast_add, Int.natCast_one]
      · intro rec3
        simp (disch := omega) only [zi_le]
        rw [if_pos (by omega), pY_flat, ck_of (kmM _), Option.bind_some, n_m1, p_below (kmM _) (ksM _) (by omega), Option.bind_some]
        refine mp_all hn ho hd.1 hd.2 _ (fun rec o H => ?_) (fun rec o i σ hi hK => ?_)
        · rw [if_pos rfl]
        · simp (disch := omega) only [zi_eq, ck_of (kmM _), ob_some, p_mdrip km ks hi hK, p_below (kmM _) (ksM _), zi_add]
          rw [if_neg (by omega)]
