/-! best, by the reference -/
def bv (σ : zB) (p : Nat) : Int32 := if p = 0 then zi σ.1 else if p = 1 then zi σ.2.1 else zi σ.2.2
def hB (h : zH) (nx : Nat) (A : Nat → Nat → Int) (n : Nat) (σ : zB) : zH := z_up (z_up h nx (cA 24 fun p => mk fun i => !pq A n (p : Nat) (i : Nat))) (nx + 1) (cA 3 (bv σ))
theorem hB_0 (h : zH) (nx : Nat) (A : Nat → Nat → Int) (n : Nat) (σ : zB) : hB h nx A n σ nx = some (cA 24 fun p => mk fun i => !pq A n (p : Nat) (i : Nat)) := by rw [hB, up_ne (by omega), up_at]
theorem hB_1 (h : zH) (nx : Nat) (A : Nat → Nat → Int) (n : Nat) (σ : zB) : hB h nx A n σ (nx + 1) = some (cA 3 (bv σ)) := by rw [hB, up_at]
theorem hB_ne {h : zH} {nx q : Nat} {A : Nat → Nat → Int} {n : Nat} {σ : zB} (e : q ≠ nx ∧ q ≠ nx + 1) : hB h nx A n σ q = h q := by rw [hB, up_ne e.2, up_ne e.1]
theorem gn_col {A : Nat → Nat → Int} {n v c y : Nat} (hy : y + v ≤ 24) :
    pc (mk fun j => !pq A n (c : Nat) (j : Nat) && decide ((y : Int) ≤ j ∧ (j : Int) < y + v)) = sm v fun j => b1 (!pq A n (c : Nat) (y + j : Nat)) := by
  rw [pc_24 (fun j hj => by rw [decide_eq_false (by omega), Bool.and_false]), sm_rect1 (fun j => b1 (!pq A n (c : Nat) (j : Nat))) hy]
  refine sm_congr fun j _ => ?_
  by_cases h : y ≤ j ∧ j < y + v
  · rw [if_pos h, decide_eq_true (by omega), Bool.and_true]
  · rw [if_neg h, decide_eq_false (by omega), Bool.and_false]; rfl
theorem p_X5best {h : zH} {m n sn nx : Nat} {th hr ro : Int32} {A : Nat → Nat → Int} {D : Nat → Int32} (km : kM h m th n sn hr ro) (ks : kSh h m n A D) (hnx : m + 7 ≤ nx)
    {w v q : Int} (hw : -2147483648 ≤ w ∧ w < 2147483648) (hv : -2147483648 ≤ v ∧ v < 2147483648) (hq : -2147483648 ≤ q ∧ q < 2147483648) :
    M_X5_best h nx m (zi w) (zi v) (zi q) = some (if 1 ≤ w ∧ w ≤ 24 ∧ 1 ≤ v ∧ v ≤ 24 then (if 0 ≤ q ∧ q ≤ 2 then (zi (besS A n w.toNat v.toNat q), hB (hT h m 0 n sn hr ro) nx A n (bsY A n w.toNat v.toNat (25 - v.toNat)), nx + 2) else (0, hT h m 2 n sn hr ro, nx)) else (0, hT h m 1 n sn hr ro, nx)) := by
  have hn := ks.1
  have k1 := kM_hT h m 0 n sn hr ro
  have k2 := kSh_hT (n := n) (sn := sn) (t := 0) (hr := hr) (ro := ro) ks
  have iw : M_X5_isIn (zi w) 1 24 = some (zi (b1 (decide (1 ≤ w ∧ w ≤ 24)))) := by
    rw [n_1, n_24]; exact p_isIn (by omega) (by omega) (by omega)
  have iv : M_X5_isIn (zi v) 1 24 = some (zi (b1 (decide (1 ≤ v ∧ v ≤ 24)))) := by
    rw [n_1, n_24]; exact p_isIn (by omega) (by omega) (by omega)
  have iq : M_X5_isIn (zi q) 0 2 = some (zi (b1 (decide (0 ≤ q ∧ q ≤ 2)))) := by
    rw [n_0, n_2]; exact p_isIn (by omega) (by omega) (by omega)
  simp only [M_X5_best, p_setTh km, ob_some, iw, iv, iq, jn0_e, b1_0, ck_of k1, p_no k1, hT_hT]
  by_cases h1 : 1 ≤ w ∧ w ≤ 24
  · rw [if_neg (by omega)]
    by_cases h2 : 1 ≤ v ∧ v ≤ 24
    · rw [if_neg (by omega), if_pos (c := 1 ≤ w ∧ _) ⟨h1.1, h1.2, h2⟩]
      by_cases h3 : 0 ≤ q ∧ q ≤ 2
      · rw [if_neg (by omega), if_pos (c := 0 ≤ q ∧ q ≤ 2) h3]
        obtain ⟨W, rfl⟩ : ∃ W : Nat, w = W := ⟨w.toNat, by omega⟩
        obtain ⟨V, rfl⟩ : ∃ V : Nat, v = V := ⟨v.toNat, by omega⟩
        simp only [Int.toNat_natCast]
        refine wl2_st (fun j => zi (j : Int)) (fun j => z_up (hT h m 0 n sn hr ro) nx (cA 24 fun p => if p < j then mk fun i => !pq A n (p : Nat) (i : Nat) else 0)) 24 n_0 ?_ ?_ ?_ 700 (by omega)
        · simp only [Nat.not_lt_zero, if_false]
          rw [cA, ← ar_0]
        · intro rec j hj
          have kj : ∀ c', kM (z_up (hT h m 0 n sn hr ro) nx c') m 0 n sn hr ro := fun c' => (up_ne (by omega)).trans k1
          have ks' : ∀ c', kSh (z_up (hT h m 0 n sn hr ro) nx c') m n A D := fun c' => by
            obtain ⟨hn, f, g1, g2⟩ := k2
            exact ⟨hn, f, (up_ne (by omega)).trans g1, g2⟩
          have e1 : ∀ c', M_X5_covered_ (z_up (hT h m 0 n sn hr ro) nx c') m (zi j) = some (mk fun i => pq A n (j : Nat) (i : Nat)) := fun c' => p_cov (kj c') (ks' c') (by omega)
          simp (disch := omega) only [n_24, zi_le, ck_of (kj _), ob_some, e1, mk_not]
          rw [if_neg (by omega), csI_of (up_at _ _ _) (by omega) (by omega) (by omega), Option.bind_some, up_up, n_1, zi_add, Int.natCast_add, Int.natCast_one]
          refine congrArg (rec _) (up_congr fun p hp => ?_)
          by_cases g1 : p = j
          · rw [if_pos (by omega), if_pos (by omega), g1]
          · rw [if_neg (by omega)]
            by_cases g2 : p < j
            · rw [if_pos g2, if_pos (by omega)]
            · rw [if_neg g2, if_neg (by omega)]
        · intro rec
          simp (disch := omega) only [n_24, zi_le]
          rw [if_pos (by omega), up_congr (g := fun p => mk fun i => !pq A n (p : Nat) (i : Nat)) (fun p hp => if_pos hp), ar_0 3]
          have s0 : ∀ (H : zH) (f : Nat → Int32) (x : Int32), z_sI (z_up H (nx + 1) (cA 3 f)) (nx + 1) 0 x = some (z_up H (nx + 1) (cA 3 fun p => if p = 0 then x else f p)) := fun H f x => by
            rw [n_0, csI_of (up_at _ _ _) (by omega) (by omega) (by omega), up_up]; rfl
          have s1 : ∀ (H : zH) (f : Nat → Int32) (x : Int32), z_sI (z_up H (nx + 1) (cA 3 f)) (nx + 1) 1 x = some (z_up H (nx + 1) (cA 3 fun p => if p = 1 then x else f p)) := fun H f x => by
            rw [n_1, csI_of (up_at _ _ _) (by omega) (by omega) (by omega), up_up]; rfl
          have s2 : ∀ (H : zH) (f : Nat → Int32) (x : Int32), z_sI (z_up H (nx + 1) (cA 3 f)) (nx + 1) 2 x = some (z_up H (nx + 1) (cA 3 fun p => if p = 2 then x else f p)) := fun H f x => by
            rw [n_2, csI_of (up_at _ _ _) (by omega) (by omega) (by omega), up_up]; rfl
          rw [s0, ob_some, s1, ob_some, s2, ob_some]
          refine wl2_st (fun j => zi (j : Int)) (fun j => hB (hT h m 0 n sn hr ro) nx A n (bsY A n W V j)) (25 - V) n_0 ?_ ?_ ?_ 700 (by omega)
          · refine up_congr fun p hp => ?_
            have hp3 : p = 0 ∨ p = 1 ∨ p = 2 := by omega
            rcases hp3 with rfl | rfl | rfl <;> rfl
          · intro rec2 j hj
            have hb := bsY_bd (A := A) (n := n) (w := W) (v := V) (by omega) (by omega) j
            simp (disch := omega) only [zi_add, zi_lt]
            rw [if_neg (by omega)]
            refine wl2_st (fun t => zi (t : Int)) (fun t => hB (hT h m 0 n sn hr ro) nx A n (bsX A n W V j t (bsY A n W V j))) (25 - W) n_0 rfl ?_ ?_ 700 (by omega)
            · intro rec3 t ht
              have hb2 := bsX_bd (A := A) (n := n) (w := W) (v := V) (y := j) (by omega) (by omega) hb t
              unfold bdB at hb2
              have hg := gnS_bd (A := A) (n := n) (w := W) (v := V) (x := t) (y := j) (by omega) (by omega)
              simp (disch := omega) only [zi_lt, zi_add]
              rw [if_neg (by omega)]
              refine wl2_st (fun i => zi (sm i fun i => sm V fun y => b1 (!pq A n (t + i : Nat) (j + y : Nat)))) (fun i => zi (t + i : Nat)) W n_0 rfl ?_ ?_ 700 (by omega)
              · intro rec4 i hi
                simp (disch := omega) only [zi_le, cI_of (hB_0 ..), ob_some, p_rows, Int.toNat_natCast, mk_and, p_many]
                rw [if_neg (by omega), gn_col (by omega), zi_add, n_1, zi_add]
                have q1 : ((t + i : Nat) : Int) + 1 = ((t + (i + 1) : Nat) : Int) := by omega
                rw [q1]
                rfl
              · intro rec4
                have hgs : (sm W fun i => sm V fun y => b1 (!pq A n (t + i : Nat) (j + y : Nat))) = gnS A n W V t j := (sm_swap V W fun y i => b1 (!pq A n (t + i : Nat) (j + y : Nat))).symm
                have e2 : ∀ σ, z_aI (hB (hT h m 0 n sn hr ro) nx A n σ) (nx + 1) 2 = some (zi σ.2.2) := fun σ => by
                  rw [n_2, cI_of (hB_1 ..) (by omega) (by omega) (by omega)]; rfl
                rw [hgs]
                simp (disch := omega) only [zi_le, e2, ob_some, zi_lt, jn1_e]
                rw [if_pos (by omega), bsX]
                by_cases g1 : (bsX A n W V j t (bsY A n W V j)).2.2 < gnS A n W V t j
                · rw [if_pos g1, if_pos g1]
                  unfold hB
                  rw [s0, ob_some, s1, ob_some, s2, ob_some, n_1, zi_add, Int.natCast_add, Int.natCast_one]
                  refine congrArg (rec3 _) (up_congr fun p hp => ?_)
                  have hp3 : p = 0 ∨ p = 1 ∨ p = 2 := by omega
                  rcases hp3 with rfl | rfl | rfl <;> rfl
                · rw [if_neg g1, if_neg g1, n_1, zi_add, Int.natCast_add, Int.natCast_one]
            · intro rec3
              simp (disch := omega) only [zi_add, zi_lt, n_1, Int.natCast_add, Int.natCast_one]
              rw [if_pos (by omega)]
              rfl
          · intro rec2
            simp (disch := omega) only [zi_add, zi_lt]
            rw [if_pos (by omega), cI_of (hB_1 ..) (by omega) (by omega) (by omega), Option.bind_some]
            have hq3 : q = 0 ∨ q = 1 ∨ q = 2 := by omega
            rcases hq3 with rfl | rfl | rfl <;> rfl
      · rw [if_pos (by omega), if_neg (c := 0 ≤ q ∧ q ≤ 2) h3]
    · rw [if_pos (by omega), if_neg (c := 1 ≤ w ∧ _) (fun h => h2 h.2.2)]
  · rw [if_pos (by omega), if_neg (c := 1 ≤ w ∧ _) (fun h => h1 ⟨h.1, h.2.1⟩)]
