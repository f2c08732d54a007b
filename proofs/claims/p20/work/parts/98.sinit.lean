/-! the two objects are made -/
theorem pV_thr {H : zH} {q a ci k : Nat} {c : zC} {v : Value} (e : a ≠ q) : z_pV (z_up H q c) a ci k v = (z_pV H a ci k v).map fun H' => z_up H' q c := by
  unfold z_pV z_ob
  rw [up_ne e]
  cases H a with
  | none => rfl
  | some x =>
    rcases x with x | x
    · rfl
    · rcases x with o | o
      · by_cases h1 : o.1 = ci
        · simp only [if_pos h1, Option.bind_some]
          by_cases h2 : k < o.2.length
          · simp only [if_pos h2, Option.map_some]
            rw [up_cm (Ne.symm e)]
          · simp only [if_neg h2, Option.map_none]
        · simp only [if_neg h1, Option.bind_none, Option.map_none]
      · rfl
theorem pV_top {H : zH} {a ci k : Nat} {fs : List Value} {v : Value} (e : k < fs.length) : z_pV (z_up H a (zO ci fs)) a ci k v = some (z_up H a (zO ci (fs.set k v))) := by
  rw [pV_of (up_at ..) e, up_up]
theorem gR_thr {H : zH} {q a ci k : Nat} {c : zC} (e : a ≠ q) : z_gR (z_up H q c) a ci k = z_gR H a ci k := by
  unfold z_gR z_ob
  rw [up_ne e]
theorem gR_top {H : zH} {a ci k x : Nat} {fs : List Value} (e : fs[k]? = some (.ref x)) : z_gR (z_up H a (zO ci fs)) a ci k = some x := gR_of (up_at ..) e
/-- the square and the reference, new -/
def hX (B : zH) (lo t0 : Nat) : zH :=
  z_up (z_up (z_up (z_up (z_up (z_up (z_up (z_up (z_up (z_up (z_up B lo (zO 5 [.ref (lo + 1), .ref (lo + 6), .ref (lo + 9), .ref (lo + 10), .int 0, .int 0, .int 0])) (lo + 1) (zO 2 [.ref (lo + 2), .ref (lo + 3), .ref (lo + 4), .ref (lo + 5), .int 0])) (lo + 2) (zO 0 [.int 0, .ref t0, .int 0]))
    (lo + 3) (zI 576 (fun _ => 0))) (lo + 4) (zI 576 (fun _ => 0))) (lo + 5) (zI 576 (fun _ => 0))) (lo + 6) (zO 3 [.ref (lo + 1), .ref (lo + 7), .ref (lo + 8), .int 0, .int 0])) (lo + 7) (zI 576 (fun _ => 0))) (lo + 8) (zI 10 (fun _ => 0))) (lo + 9) (zO 0 [.int 0, .ref t0, .int 0])) (lo + 10) (zI 576 (fun _ => 0))
theorem p_X1init (B : zH) (lo t0 : Nat) : M_X1_init (z_up B (lo + 1) (zO 2 [.null, .null, .null, .null, .int 0])) (lo + 2) t0 (lo + 1) =
    some (z_up (z_up (z_up (z_up (z_up B (lo + 1) (zO 2 [.ref (lo + 2), .ref (lo + 3), .ref (lo + 4), .ref (lo + 5), .int 0])) (lo + 2) (zO 0 [.int 0, .ref t0, .int 0])) (lo + 3) (zI 576 (fun _ => 0))) (lo + 4) (zI 576 (fun _ => 0))) (lo + 5) (zI 576 (fun _ => 0)), lo + 6) := by
  simp (disch := omega) only [M_X1_init, M_Jx4a65c_init_da8c8, M_Jxc12de_init_da8c8, M_Jxa1e45_init_da8c8, ob_some, pV_thr]
  rw [pV_top (by simp), ob_some, ob_some, pV_top (by simp), ob_some, ob_some]
  simp (disch := omega) only [pV_thr]
  rw [pV_top (by simp), Option.map_some, ob_some]
  simp (disch := omega) only [pV_thr]
  rw [pV_top (by simp), Option.map_some, Option.map_some, ob_some]
  simp (disch := omega) only [pV_thr]
  rw [pV_top (by simp), Option.map_some, Option.map_some, Option.map_some, ob_some]
  simp (disch := omega) only [pV_thr]
  rw [pV_top (by simp), Option.map_some, Option.map_some, Option.map_some, Option.map_some, ob_some]
  simp (disch := omega) only [pV_thr]
  rw [pV_top (by simp), Option.map_some, Option.map_some, Option.map_some, Option.map_some, ob_some]
  rfl
theorem p_X2init (B : zH) (c s : Nat) : M_X2_init (z_up B s (zO 3 [.null, .null, .null, .int 0, .int 0])) (s + 1) s c =
    some (z_up (z_up (z_up B s (zO 3 [.ref c, .ref (s + 1), .ref (s + 2), .int 0, .int 0])) (s + 1) (zI 576 (fun _ => 0))) (s + 2) (zI 10 (fun _ => 0)), s + 3) := by
  simp only [M_X2_init]
  rw [pV_top (by simp), ob_some, pV_thr (by omega), pV_top (by simp), Option.map_some, ob_some, pV_thr (by omega), pV_thr (by omega), pV_top (by simp), Option.map_some, Option.map_some, ob_some, pV_thr (by omega), pV_thr (by omega), pV_top (by simp), Option.map_some, Option.map_some, ob_some, pV_thr (by omega), pV_thr (by omega), pV_top (by simp), Option.map_some, Option.map_some, ob_some]
  rfl
theorem p_Linit (B : zH) (a t0 : Nat) : M_Jx4a65c_init_da8c8 (z_up B a (zO 0 [.int 0, .null, .int 0])) t0 a = some (z_up B a (zO 0 [.int 0, .ref t0, .int 0])) := by
  simp only [M_Jx4a65c_init_da8c8, M_Jxc12de_init_da8c8, M_Jxa1e45_init_da8c8, ob_some]
  rw [pV_top (by simp), ob_some, ob_some, pV_top (by simp), ob_some]
  rfl
theorem p_X4init (B : zH) (lo t0 : Nat) : M_X4_init (z_up B lo (zO 5 [.null, .null, .null, .null, .int 0, .int 0, .int 0])) (lo + 1) t0 lo = some (hX B lo t0, lo + 11) := by
  simp only [M_X4_init]
  rw [p_X1init, ob_some]
  simp (disch := omega) only [pV_thr]
  rw [pV_top (by simp)]
  simp only [Option.map_some, ob_some]
  simp (disch := omega) only [gR_thr]
  rw [gR_top rfl, ob_some, p_X2init, ob_some]
  simp (disch := omega) only [pV_thr]
  rw [pV_top (by simp)]
  simp only [Option.map_some, ob_some]
  rw [p_Linit, ob_some]
  simp (disch := omega) only [pV_thr]
  rw [pV_top (by simp)]
  simp only [Option.map_some, ob_some]
  simp (disch := omega) only [pV_thr]
  rw [pV_top (by simp)]
  simp only [Option.map_some, ob_some]
  simp (disch := omega) only [pV_thr]
  rw [pV_top (by simp)]
  simp only [Option.map_some, ob_some]
  simp (disch := omega) only [pV_thr]
  rw [pV_top (by simp)]
  simp only [Option.map_some, ob_some]
  simp (disch := omega) only [pV_thr]
  rw [pV_top (by simp)]
  simp only [Option.map_some, ob_some]
  rfl
/-- the sim, new -/
theorem p_X5init (B : zH) (m : Nat) : ∃ H, M_X5_init (z_up B m (zO 6 [.null, .null, .null, .int 0, .int 0])) (m + 1) m = some (H, m + 28) ∧ H m = some (zO 6 [.ref (m + 1), .ref (m + 2), .ref (m + 3), .int 0, .int 0]) ∧ H (m + 1) = some (zD 0 fun _ => none) ∧ H (m + 2) = some (zD 0 fun _ => none) ∧ (∃ f, H (m + 3) = some (zD 24 f) ∧ ∀ x, x < 24 → f x = some (m + 4 + x)) ∧ (∀ x, x < 24 → H (m + 4 + x) = some (cA 24 fun _ => 0)) ∧ ∀ q, q < m → H q = B q := by
  have e0 : (0 : Int32).toNatClampNeg = 0 := rfl
  have p1 : z_pV (z_up (z_up B m (zO 6 [.null, .null, .null, .int 0, .int 0])) (m + 1) (zD 0 (fun _ => none))) m 6 0 (.ref (m + 1)) = some (z_up (z_up (z_up B m (zO 6 [.null, .null, .null, .int 0, .int 0])) (m + 1) (zD 0 (fun _ => none))) m (zO 6 [.ref (m + 1), .null, .null, .int 0, .int 0])) := by
    rw [pV_of (a := m) ((up_ne (by omega)).trans (up_at ..)) (by simp)]; rfl
  generalize eH1 : z_up (z_up (z_up B m (zO 6 [.null, .null, .null, .int 0, .int 0])) (m + 1) (zD 0 (fun _ => none))) m (zO 6 [.ref (m + 1), .null, .null, .int 0, .int 0]) = H1 at p1
  have p2 : z_pV (z_up H1 (m + 1 + 1) (zD 0 (fun _ => none))) m 6 1 (.ref (m + 1 + 1)) = some (z_up (z_up H1 (m + 1 + 1) (zD 0 (fun _ => none))) m (zO 6 [.ref (m + 1), .ref (m + 1 + 1), .null, .int 0, .int 0])) := by
    subst eH1
    rw [pV_of (a := m) ((up_ne (by omega)).trans (up_at ..)) (by simp)]; rfl
  generalize eH2 : z_up (z_up H1 (m + 1 + 1) (zD 0 (fun _ => none))) m (zO 6 [.ref (m + 1), .ref (m + 1 + 1), .null, .int 0, .int 0]) = H2 at p2
  have mm : ∀ q, q < m + 3 → z_mm H2 (m + 1 + 1 + 1) 24 24 q = H2 q := fun q hq => by
    unfold z_mm
    rw [if_neg (by omega), if_neg (by omega)]
  have p3 : z_pV (z_mm H2 (m + 1 + 1 + 1) 24 24) m 6 2 (.ref (m + 1 + 1 + 1)) = some (z_up (z_mm H2 (m + 1 + 1 + 1) 24 24) m (zO 6 [.ref (m + 1), .ref (m + 1 + 1), .ref (m + 1 + 1 + 1), .int 0, .int 0])) := by
    rw [pV_of (a := m) (fs := [.ref (m + 1), .ref (m + 1 + 1), .null, .int 0, .int 0]) ((mm m (by omega)).trans (by subst eH2; exact up_at ..)) (by simp)]; rfl
  refine ⟨z_up (z_mm H2 (m + 1 + 1 + 1) 24 24) m (zO 6 [.ref (m + 1), .ref (m + 1 + 1), .ref (m + 1 + 1 + 1), .int 0, .int 0]), ?_, up_at .., ?_, ?_, ?_, ?_, ?_⟩
  · unfold M_X5_init
    rw [e0, if_pos (by decide), p1, ob_some, if_pos (by decide), p2, ob_some, p3, ob_some]
  · rw [up_ne (by omega), mm _ (by omega)]
    subst eH2
    rw [up_ne (by omega), up_ne (by omega)]
    subst eH1
    rw [up_ne (by omega), up_at]
  · rw [up_ne (by omega), mm _ (by omega)]
    subst eH2
    rw [up_ne (by omega), up_at]
  · refine ⟨fun j => if j < 24 then some (m + 1 + 1 + 1 + 1 + j) else none, ?_, fun x hx => by show (if x < 24 then _ else _) = _; exact if_pos hx⟩
    rw [up_ne (by omega)]
    unfold z_mm
    rw [if_pos rfl]
  · intro x hx
    rw [up_ne (by omega)]
    unfold z_mm
    rw [if_neg (by omega), if_pos (by omega), zc0]
  · intro q hq
    rw [up_ne (by omega), mm _ (by omega)]
    subst eH2
    rw [up_ne (by omega), up_ne (by omega)]
    subst eH1
    rw [up_ne (by omega), up_ne (by omega), up_ne (by omega)]
def A0S : Nat → Nat → Int := fun _ _ => 0
theorem tot_0 : (tot fun _ _ => ((0 : Int32)).toInt) = 0 := by
  exact (sm_congr (g := fun _ => 0) fun _ _ => sm_zero 24).trans (sm_zero 24)
theorem start_IC {B H : zH} {lo t0 nx : Nat} (ht : t0 < lo) (hB : B t0 = some zE) (e : ∀ q, q < lo + 11 → (q = t0 ∨ lo ≤ q) → H q = hX B lo t0 q) (hnx : lo + 39 ≤ nx) : IC (fun q => lo + 11 ≤ q ∧ q < lo + 39) t0 lo H nx 0 A0S (fun _ => 0) 0 A0S (fun _ => 0) (fun _ _ => 0) 0 0 := by
  have a576 : ∀ f : Nat → Int32, (∀ p, p < 576 → f p = 0) → zI 576 (fun _ => 0) = cA 576 f := fun f hf => by
    rw [ar_0 576]
    exact cA_congr fun p hp => (hf p hp).symm
  have l0 : hX B lo t0 lo = some (zO 5 [.ref (lo + 1), .ref (lo + 6), .ref (lo + 9), .ref (lo + 10), .int 0, .int 0, .int 0]) := by
    unfold hX
    rw [up_ne (by omega), up_ne (by omega), up_ne (by omega), up_ne (by omega), up_ne (by omega), up_ne (by omega), up_ne (by omega), up_ne (by omega), up_ne (by omega), up_ne (by omega), up_at]
  have l1 : hX B lo t0 (lo + 1) = some (zO 2 [.ref (lo + 2), .ref (lo + 3), .ref (lo + 4), .ref (lo + 5), .int 0]) := by
    unfold hX
    rw [up_ne (by omega), up_ne (by omega), up_ne (by omega), up_ne (by omega), up_ne (by omega), up_ne (by omega), up_ne (by omega), up_ne (by omega), up_ne (by omega), up_at]
  have l2 : hX B lo t0 (lo + 2) = some (zO 0 [.int 0, .ref t0, .int 0]) := by
    unfold hX
    rw [up_ne (by omega), up_ne (by omega), up_ne (by omega), up_ne (by omega), up_ne (by omega), up_ne (by omega), up_ne (by omega), up_ne (by omega), up_at]
  have l3 : hX B lo t0 (lo + 3) = some (zI 576 (fun _ => 0)) := by
    unfold hX
    rw [up_ne (by omega), up_ne (by omega), up_ne (by omega), up_ne (by omega), up_ne (by omega), up_ne (by omega), up_ne (by omega), up_at]
  have l4 : hX B lo t0 (lo + 4) = some (zI 576 (fun _ => 0)) := by
    unfold hX
    rw [up_ne (by omega), up_ne (by omega), up_ne (by omega), up_ne (by omega), up_ne (by omega), up_ne (by omega), up_at]
  have l5 : hX B lo t0 (lo + 5) = some (zI 576 (fun _ => 0)) := by
    unfold hX
    rw [up_ne (by omega), up_ne (by omega), up_ne (by omega), up_ne (by omega), up_ne (by omega), up_at]
  have l6 : hX B lo t0 (lo + 6) = some (zO 3 [.ref (lo + 1), .ref (lo + 7), .ref (lo + 8), .int 0, .int 0]) := by
    unfold hX
    rw [up_ne (by omega), up_ne (by omega), up_ne (by omega), up_ne (by omega), up_at]
  have l7 : hX B lo t0 (lo + 7) = some (zI 576 (fun _ => 0)) := by
    unfold hX
    rw [up_ne (by omega), up_ne (by omega), up_ne (by omega), up_at]
  have l8 : hX B lo t0 (lo + 8) = some (zI 10 (fun _ => 0)) := by
    unfold hX
    rw [up_ne (by omega), up_ne (by omega), up_at]
  have l9 : hX B lo t0 (lo + 9) = some (zO 0 [.int 0, .ref t0, .int 0]) := by
    unfold hX
    rw [up_ne (by omega), up_at]
  have l10 : hX B lo t0 (lo + 10) = some (zI 576 (fun _ => 0)) := by
    unfold hX
    rw [up_at]
  have lt : hX B lo t0 t0 = some zE := by
    unfold hX
    rw [up_ne (by omega), up_ne (by omega), up_ne (by omega), up_ne (by omega), up_ne (by omega), up_ne (by omega), up_ne (by omega), up_ne (by omega), up_ne (by omega), up_ne (by omega), up_ne (by omega)]
    exact hB
  have z0 : zi 0 = (0 : Int32) := rfl
  refine ⟨0, 0, 0, 0, 0, t0, t0, fun _ => 0, fun _ => 0, fun _ => 0, fun _ => 0, fun _ => 0, fun _ => 0, ⟨?_, ?_⟩, ⟨⟨(e _ (by omega) (by omega)).trans l1, ⟨(e _ (by omega) (by omega)).trans l2, by omega, fun h => absurd h (by omega)⟩, fun i hi => absurd hi (by omega)⟩, ?_, ?_, ?_⟩, ⟨(e _ (by omega) (by omega)).trans l6, ?_, ?_⟩, ⟨⟨⟨(e _ (by omega) (by omega)).trans l9, by omega, fun h => absurd h (by omega)⟩, fun i hi => absurd hi (by omega)⟩, fun i hi => absurd hi (by omega), by omega⟩, ⟨ht, by omega, fun i hi => absurd hi (by omega), fun i hi => absurd hi (by omega), .inl rfl, .inl rfl, fun i j hi => absurd hi (by omega), fun i hi => absurd hi (by omega), fun i hi => absurd hi (by omega), fun i j hi => absurd hi (by omega), fun _ => rfl⟩, .inl ⟨rfl, rfl⟩, .inl ⟨rfl, rfl⟩, (e _ (by omega) (by omega)).trans lt, fun q hq => ⟨hq.1, by omega, by omega, by omega, fun j hj => absurd hj (by omega), fun j hj => absurd hj (by omega)⟩⟩
  · rw [tot_0]
    exact (e _ (by omega) (by omega)).trans l0
  · exact (e _ (by omega) (by omega)).trans (l10.trans (congrArg some (a576 _ fun _ _ => rfl)))
  · exact (e _ (by omega) (by omega)).trans (l3.trans (congrArg some (a576 _ fun _ _ => rfl)))
  · exact (e _ (by omega) (by omega)).trans (l4.trans (congrArg some (a576 _ fun _ _ => rfl)))
  · exact (e _ (by omega) (by omega)).trans (l5.trans (congrArg some (a576 _ fun _ _ => rfl)))
  · exact (e _ (by omega) (by omega)).trans (l7.trans (congrArg some (a576 _ fun _ _ => rfl)))
  · exact (e _ (by omega) (by omega)).trans (l8.trans (congrArg some (zc0 10)))
/-- both, new -/
theorem start_LI {B H : zH} {lo t0 : Nat} (ht : t0 < lo) (hB : B t0 = some zE) (e : ∀ q, q < lo + 11 → (q = t0 ∨ lo ≤ q) → H q = hX B lo t0 q) (m0 : H (lo + 11) = some (zO 6 [.ref (lo + 11 + 1), .ref (lo + 11 + 2), .ref (lo + 11 + 3), .int 0, .int 0])) (m1 : H (lo + 11 + 1) = some (zD 0 fun _ => none)) (m2 : H (lo + 11 + 2) = some (zD 0 fun _ => none)) (m3 : ∃ f, H (lo + 11 + 3) = some (zD 24 f) ∧ ∀ x, x < 24 → f x = some (lo + 11 + 4 + x)) (m4 : ∀ x, x < 24 → H (lo + 11 + 4 + x) = some (cA 24 fun _ => 0)) :
    LI 0 0 t0 lo H (lo + 39) := by
  refine ⟨_, 0, 0, A0S, fun _ => 0, 0, A0S, fun _ => 0, fun _ _ => 0, 0, 0, by omega, start_IC ht hB e (Nat.le_refl _), ⟨lo + 12, lo + 13, fun _ => 0, fun _ => 0, ?_, ⟨by omega, ⟨_, m1, fun i hi => absurd hi (by omega)⟩, fun i hi => absurd hi (by omega)⟩, ⟨by omega, ⟨_, m2, fun i hi => absurd hi (by omega)⟩, fun i hi => absurd hi (by omega), fun i hi => absurd hi (by omega)⟩, ⟨?_, ?_⟩, ⟨Nat.le_refl _, .inl rfl, .inl rfl, fun i hi => absurd hi (by omega), fun i hi => absurd hi (by omega), by omega, fun i hi => absurd hi (by omega), fun i hi => absurd hi (by omega), fun i j hi => absurd hi (by omega), fun i j hi => absurd hi (by omega), fun i j hi => absurd hi (by omega)⟩, ⟨fun q h1 h2 => ⟨h1, h2⟩, ⟨by omega, by omega⟩, ⟨by omega, by omega⟩, fun i hi => absurd hi (by omega), fun i hi => absurd hi (by omega)⟩⟩, fun _ _ => 0, 0, fun _ => 0, fun x y => ⟨rfl, Int.le_refl _⟩, rfl, Int.le_refl _, ?_, fun i hi => absurd hi (by omega)⟩
  · exact m0
  · obtain ⟨f, q1, q2⟩ := m3
    exact ⟨f, q1, fun x hx => q2 x hx⟩
  · exact m4
  · rw [show (tot fun _ _ => (0 : Int)) = 0 from (sm_congr (g := fun _ => 0) fun _ _ => sm_zero 24).trans (sm_zero 24)]
    rfl
