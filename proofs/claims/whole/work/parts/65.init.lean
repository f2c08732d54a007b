/-! the two objects are made -/
theorem pV_thr {H : zH} {q a ci k : Nat} {c : zC} {v : Value} (e : a ≠ q) : z_pV (z_up H q c) a ci k v = (z_pV H a ci k v).map fun H' => z_up H' q c := by
  unfold z_pV z_ob
  rw [up_ne e]
  cases H a with
  | none => rfl
  | some x =>
    rcases x with x | x
    · rfl
    · rcases x with o | o
      · by_cases h1 : o.1 = ci
        · simp only [if_pos h1, Option.bind_some]
          by_cases h2 : k < o.2.length
          · simp only [if_pos h2, Option.map_some]
            rw [up_cm (Ne.symm e)]
          · simp only [if_neg h2, Option.map_none]
        · simp only [if_neg h1, Option.bind_none, Option.map_none]
      · rfl
theorem pV_top {H : zH} {a ci k : Nat} {fs : List Value} {v : Value} (e : k < fs.length) : z_pV (z_up H a (zO ci fs)) a ci k v = some (z_up H a (zO ci (fs.set k v))) := by
  rw [pV_of (up_at ..) e, up_up]
theorem gR_thr {H : zH} {q a ci k : Nat} {c : zC} (e : a ≠ q) : z_gR (z_up H q c) a ci k = z_gR H a ci k := by
  unfold z_gR z_ob
  rw [up_ne e]
theorem gR_top {H : zH} {a ci k x : Nat} {fs : List Value} (e : fs[k]? = some (.ref x)) : z_gR (z_up H a (zO ci fs)) a ci k = some x := gR_of (up_at ..) e
/-- the square and the reference, new -/
def hX (B : zH) (lo t0 : Nat) : zH :=
  z_up (z_up (z_up (z_up (z_up (z_up (z_up (z_up (z_up (z_up (z_up B lo (zO 5 [.ref (lo + 1), .ref (lo + 6), .ref (lo + 9), .ref (lo + 10), .int 0, .int 0, .int 0])) (lo + 1) (zO 2 [.ref (lo + 2), .ref (lo + 3), .ref (lo + 4), .ref (lo + 5), .int 0])) (lo + 2) (zO 0 [.int 0, .ref t0, .int 0]))
    (lo + 3) (zI 576 (fun _ => 0))) (lo + 4) (zI 576 (fun _ => 0))) (lo + 5) (zI 576 (fun _ => 0))) (lo + 6) (zO 3 [.ref (lo + 1), .ref (lo + 7), .ref (lo + 8), .int 0, .int 0])) (lo + 7) (zI 576 (fun _ => 0))) (lo + 8) (zI 10 (fun _ => 0))) (lo + 9) (zO 0 [.int 0, .ref t0, .int 0])) (lo + 10) (zI 576 (fun _ => 0))
theorem p_X1init (B : zH) (lo t0 : Nat) : M_X1_init (z_up B (lo + 1) (zO 2 [.null, .null, .null, .null, .int 0])) (lo + 2) t0 (lo + 1) =
    some (z_up (z_up (z_up (z_up (z_up B (lo + 1) (zO 2 [.ref (lo + 2), .ref (lo + 3), .ref (lo + 4), .ref (lo + 5), .int 0])) (lo + 2) (zO 0 [.int 0, .ref t0, .int 0])) (lo + 3) (zI 576 (fun _ => 0))) (lo + 4) (zI 576 (fun _ => 0))) (lo + 5) (zI 576 (fun _ => 0)), lo + 6) := by
  simp (disch := omega) only [M_X1_init, M_Jx4a65c_init_da8c8, M_Jxc12de_init_da8c8, M_Jxa1e45_init_da8c8, ob_some, pV_thr]
  rw [pV_top (by simp), ob_some, ob_some, pV_top (by simp), ob_some, ob_some]
  simp (disch := omega) only [pV_thr]
  rw [pV_top (by simp), Option.map_some, ob_some]
  simp (disch := omega) only [pV_thr]
  rw [pV_top (by simp), Option.map_some, Option.map_some, ob_some]
  simp (disch := omega) only [pV_thr]
  rw [pV_top (by simp), Option.map_some, Option.map_some, Option.map_some, ob_some]
  simp (disch := omega) only [pV_thr]
  rw [pV_top (by simp), Option.map_some, Option.map_some, Option.map_some, Option.map_some, ob_some]
  simp (disch := omega) only [pV_thr]
  rw [pV_top (by simp), Option.map_some, Option.map_some, Option.map_some, Option.map_some, ob_some]
  rfl
theorem p_X2init (B : zH) (c s : Nat) : M_X2_init (z_up B s (zO 3 [.null, .null, .null, .int 0, .int 0])) (s + 1) s c =
    some (z_up (z_up (z_up B s (zO 3 [.ref c, .ref (s + 1), .ref (s + 2), .int 0, .int 0])) (s + 1) (zI 576 (fun _ => 0))) (s + 2) (zI 10 (fun _ => 0)), s + 3) := by
  simp only [M_X2_init]
  rw [pV_top (by simp), ob_some, pV_thr (by omega), pV_top (by simp), Option.map_some, ob_some, pV_thr (by omega), pV_thr (by omega), pV_top (by simp), Option.map_some, Option.map_some, ob_some, pV_thr (by omega), pV_thr (by omega), pV_top (by simp), Option.map_some, Option.map_some, ob_some, pV_thr (by omega), pV_thr (by omega), pV_top (by simp), Option.map_some, Option.map_some, ob_some]
  rfl
theorem p_Linit (B : zH) (a t0 : Nat) : M_Jx4a65c_init_da8c8 (z_up B a (zO 0 [.int 0, .null, .int 0])) t0 a = some (z_up B a (zO 0 [.int 0, .ref t0, .int 0])) := by
  simp only [M_Jx4a65c_init_da8c8, M_Jxc12de_init_da8c8, M_Jxa1e45_init_da8c8, ob_some]
  rw [pV_top (by simp), ob_some, ob_some, pV_top (by simp), ob_some]
  rfl
theorem p_X4init (B : zH) (lo t0 : Nat) : M_X4_init (z_up B lo (zO 5 [.null, .null, .null, .null, .int 0, .int 0, .int 0])) (lo + 1) t0 lo = some (hX B lo t0, lo + 11) := by
  simp only [M_X4_init]
  rw [p_X1init, ob_some]
  simp (disch := omega) only [pV_thr]
  rw [pV_top (by simp)]
  simp only [Option.map_some, ob_some]
  simp (disch := omega) only [gR_thr]
  rw [gR_top rfl, ob_some, p_X2init, ob_some]
  simp (disch := omega) only [pV_thr]
  rw [pV_top (by simp)]
  simp only [Option.map_some, ob_some]
  rw [p_Linit, ob_some]
  simp (disch := omega) only [pV_thr]
  rw [pV_top (by simp)]
  simp only [Option.map_some, ob_some]
  simp (disch := omega) only [pV_thr]
  rw [pV_top (by simp)]
  simp only [Option.map_some, ob_some]
  simp (disch := omega) only [pV_thr]
  rw [pV_top (by simp)]
  simp only [Option.map_some, ob_some]
  simp (disch := omega) only [pV_thr]
  rw [pV_top (by simp)]
  simp only [Option.map_some, ob_some]
  simp (disch := omega) only [pV_thr]
  rw [pV_top (by simp)]
  simp only [Option.map_some, ob_some]
  rfl
def hY (B : zH) (m : Nat) : zH :=
  z_up (z_up (z_up (z_up (z_up (z_up (z_up B m (zO 6 [.int 0, .int 0, .ref (m + 1), .int 0, .ref (m + 2), .ref (m + 3), .ref (m + 4), .int 0, .int 0, .ref (m + 5), .ref (m + 6)])) (m + 1) (zI 80 (fun _ => 0))) (m + 2) (zI 8 (fun _ => 0))) (m + 3) (zI 8 (fun _ => 0))) (m + 4) (zI 576 (fun _ => 0))) (m + 5) (zI 576 (fun _ => 0))) (m + 6) (zI 10 (fun _ => 0))
theorem p_X5init (B : zH) (m : Nat) : M_X5_init (z_up B m (zO 6 [.int 0, .int 0, .null, .int 0, .null, .null, .null, .int 0, .int 0, .null, .null])) (m + 1) m = some (hY B m, m + 7) := by
  simp only [M_X5_init]
  simp (disch := omega) only [pV_thr]
  rw [pV_top (by simp)]
  simp only [Option.map_some, ob_some]
  simp (disch := omega) only [pV_thr]
  rw [pV_top (by simp)]
  simp only [Option.map_some, ob_some]
  simp (disch := omega) only [pV_thr]
  rw [pV_top (by simp)]
  simp only [Option.map_some, ob_some]
  simp (disch := omega) only [pV_thr]
  rw [pV_top (by simp)]
  simp only [Option.map_some, ob_some]
  simp (disch := omega) only [pV_thr]
  rw [pV_top (by simp)]
  simp only [Option.map_some, ob_some]
  simp (disch := omega) only [pV_thr]
  rw [pV_top (by simp)]
  simp only [Option.map_some, ob_some]
  rfl
/-- the heap with which the loop begins -/
def h0S (t0 : Nat) : zH := fun q => if q = t0 then some zE else none
def hZ (lo t0 : Nat) : zH := z_up (hY (hX (h0S t0) lo t0) (lo + 11)) (lo + 18) (zL 1 (fun _ => 0))
theorem zc0 (n : Nat) : zI n (fun _ => 0) = cA n (fun _ => 0) := congrArg (zI n) (ar_0 n)
def A0S : Nat → Nat → Int := fun _ _ => 0
theorem tot_0 : (tot fun _ _ => ((0 : Int32)).toInt) = 0 := by
  exact (sm_congr (g := fun _ => 0) fun _ _ => sm_zero 24).trans (sm_zero 24)
theorem start_IC {lo t0 : Nat} (ht : t0 < lo) : IC t0 lo (hZ lo t0) (lo + 19) 0 A0S (fun _ => 0) 0 A0S (fun _ => 0) (fun _ _ => 0) 0 0 := by
  have hyq : ∀ B m q, q < m → hY B m q = B q := fun B m q hq => by
    unfold hY
    rw [up_ne (by omega), up_ne (by omega), up_ne (by omega), up_ne (by omega), up_ne (by omega), up_ne (by omega), up_ne (by omega)]
  have e : ∀ q, q < lo + 11 → hZ lo t0 q = hX (h0S t0) lo t0 q := fun q hq => (up_ne (by omega)).trans (hyq _ _ _ hq)
  have a576 : ∀ f : Nat → Int32, (∀ p, p < 576 → f p = 0) → zI 576 (fun _ => 0) = cA 576 f := fun f hf => by
    rw [ar_0 576]
    exact cA_congr fun p hp => (hf p hp).symm
  have l0 : hX (h0S t0) lo t0 lo = some (zO 5 [.ref (lo + 1), .ref (lo + 6), .ref (lo + 9), .ref (lo + 10), .int 0, .int 0, .int 0]) := by
    unfold hX
    rw [up_ne (by omega), up_ne (by omega), up_ne (by omega), up_ne (by omega), up_ne (by omega), up_ne (by omega), up_ne (by omega), up_ne (by omega), up_ne (by omega), up_ne (by omega), up_at]
  have l1 : hX (h0S t0) lo t0 (lo + 1) = some (zO 2 [.ref (lo + 2), .ref (lo + 3), .ref (lo + 4), .ref (lo + 5), .int 0]) := by
    unfold hX
    rw [up_ne (by omega), up_ne (by omega), up_ne (by omega), up_ne (by omega), up_ne (by omega), up_ne (by omega), up_ne (by omega), up_ne (by omega), up_ne (by omega), up_at]
  have l2 : hX (h0S t0) lo t0 (lo + 2) = some (zO 0 [.int 0, .ref t0, .int 0]) := by
    unfold hX
    rw [up_ne (by omega), up_ne (by omega), up_ne (by omega), up_ne (by omega), up_ne (by omega), up_ne (by omega), up_ne (by omega), up_ne (by omega), up_at]
  have l3 : hX (h0S t0) lo t0 (lo + 3) = some (zI 576 (fun _ => 0)) := by
    unfold hX
    rw [up_ne (by omega), up_ne (by omega), up_ne (by omega), up_ne (by omega), up_ne (by omega), up_ne (by omega), up_ne (by omega), up_at]
  have l4 : hX (h0S t0) lo t0 (lo + 4) = some (zI 576 (fun _ => 0)) := by
    unfold hX
    rw [up_ne (by omega), up_ne (by omega), up_ne (by omega), up_ne (by omega), up_ne (by omega), up_ne (by omega), up_at]
  have l5 : hX (h0S t0) lo t0 (lo + 5) = some (zI 576 (fun _ => 0)) := by
    unfold hX
    rw [up_ne (by omega), up_ne (by omega), up_ne (by omega), up_ne (by omega), up_ne (by omega), up_at]
  have l6 : hX (h0S t0) lo t0 (lo + 6) = some (zO 3 [.ref (lo + 1), .ref (lo + 7), .ref (lo + 8), .int 0, .int 0]) := by
    unfold hX
    rw [up_ne (by omega), up_ne (by omega), up_ne (by omega), up_ne (by omega), up_at]
  have l7 : hX (h0S t0) lo t0 (lo + 7) = some (zI 576 (fun _ => 0)) := by
    unfold hX
    rw [up_ne (by omega), up_ne (by omega), up_ne (by omega), up_at]
  have l8 : hX (h0S t0) lo t0 (lo + 8) = some (zI 10 (fun _ => 0)) := by
    unfold hX
    rw [up_ne (by omega), up_ne (by omega), up_at]
  have l9 : hX (h0S t0) lo t0 (lo + 9) = some (zO 0 [.int 0, .ref t0, .int 0]) := by
    unfold hX
    rw [up_ne (by omega), up_at]
  have l10 : hX (h0S t0) lo t0 (lo + 10) = some (zI 576 (fun _ => 0)) := by
    unfold hX
    rw [up_at]
  have lt : hX (h0S t0) lo t0 t0 = some zE := by
    unfold hX
    rw [up_ne (by omega), up_ne (by omega), up_ne (by omega), up_ne (by omega), up_ne (by omega), up_ne (by omega), up_ne (by omega), up_ne (by omega), up_ne (by omega), up_ne (by omega), up_ne (by omega)]
    exact if_pos rfl
  have z0 : zi 0 = (0 : Int32) := rfl
  refine ⟨0, 0, 0, 0, 0, t0, t0, fun _ => 0, fun _ => 0, fun _ => 0, fun _ => 0, fun _ => 0, fun _ => 0, ⟨?_, ?_⟩, ⟨⟨(e _ (by omega)).trans l1, ⟨(e _ (by omega)).trans l2, by omega, fun h => absurd h (by omega)⟩, fun i hi => absurd hi (by omega)⟩, ?_, ?_, ?_⟩, ⟨(e _ (by omega)).trans l6, ?_, ?_⟩, ⟨⟨⟨(e _ (by omega)).trans l9, by omega, fun h => absurd h (by omega)⟩, fun i hi => absurd hi (by omega)⟩, fun i hi => absurd hi (by omega), by omega⟩, ⟨ht, by omega, fun i hi => absurd hi (by omega), fun i hi => absurd hi (by omega), .inl rfl, .inl rfl, fun i j hi => absurd hi (by omega), fun i hi => absurd hi (by omega), fun i hi => absurd hi (by omega), fun i j hi => absurd hi (by omega), fun _ => rfl⟩, .inl ⟨rfl, rfl⟩, .inl ⟨rfl, rfl⟩, (e _ (by omega)).trans lt⟩
  · rw [tot_0]
    exact (e _ (by omega)).trans l0
  · exact (e _ (by omega)).trans (l10.trans (congrArg some (a576 _ fun _ _ => rfl)))
  · exact (e _ (by omega)).trans (l3.trans (congrArg some (a576 _ fun _ _ => rfl)))
  · exact (e _ (by omega)).trans (l4.trans (congrArg some (a576 _ fun _ _ => rfl)))
  · exact (e _ (by omega)).trans (l5.trans (congrArg some (a576 _ fun _ _ => rfl)))
  · exact (e _ (by omega)).trans (l7.trans (congrArg some (a576 _ fun _ _ => rfl)))
  · exact (e _ (by omega)).trans (l8.trans (congrArg some (zc0 10)))
theorem start_IM {lo t0 : Nat} : IM lo (hZ lo t0) 0 0 A0S (fun _ => 0) 0 A0S (fun _ => 0) (fun _ _ => 0) 0 0 := by
  have e : ∀ q, q < lo + 18 → hZ lo t0 q = hY (hX (h0S t0) lo t0) (lo + 11) q := fun q hq => up_ne (by omega)
  generalize hX (h0S t0) lo t0 = B at e
  have m0 : hY B (lo + 11) (lo + 11) = some (zO 6 [.int 0, .int 0, .ref (lo + 11 + 1), .int 0, .ref (lo + 11 + 2), .ref (lo + 11 + 3), .ref (lo + 11 + 4), .int 0, .int 0, .ref (lo + 11 + 5), .ref (lo + 11 + 6)]) := by
    unfold hY
    rw [up_ne (by omega), up_ne (by omega), up_ne (by omega), up_ne (by omega), up_ne (by omega), up_ne (by omega), up_at]
  have m1 : hY B (lo + 11) (lo + 11 + 1) = some (cA 80 fun _ => 0) := by
    unfold hY
    rw [up_ne (by omega), up_ne (by omega), up_ne (by omega), up_ne (by omega), up_ne (by omega), up_at, zc0 80]
  have m2 : hY B (lo + 11) (lo + 11 + 2) = some (cA 8 fun _ => 0) := by
    unfold hY
    rw [up_ne (by omega), up_ne (by omega), up_ne (by omega), up_ne (by omega), up_at, zc0 8]
  have m3 : hY B (lo + 11) (lo + 11 + 3) = some (cA 8 fun _ => 0) := by
    unfold hY
    rw [up_ne (by omega), up_ne (by omega), up_ne (by omega), up_at, zc0 8]
  have m4 : hY B (lo + 11) (lo + 11 + 4) = some (cA 576 fun _ => 0) := by
    unfold hY
    rw [up_ne (by omega), up_ne (by omega), up_at, zc0 576]
  have m5 : hY B (lo + 11) (lo + 11 + 5) = some (cA 576 fun _ => 0) := by
    unfold hY
    rw [up_ne (by omega), up_at, zc0 576]
  have m6 : hY B (lo + 11) (lo + 11 + 6) = some (cA 10 fun _ => 0) := by
    unfold hY
    rw [up_at, zc0 10]
  exact ⟨(e _ (by omega)).trans m0, ⟨by omega, _, (e _ (by omega)).trans m1, fun i hi => absurd hi (by omega)⟩, (e _ (by omega)).trans m4, ⟨by omega, ⟨_, (e _ (by omega)).trans m2, fun i hi => absurd hi (by omega)⟩, _, (e _ (by omega)).trans m3, fun i hi => absurd hi (by omega)⟩, fun i hi => absurd hi (by omega), ⟨_, (e _ (by omega)).trans m5⟩, _, (e _ (by omega)).trans m6⟩
