/-! the lists: add and remove -/
theorem sR_of {h : zH} {a n : Nat} {f : Nat → Option Nat} {i : Int} {v : Option Nat} (e : h a = some (zQ n f)) (hn : n ≤ 100000) (h1 : 0 ≤ i) (h2 : i < n) : z_sR h a (zi i) v = some (z_up h a (zQ n (va_up f i.toNat v))) := by
  simp only [z_sR, aq_of e, Option.bind_some]
  rw [if_neg, zi_nn (by omega) (by omega)]
  rw [zi_nn (by omega) (by omega), n_0, zi_lt (by omega) (by omega) (by omega) (by omega)]
  omega
theorem el_of {h : zH} {v ci : Nat} {fs : List Value} (e : h v = some (zO ci fs)) (hc : ci = 1 ∨ ci = 4) : z_el h v = true := by
  unfold z_el
  rcases hc with rfl | rfl <;> rw [z_ob_of e] <;> simp
theorem el_ne {h h' : zH} {v : Nat} (e : h' v = h v) : z_el h' v = z_el h v := by
  unfold z_el z_ob
  rw [e]
theorem alq_of {h : zH} {a n : Nat} {f : Nat → Option Nat} (e : h a = some (zQ n f)) : z_al h a = some (zi n) := by simp [z_al, e, zi_ofNat]
theorem alE_of {h : zH} {a : Nat} (e : h a = some zE) : z_al h a = some (zi 0) := by
  simp [z_al, e]
  rfl
theorem p_add {h : zH} {nx t0 a ea n v : Nat} {mc : Int32} {P : Nat → Nat} (k : kL h a mc ea n P) (hn : n < 10) (ke : kE h t0 ea n) (h0 : h t0 = some zE) (he : z_el h v = true) (g1 : a ≠ nx) (g2 : ea ≠ a) (g3 : v ≠ a) (g4 : v ≠ nx) (g5 : t0 ≠ a) :
    ∃ h' nx' ea', M_Jx4a65c_add_9ea2d h nx t0 a v = some (1, h', nx') ∧ kL h' a (mc + 1) ea' (n + 1) (fun k => if k = n then v else P k) ∧ (∃ f, h' ea' = some (zQ 10 f)) ∧ ((ea' = ea ∧ nx' = nx ∧ ¬ea = t0) ∨ (ea' = nx ∧ nx' = nx + 1)) ∧ ∀ q, q ≠ a → q ≠ ea' → h' q = h q := by
  obtain ⟨k1, k2, k3⟩ := k
  have j1 : z_up h a (zO 0 [.int (mc + 1), .ref ea, .int (zi n)]) a = some (zO 0 [.int (mc + 1), .ref ea, .int (zi n)]) := up_at ..
  have p1 : z_pV h a 0 0 (.int (mc + 1)) = some (z_up h a (zO 0 [.int (mc + 1), .ref ea, .int (zi n)])) := pV_of k1 (k := 0) (by simp)
  simp only [M_Jx4a65c_add_9ea2d, M_Jx4a65c_add_72be8, gI_of k1 (k := 0) rfl, ob_some, p1, gR_of j1 (k := 1) rfl, gI_of j1 (k := 2) rfl, ck_of j1, jn3_e]
  by_cases hea : ea = t0
  · subst hea
    have h0' : z_up h a (zO 0 [.int (mc + 1), .ref ea, .int (zi n)]) ea = some zE := (up_ne g2).trans h0
    have n0 : n = 0 := by
      rcases ke with ⟨h, -⟩ | ⟨f, h⟩
      · exact h
      · rw [h0] at h; cases h
    subst n0
    have z0 : zi ((0 : Nat) : Int) = zi 0 := rfl
    have j2 : z_up (z_up h a (zO 0 [.int (mc + 1), .ref ea, .int (zi (0 : Nat))])) nx (zQ 10 fun _ => none) a = some (zO 0 [.int (mc + 1), .ref ea, .int (zi (0 : Nat))]) := (up_ne g1).trans j1
    have p2 : z_pV (z_up (z_up h a (zO 0 [.int (mc + 1), .ref ea, .int (zi (0 : Nat))])) nx (zQ 10 fun _ => none)) a 0 1 (.ref nx) = some (z_up (z_up (z_up h a (zO 0 [.int (mc + 1), .ref ea, .int (zi (0 : Nat))])) nx (zQ 10 fun _ => none)) a (zO 0 [.int (mc + 1), .ref nx, .int (zi (0 : Nat))])) := pV_of j2 (k := 1) (by simp)
    generalize hH : z_up (z_up (z_up h a (zO 0 [.int (mc + 1), .ref ea, .int (zi (0 : Nat))])) nx (zQ 10 fun _ => none)) a (zO 0 [.int (mc + 1), .ref nx, .int (zi (0 : Nat))]) = H at p2
    have hHn : H nx = some (zQ 10 fun _ => none) := by rw [← hH, up_ne (Ne.symm g1), up_at]
    have hHa : H a = some (zO 0 [.int (mc + 1), .ref nx, .int (zi (0 : Nat))]) := by rw [← hH, up_at]
    have hHq : ∀ q, q ≠ a → q ≠ nx → H q = h q := fun q q1 q2 => by rw [← hH, up_ne q1, up_ne q2, up_ne q1]
    have hEl : z_el H v = true := (el_ne (hHq v g3 g4)).trans he
    have s1 : z_sR H nx (zi (0 : Nat)) (some v) = some (z_up H nx (zQ 10 (va_up (fun _ => none) 0 (some v)))) := sR_of hHn (by omega) (by omega) (by omega)
    have j3 : z_up H nx (zQ 10 (va_up (fun _ => none) 0 (some v))) a = some (zO 0 [.int (mc + 1), .ref nx, .int (zi (0 : Nat))]) := (up_ne g1).trans hHa
    simp only [alE_of h0', ob_some]
    rw [if_pos z0]
    simp only [ck_of j1, ob_some, M_Jx4a65c_grow_d5877, M_Jx4a65c_grow_92f84, gI_of j1 (k := 2) rfl, gR_of j1 (k := 1) rfl, alE_of h0']
    rw [if_neg (by decide), if_pos trivial, if_pos (by decide)]
    simp only [p2, ob_some, z_sE, hEl, if_true, s1]
    rw [pV_of j3 (k := 2) (by simp), ob_some]
    refine ⟨_, _, nx, rfl, ⟨up_at .., by omega, fun _ => ⟨_, (up_ne (Ne.symm g1)).trans (up_at ..), fun i hi => ?_⟩⟩, ⟨_, (up_ne (Ne.symm g1)).trans (up_at ..)⟩, .inr ⟨rfl, rfl⟩, fun q q1 q2 => (up_ne q1).trans ((up_ne q2).trans (hHq q q1 q2))⟩
    have i0 : i = 0 := by omega
    subst i0
    exact va_up_self ..
  · obtain ⟨f, hf⟩ : ∃ f, h ea = some (zQ 10 f) := by
      rcases ke with ⟨-, h⟩ | h
      · exact absurd h hea
      · exact h
    have hf' : z_up h a (zO 0 [.int (mc + 1), .ref ea, .int (zi n)]) ea = some (zQ 10 f) := (up_ne g2).trans hf
    have hEl : z_el (z_up h a (zO 0 [.int (mc + 1), .ref ea, .int (zi n)])) v = true := (el_ne (up_ne g3)).trans he
    have j3 : z_up (z_up h a (zO 0 [.int (mc + 1), .ref ea, .int (zi n)])) ea (zQ 10 (va_up f (n : Int).toNat (some v))) a = some (zO 0 [.int (mc + 1), .ref ea, .int (zi n)]) := (up_ne (Ne.symm g2)).trans j1
    simp only [alq_of hf', ob_some]
    rw [if_neg (by rw [zi_eq (by omega) (by omega) (by omega) (by omega)]; omega)]
    simp only [z_sE, hEl, if_true]
    rw [sR_of hf' (by omega) (by omega) (by omega), ob_some, pV_of j3 (k := 2) (by simp), ob_some]
    refine ⟨_, _, ea, rfl, ⟨?_, by omega, fun _ => ⟨_, (up_ne g2).trans (up_at ..), fun i hi => ?_⟩⟩, ⟨_, (up_ne g2).trans (up_at ..)⟩, .inl ⟨rfl, rfl, hea⟩, fun q q1 q2 => (up_ne q1).trans ((up_ne q2).trans (up_ne q1))⟩
    · refine (up_at ..).trans ?_
      rw [n_1, zi_add]
      rfl
    · rw [Int.toNat_natCast]
      show _ = some (if i = n then v else P i)
      by_cases hin : i = n
      · rw [if_pos hin, hin, va_up_self]
      · rw [if_neg hin, va_up_ne _ _ hin]
        obtain ⟨f', q1, q2⟩ := k3 (by omega)
        rw [hf] at q1
        cases q1
        exact q2 i (by omega)
theorem p_remove {h : zH} {a ea n : Nat} {mc : Int32} {P : Nat → Nat} (k : kL h a mc ea (n + 1) P) {i : Nat} (hi : i < n + 1) (hel : ∀ k, k < n + 1 → z_el h (P k) = true ∧ P k ≠ a) (g2 : ea ≠ a) :
    ∃ h', M_Jx4a65c_remove_915e3 h a (zi i) = some (P i, h') ∧ kL h' a (mc + 1) ea n (fun k => if k < i then P k else P (k + 1)) ∧ (∃ f, h' ea = some (zQ 10 f)) ∧ ∀ q, q ≠ a → q ≠ ea → h' q = h q := by
  obtain ⟨k1, k2, k3⟩ := k
  obtain ⟨f, k4, k5⟩ := k3 (by omega)
  have j1 : z_up h a (zO 0 [.int (mc + 1), .ref ea, .int (zi (n + 1 : Nat))]) a = some (zO 0 [.int (mc + 1), .ref ea, .int (zi (n + 1 : Nat))]) := up_at ..
  have p1 : z_pV h a 0 0 (.int (mc + 1)) = some (z_up h a (zO 0 [.int (mc + 1), .ref ea, .int (zi (n + 1 : Nat))])) := pV_of k1 (k := 0) (by simp)
  have k4' : z_up h a (zO 0 [.int (mc + 1), .ref ea, .int (zi (n + 1 : Nat))]) ea = some (zQ 10 f) := (up_ne g2).trans k4
  have e1 : zi (n + 1 : Nat) - 1 = zi n := by rw [n_1, zi_sub]; congr 1; omega
  simp only [M_Jx4a65c_remove_915e3, M_Jx4a65c_fastRemove_b59b0, gI_of k1 (k := 2) rfl, ob_some, p_check (i := i) (n := (n + 1 : Nat)) (by omega) (by omega) (by omega), gR_of k1 (k := 1) rfl]
  rw [aR_of k4 (by omega) (by omega) (by omega), Int.toNat_natCast, k5 i hi, ob_some]
  simp only [ck_of k1, ob_some, gI_of k1 (k := 0) rfl, p1, gI_of j1 (k := 2) rfl, jn1_e, e1]
  have fin : ∀ (F : Nat → Option Nat), (∀ k, k < n → F k = some (if k < i then P k else P (k + 1))) →
      ∃ h', ((((z_pV (z_up (z_up h a (zO 0 [.int (mc + 1), .ref ea, .int (zi (n + 1 : Nat))])) ea (zQ 10 F)) a 0 2 (.int (zi n))).bind fun h_5 => (z_sR h_5 ea (zi n) none).bind fun h_6 => some h_6).bind fun r6 => some (P i, r6)) : Option (Nat × zH)) = some (P i, h') ∧
        kL h' a (mc + 1) ea n (fun k => if k < i then P k else P (k + 1)) ∧ (∃ f, h' ea = some (zQ 10 f)) ∧ ∀ q, q ≠ a → q ≠ ea → h' q = h q := by
    intro F hF
    have j2 : z_up (z_up h a (zO 0 [.int (mc + 1), .ref ea, .int (zi (n + 1 : Nat))])) ea (zQ 10 F) a = some (zO 0 [.int (mc + 1), .ref ea, .int (zi (n + 1 : Nat))]) := (up_ne (Ne.symm g2)).trans j1
    have p2 : z_pV (z_up (z_up h a (zO 0 [.int (mc + 1), .ref ea, .int (zi (n + 1 : Nat))])) ea (zQ 10 F)) a 0 2 (.int (zi n)) = some (z_up (z_up (z_up h a (zO 0 [.int (mc + 1), .ref ea, .int (zi (n + 1 : Nat))])) ea (zQ 10 F)) a (zO 0 [.int (mc + 1), .ref ea, .int (zi n)])) := pV_of j2 (k := 2) (by simp)
    have k6 : z_up (z_up (z_up h a (zO 0 [.int (mc + 1), .ref ea, .int (zi (n + 1 : Nat))])) ea (zQ 10 F)) a (zO 0 [.int (mc + 1), .ref ea, .int (zi n)]) ea = some (zQ 10 F) := (up_ne g2).trans (up_at ..)
    rw [p2, ob_some, sR_of k6 (by omega) (by omega) (by omega), ob_some, ob_some]
    refine ⟨_, rfl, ⟨(up_ne (Ne.symm g2)).trans (up_at ..), by omega, fun _ => ⟨_, up_at .., fun k hk => ?_⟩⟩, ⟨_, up_at ..⟩, fun q q1 q2 => (up_ne q2).trans ((up_ne q1).trans ((up_ne q2).trans (up_ne q1)))⟩
    rw [va_up_ne _ _ (by omega), hF k hk]
  by_cases hni : n ≤ i
  · rw [if_pos (by rw [zi_le (by omega) (by omega) (by omega) (by omega)]; omega)]
    have := fin f (fun k hk => by rw [k5 k (by omega), if_pos (by omega)])
    rw [up_same k4'] at this
    exact this
  · rw [if_neg (by rw [zi_le (by omega) (by omega) (by omega) (by omega)]; omega), show zi (i : Int) + 1 = zi ((i : Int) + 1) from zi_add i 1, zi_sub]
    have hcp : z_cpQ (z_up h a (zO 0 [.int (mc + 1), .ref ea, .int (zi (n + 1 : Nat))])) ea (zi ((i : Int) + 1)) ea (zi i) (zi ((n : Int) - i)) = some (z_up (z_up h a (zO 0 [.int (mc + 1), .ref ea, .int (zi (n + 1 : Nat))])) ea (zQ 10 (va_cpy f f (i + 1) i (n - i)))) := by
      have t1 : (zi ((i : Int) + 1)).toNatClampNeg = i + 1 := by rw [zi_nn (by omega) (by omega)]; omega
      have t2 : (zi (i : Int)).toNatClampNeg = i := by rw [zi_nn (by omega) (by omega)]; omega
      have t3 : (zi ((n : Int) - i)).toNatClampNeg = n - i := by rw [zi_nn (by omega) (by omega)]; omega
      simp only [z_cpQ, aq_of k4', Option.bind_some, t1, t2, t3]
      rw [if_pos]
      refine ⟨?_, ?_, ?_, by omega, by omega, ?_⟩
      · rw [n_0, zi_lt (by omega) (by omega) (by omega) (by omega)]; omega
      · rw [n_0, zi_lt (by omega) (by omega) (by omega) (by omega)]; omega
      · rw [n_0, zi_lt (by omega) (by omega) (by omega) (by omega)]; omega
      · rw [List.all_eq_true]
        intro j hj
        rw [List.mem_range] at hj
        have hh := hel (i + 1 + j) (by omega)
        rw [k5 (i + 1 + j) (by omega)]
        exact (el_ne (up_ne hh.2)).trans hh.1
    rw [hcp, ob_some]
    refine fin _ fun k hk => ?_
    unfold va_cpy
    by_cases hki : i ≤ k
    · rw [if_pos (by omega), if_neg (by omega), show i + 1 + (k - i) = k + 1 from by omega, k5 _ (by omega)]
    · rw [if_neg (by omega), if_pos (by omega), k5 _ (by omega)]
