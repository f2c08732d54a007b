/-! below; rows with one more, with one less -/
theorem nn_and (x : Int32) : ∃ e : Int, (x &&& (2147483647 : Int32)) = zi e ∧ 0 ≤ e ∧ e < 2147483648 := by
  refine ⟨(x &&& (2147483647 : Int32)).toInt, zi_of _, ?_, (int_b _).2⟩
  have h1 : (x &&& (2147483647 : Int32)).toBitVec.msb = false := by
    rw [Int32.toBitVec_and, BitVec.msb_and]
    have : (2147483647 : Int32).toBitVec.msb = false := by decide
    rw [this, Bool.and_false]
  show 0 ≤ (x &&& (2147483647 : Int32)).toBitVec.toInt
  rw [BitVec.toInt_eq_toNat_of_msb h1]
  omega
theorem y_below (x : Int32) {n : Nat} (h1 : 1 ≤ n) (h2 : n ≤ 1000) : ∃ r : Nat, r < n ∧ M_L_below x (zi (n : Int)) = some (zi (r : Int)) := by
  obtain ⟨e, g1, g2, g3⟩ := nn_and x
  have q : (zi (n : Int) = 0) = ((n : Int) = 0) := zi_eq (b := 0) (by omega) (by omega) (by omega) (by omega)
  have h3 := Int.emod_nonneg e (b := (n : Int)) (by omega)
  have h4 := Int.emod_lt_of_pos e (b := (n : Int)) (by omega)
  refine ⟨(e % (n : Int)).toNat, by omega, ?_⟩
  unfold M_L_below
  rw [if_neg (by rw [q]; omega), g1, zi_div g2 g3 (by omega) (by omega), zi_mul, zi_sub]
  congr 2
  have := Int.mul_ediv_add_emod e (n : Int)
  rw [Int.mul_comm] at this
  omega
def wf (f : Nat → Option Nat) (k : Nat) : Nat → Option Nat := fun j => if j < k then f j else none
theorem wf_s (f : Nat → Option Nat) (k : Nat) : va_up (wf f k) k (f k) = wf f (k + 1) := by
  funext j
  unfold va_up wf
  by_cases h : j = k
  · rw [if_pos h, if_pos (by omega), h]
  · rw [if_neg h]
    by_cases h2 : j < k
    · rw [if_pos h2, if_pos (by omega)]
    · rw [if_neg h2, if_neg (by omega)]
theorem sD_of {h : zH} {a n b k : Nat} {f : Nat → Option Nat} {g : Nat → Int32} {i : Int} (e : h a = some (zD n f)) (eb : h b = some (zI k g)) (hn : n ≤ 100000) (h1 : 0 ≤ i) (h2 : i < n) : z_sD h a (zi i) b = some (z_up h a (zD n (va_up f i.toNat (some b)))) := by
  have e1 : (zi i < 0) = (i < 0) := zi_lt (b := 0) (by omega) (by omega) (by omega) (by omega)
  have e2 : (zi i).toNatClampNeg = i.toNat := zi_nn (by omega) (by omega)
  unfold z_sD
  rw [ai_of eb, ob_some, ad_of e, ob_some]
  simp only [e1, e2]
  rw [if_neg (by omega)]
section WITH
variable {h : zH} {nx a n : Nat} {f : Nat → Option Nat} {P : Nat → Nat}
theorem y_with {b : Nat} (e : h a = some (zD n f)) (hf : ∀ i, i < n → f i = some (P i)) (hp : ∀ i, i < n → P i ≠ nx ∧ ∃ k g, h (P i) = some (zI k g)) (ha : a ≠ nx) (hb : b ≠ nx ∧ ∃ k g, h b = some (zI k g)) (hn : n ≤ 10) :
    ∃ F : Nat → Option Nat, M_X5_with h nx a b = some (nx, z_up h nx (zD (n + 1) F), nx + 1) ∧ (∀ i, i < n → F i = some (P i)) ∧ F n = some b := by
  have hnn : (zi (n : Int) + 1).toNatClampNeg = n + 1 := by
    rw [show zi (n : Int) + 1 = zi ((n : Int) + 1) from zi_add _ 1, zi_nn (by omega) (by omega)]; omega
  have hng : ¬(zi (n : Int) + 1) < 0 := by
    rw [show ((zi (n : Int) + 1) < 0) = ((n : Int) + 1 < 0) from by rw [show zi (n : Int) + 1 = zi ((n : Int) + 1) from zi_add _ 1]; exact zi_lt (b := 0) (by omega) (by omega) (by omega) (by omega)]
    omega
  refine ⟨va_up (wf f n) n (some b), ?_, fun i hi => ?_, ?_⟩
  · unfold M_X5_with
    rw [alD_of e, ob_some, hnn, if_pos ⟨hng, by omega⟩]
    refine wl2_st (fun k => zi (k : Int)) (fun k => z_up h nx (zD (n + 1) (wf f k))) n n_0 ?_ ?_ ?_ 700 (by omega)
    · congr 2
    · intro rec k hk
      have e1 : z_up h nx (zD (n + 1) (wf f k)) a = some (zD n f) := (up_ne ha).trans e
      have e2 : (zi (n : Int) ≤ zi (k : Int)) = ((n : Int) ≤ k) := zi_le (by omega) (by omega) (by omega) (by omega)
      obtain ⟨q1, k', g, q2⟩ := hp k hk
      rw [alD_of e1, ob_some, if_neg (by rw [e2]; omega), aD_of e1 (by omega) (by omega) (by omega), Int.toNat_natCast, hf k hk, ob_some, sD_of (up_at ..) ((up_ne q1).trans q2) (by omega) (by omega) (by omega), ob_some, up_up, Int.toNat_natCast, ← hf k hk, wf_s]
      exact congrArg (fun z => rec z _) (zi_add _ 1)
    · intro rec
      have e1 : z_up h nx (zD (n + 1) (wf f n)) a = some (zD n f) := (up_ne ha).trans e
      have e2 : (zi (n : Int) ≤ zi (n : Int)) = ((n : Int) ≤ n) := zi_le (by omega) (by omega) (by omega) (by omega)
      obtain ⟨q1, k', g, q2⟩ := hb
      rw [alD_of e1, ob_some, if_pos (by rw [e2]; omega), ob_some, sD_of (up_at ..) ((up_ne q1).trans q2) (by omega) (by omega) (by omega), ob_some, up_up, Int.toNat_natCast]
  · unfold va_up wf
    rw [if_neg (by omega), if_pos hi, hf i hi]
  · unfold va_up
    rw [if_pos rfl]
theorem y_without {w : Nat} (e : h a = some (zD (n + 1) f)) (hf : ∀ i, i < n + 1 → f i = some (P i)) (hp : ∀ i, i < n + 1 → P i ≠ nx ∧ ∃ k g, h (P i) = some (zI k g)) (ha : a ≠ nx) (hn : n ≤ 10) (hw : w < n + 1) :
    ∃ F : Nat → Option Nat, M_X5_without h nx a (zi (w : Int)) = some (nx, z_up h nx (zD n F), nx + 1) ∧ ∀ i, i < n → F i = some (dl P w i) := by
  have e0 : zi ((n + 1 : Nat) : Int) - 1 = zi (n : Int) := (zi_sub _ 1).trans (congrArg zi (by omega))
  have hnn : (zi (n : Int)).toNatClampNeg = n := by
    rw [zi_nn (by omega) (by omega)]; omega
  have hng : ¬zi (n : Int) < 0 := by
    rw [show (zi (n : Int) < 0) = ((n : Int) < 0) from zi_lt (b := 0) (by omega) (by omega) (by omega) (by omega)]
    omega
  refine ⟨wf (fun j => f (if j < w then j else j + 1)) n, ?_, fun i hi => ?_⟩
  · unfold M_X5_without
    rw [alD_of e, ob_some, e0, hnn, if_pos ⟨hng, by omega⟩]
    refine wl2_st (fun k => zi (k : Int)) (fun k => z_up h nx (zD n (wf (fun j => f (if j < w then j else j + 1)) k))) n n_0 ?_ ?_ ?_ 700 (by omega)
    · congr 2
    · intro rec k hk
      have e1 : ∀ c, z_up h nx c a = some (zD (n + 1) f) := fun c => (up_ne ha).trans e
      have e2 : (zi (n : Int) ≤ zi (k : Int)) = ((n : Int) ≤ k) := zi_le (by omega) (by omega) (by omega) (by omega)
      have e3 : (zi (w : Int) ≤ zi (k : Int)) = ((w : Int) ≤ k) := zi_le (by omega) (by omega) (by omega) (by omega)
      have e4 : zi (k : Int) + 1 = zi ((k + 1 : Nat) : Int) := zi_add _ 1
      have s := wf_s (fun j => f (if j < w then j else j + 1)) k
      rw [alD_of (up_at ..), ob_some, if_neg (by rw [e2]; omega), jn4_e, e4]
      by_cases q : w ≤ k
      · obtain ⟨q1, k', g, q2⟩ := hp (k + 1) (by omega)
        rw [if_neg (by omega)] at s
        rw [if_pos (by rw [e3]; omega)]
        dsimp only
        rw [aD_of (e1 _) (by omega) (by omega) (by omega), Int.toNat_natCast, hf (k + 1) (by omega), ob_some, sD_of (up_at ..) ((up_ne q1).trans q2) (by omega) (by omega) (by omega), ob_some, up_up, Int.toNat_natCast, ← hf (k + 1) (by omega), s]
      · obtain ⟨q1, k', g, q2⟩ := hp k (by omega)
        rw [if_pos (by omega)] at s
        rw [if_neg (by rw [e3]; omega)]
        dsimp only
        rw [aD_of (e1 _) (by omega) (by omega) (by omega), Int.toNat_natCast, hf k (by omega), ob_some, sD_of (up_at ..) ((up_ne q1).trans q2) (by omega) (by omega) (by omega), ob_some, up_up, Int.toNat_natCast, ← hf k (by omega), s]
    · intro rec
      have e2 : (zi (n : Int) ≤ zi (n : Int)) = ((n : Int) ≤ n) := zi_le (by omega) (by omega) (by omega) (by omega)
      rw [alD_of (up_at ..), ob_some, if_pos (by rw [e2]; omega)]
  · unfold wf dl
    rw [if_pos hi]
    dsimp only
    by_cases q : i < w
    · rw [if_pos q, if_pos q, hf i (by omega)]
    · rw [if_neg q, if_neg q, hf (i + 1) (by omega)]
end WITH
