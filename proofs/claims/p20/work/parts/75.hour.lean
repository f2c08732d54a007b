/-! THE SIM: an hour of rain -/
def oF (nx : Nat) : Nat → Option Nat := va_up (fun j => if j < 25 then some (nx + 1 + j) else none) 24 (some (nx + 1 + 25))
theorem oF_lt {nx x : Nat} (h : x < 24) : oF nx x = some (nx + 1 + x) := by
  unfold oF va_up
  rw [if_neg (by omega)]
  exact if_pos (by omega)
theorem oF_24 (nx : Nat) : oF nx 24 = some (nx + 1 + 25) := by
  unfold oF va_up
  rw [if_pos rfl]
theorem le24 {x : Nat} (h : x < 1000) : ((24 : Int32) ≤ zi (x : Int)) = (24 ≤ x) := by
  rw [show ((24 : Int32) ≤ zi (x : Int)) = ((24 : Int) ≤ (x : Int)) from zi_le (a := 24) (by omega) (by omega) (by omega) (by omega)]
  exact propext (by omega)
def onF (n : Nat) (σ : zS) : Nat → Int32 := fun p => if p < n then zi (σ.2.1 p) else zi σ.2.2
/-- the heap in which an hour stands -/
def hH (nx n : Nat) (σ : zS) (h : zH) : zH := fun q => if q = nx then some (zD 25 (oF nx)) else if nx < q ∧ q ≤ nx + 24 then some (cA 24 fun y => zi (σ.1 (q - nx - 1) y)) else if q = nx + 1 + 24 then some (cA 24 fun _ => 0) else if q = nx + 1 + 25 then some (cA (n + 1) (onF n σ)) else h q
section HH
variable {nx n : Nat} {σ : zS} {h : zH}
theorem hH_0 : hH nx n σ h nx = some (zD 25 (oF nx)) := by rw [hH, if_pos rfl]
theorem hH_c {x : Nat} (hx : x < 24) : hH nx n σ h (nx + 1 + x) = some (cA 24 fun y => zi (σ.1 x y)) := by
  rw [hH, if_neg (by omega), if_pos (by omega), show nx + 1 + x - nx - 1 = x by omega]
theorem hH_24 : hH nx n σ h (nx + 1 + 24) = some (cA 24 fun _ => 0) := by rw [hH, if_neg (by omega), if_neg (by omega), if_pos rfl]
theorem hH_on : hH nx n σ h (nx + 1 + 25) = some (cA (n + 1) (onF n σ)) := by rw [hH, if_neg (by omega), if_neg (by omega), if_neg (by omega), if_pos rfl]
theorem hH_ne {q : Nat} (hq : q < nx ∨ nx + 27 ≤ q) : hH nx n σ h q = h q := by rw [hH, if_neg (by omega), if_neg (by omega), if_neg (by omega), if_neg (by omega)]
theorem hH_mk {h' : zH} (e0 : h' nx = some (zD 25 (oF nx))) (e1 : ∀ x, x < 24 → h' (nx + 1 + x) = some (cA 24 fun y => zi (σ.1 x y))) (e2 : h' (nx + 1 + 24) = some (cA 24 fun _ => 0)) (e3 : h' (nx + 1 + 25) = some (cA (n + 1) (onF n σ))) (e : ∀ q, q < nx ∨ nx + 27 ≤ q → h' q = h q) : h' = hH nx n σ h := by
  funext q
  by_cases g0 : q = nx
  · rw [g0, e0, hH_0]
  by_cases g1 : nx < q ∧ q ≤ nx + 24
  · obtain ⟨x, rfl⟩ : ∃ x, q = nx + 1 + x := ⟨q - nx - 1, by omega⟩
    rw [e1 x (by omega), hH_c (by omega)]
  by_cases g2 : q = nx + 1 + 24
  · rw [g2, e2, hH_24]
  by_cases g3 : q = nx + 1 + 25
  · rw [g3, e3, hH_on]
  · rw [e q (by omega), hH_ne (by omega)]
theorem y_putc {x y : Nat} {d : Int} (hx : x < 24) (hy : y < 24) : z_up (hH nx n σ h) (nx + 1 + x) (cA 24 fun p => if p = y then zi (σ.1 x y + d) else zi (σ.1 x p)) = hH nx n (add2 σ.1 x y d, σ.2.1, σ.2.2) h := by
  refine hH_mk ?_ (fun x' hx' => ?_) ?_ ?_ fun q hq => ?_
  · rw [up_ne (by omega), hH_0]
  · by_cases g : x' = x
    · subst g
      rw [up_at]
      refine congrArg some (cA_congr fun p hp => ?_)
      by_cases g2 : p = y
      · rw [if_pos g2, g2]; simp only [add2, and_self, if_true]
      · rw [if_neg g2]; simp only [add2, g2, and_false, if_false]
    · rw [up_ne (by omega), hH_c hx']
      refine congrArg some (cA_congr fun p hp => ?_)
      simp only [add2, g, false_and, if_false]
  · rw [up_ne (by omega), hH_24]
  · rw [up_ne (by omega), hH_on]; rfl
  · rw [up_ne (by omega), hH_ne hq]
theorem y_puto {i : Nat} {d : Int} (hi : i < n) : z_up (hH nx n σ h) (nx + 1 + 25) (cA (n + 1) fun p => if p = i then zi (σ.2.1 i + d) else onF n σ p) = hH nx n (σ.1, add1 σ.2.1 i d, σ.2.2) h := by
  refine hH_mk ?_ (fun x' hx' => ?_) ?_ ?_ fun q hq => ?_
  · rw [up_ne (by omega), hH_0]
  · rw [up_ne (by omega), hH_c hx']
  · rw [up_ne (by omega), hH_24]
  · rw [up_at]
    refine congrArg some (cA_congr fun p hp => ?_)
    unfold onF
    by_cases g2 : p = i
    · rw [if_pos g2, if_pos (by omega), g2]; simp only [add1, if_true]
    · rw [if_neg g2]; simp only [add1, g2, if_false]
  · rw [up_ne (by omega), hH_ne hq]
theorem y_putn {d : Int} : z_up (hH nx n σ h) (nx + 1 + 25) (cA (n + 1) fun p => if p = n then zi (σ.2.2 + d) else onF n σ p) = hH nx n (σ.1, σ.2.1, σ.2.2 + d) h := by
  refine hH_mk ?_ (fun x' hx' => ?_) ?_ ?_ fun q hq => ?_
  · rw [up_ne (by omega), hH_0]
  · rw [up_ne (by omega), hH_c hx']
  · rw [up_ne (by omega), hH_24]
  · rw [up_at]
    refine congrArg some (cA_congr fun p hp => ?_)
    unfold onF
    by_cases g2 : p = n
    · rw [if_pos g2, if_neg (by omega)]
    · rw [if_neg g2, if_pos (by omega), if_pos (by omega)]
  · rw [up_ne (by omega), hH_ne hq]
theorem y_gc {x : Nat} (hx : x < 24) : z_aD (hH nx n σ h) nx (zi x) = some (nx + 1 + x) := by
  rw [aD_of hH_0 (by omega) (by omega) (by omega), Int.toNat_natCast, oF_lt hx]
theorem y_g24 : z_aD (hH nx n σ h) nx 24 = some (nx + 1 + 25) := by
  have e : z_aD (hH nx n σ h) nx (zi (24 : Nat)) = some (nx + 1 + 25) := by
    rw [aD_of hH_0 (by omega) (by omega) (by omega), Int.toNat_natCast, oF_24]
  exact e
theorem kSm_H {m ra rs rg : Nat} {hr ro : Int32} (km : kSm h m ra rs rg hr ro) (hm : m < nx) : kSm (hH nx n σ h) m ra rs rg hr ro := (hH_ne (.inl hm)).trans km
theorem kSa_eq {h h' : zH} {ra n : Nat} {Pa : Nat → Nat} {A : Nat → Nat → Int} {D : Nat → Int32} (ks : kSa h ra n Pa A D) (e1 : h' ra = h ra) (e2 : ∀ i, i < n → h' (Pa i) = h (Pa i)) : kSa h' ra n Pa A D := by
  obtain ⟨h1, ⟨f, h2, h3⟩, h4⟩ := ks
  exact ⟨h1, ⟨f, e1.trans h2, h3⟩, fun i hi => ⟨(e2 i hi).trans (h4 i hi).1, (h4 i hi).2⟩⟩
theorem kSa_H {ra : Nat} {Pa : Nat → Nat} {A : Nat → Nat → Int} {D : Nat → Int32} (ks : kSa h ra n Pa A D) (h1 : ra < nx) (h2 : ∀ i, i < n → Pa i < nx) : kSa (hH nx n σ h) ra n Pa A D := kSa_eq ks (hH_ne (.inl h1)) fun i hi => hH_ne (.inl (h2 i hi))
end HH
section HOUR
variable {nx n m ra rs rg : Nat} {h : zH} {hr ro : Int32} {Pa : Nat → Nat} {A : Nat → Nat → Int} {D : Nat → Int32} {σ : zS} {R : Type}
theorem y_on {i : Nat} (hn : n ≤ 10) (hi : i < n) : z_aI (hH nx n σ h) (nx + 1 + 25) (zi i) = some (zi (σ.2.1 i)) := by
  rw [cI_of hH_on (by omega) (by omega) (by omega), Int.toNat_natCast, onF, if_pos hi]
/-- some drops fall on a cell of the square -/
theorem y_fall (km : kSm h m ra rs rg hr ro) (ks : kSa h ra n Pa A D) (hm : m < nx) (h1 : ra < nx) (h2 : ∀ i, i < n → Pa i < nx) {x y : Nat} {l d : Int} (hx : x < 24) (hy : y < 24) (hl : -100 ≤ l ∧ l ≤ 100) (K : zH → Option R) :
    ((M_X5_highest (hH nx n σ h) m (zi x) (zi y) (zi l)).bind fun r => if 0 ≤ r then (z_aI (hH nx n σ h) (nx + 1 + 25) r).bind fun r2 => (z_sI (hH nx n σ h) (nx + 1 + 25) r (r2 + zi d)).bind fun h' => K h' else (z_aD (hH nx n σ h) nx (zi x)).bind fun a => (z_aI (hH nx n σ h) a (zi y)).bind fun v => (z_sI (hH nx n σ h) a (zi y) (v + zi d)).bind fun h' => K h') = K (hH nx n (fal A n l x y d σ) h) := by
  have hn := ks.1
  have hb := hbS_bd (A := A) (l := l) (x := x) (y := y) n fun i hi => (ks.2.2 i hi).2
  rw [y_highest (kSm_H km hm) (kSa_H ks h1 h2) (by omega) (by omega) hl, ob_some]
  have e0 : (0 ≤ zi (hbS A l x y n).1) = (0 ≤ (hbS A l x y n).1) := zi_le (a := 0) (by omega) (by omega) (by omega) (by omega)
  simp only [e0]
  unfold fal
  rw [if_pos (show 0 ≤ (x : Int) ∧ (x : Int) < 24 ∧ 0 ≤ (y : Int) ∧ (y : Int) < 24 by omega)]
  by_cases g : 0 ≤ (hbS A l x y n).1
  · rw [if_pos g, if_neg (show ¬(hbS A l x y n).1 < 0 by omega)]
    obtain ⟨i, hi⟩ : ∃ i : Nat, (hbS A l x y n).1 = i := ⟨(hbS A l x y n).1.toNat, by omega⟩
    have hin : i < n := by omega
    rw [hi, y_on hn hin, ob_some, csI_of hH_on (by omega) (by omega) (by omega), ob_some, Int.toNat_natCast, zi_add, y_puto hin]
  · rw [if_neg g, if_pos (show (hbS A l x y n).1 < 0 by omega), y_gc hx, ob_some, cI_of (hH_c hx) (by omega) (by omega) (by omega), ob_some, csI_of (hH_c hx) (by omega) (by omega) (by omega), ob_some, zi_add]
    simp only [Int.toNat_natCast]
    rw [y_putc hx hy]
/-- .. go off -/
theorem y_offs (ks : kSa h ra n Pa A D) (km : kSm h m ra rs rg hr ro) (hm : m < nx) (h1 : ra < nx) (h2 : ∀ i, i < n → Pa i < nx) {d : Int} (K : zH → Option R) :
    ((z_gR (hH nx n σ h) m 6 0).bind fun r27 => (z_al (hH nx n σ h) r27).bind fun r28 => (z_aI (hH nx n σ h) (nx + 1 + 25) r28).bind fun r29 => (z_sI (hH nx n σ h) (nx + 1 + 25) r28 (r29 + zi d)).bind fun h' => K h') = K (hH nx n (σ.1, σ.2.1, σ.2.2 + d) h) := by
  have hn := ks.1
  rw [gR_of (kSm_H km hm) (k := 0) rfl, ob_some, y_len (kSa_H ks h1 h2), ob_some, cI_of hH_on (by omega) (by omega) (by omega), ob_some, csI_of hH_on (by omega) (by omega) (by omega), ob_some, Int.toNat_natCast]
  have e : onF n σ n = zi σ.2.2 := if_neg (by omega)
  rw [e, zi_add, y_putn]
variable {p : Nat} {a : Nat → Int}
theorem y_bX (e5 : z_aI h p 5 = some (zi (a 5))) (e0 : z_aI h p 0 = some (zi (a 0))) (e2 : z_aI h p 2 = some (zi (a 2))) (o : okA a) (k : Nat) (K : Int32 → Option R) :
    ((z_aI h p (5 : Int32)).bind fun r21 => jn1 K fun J22 => (if r21 = 0 then (z_aI h p (0 : Int32)).bind fun r55 => J22 (r55 - (1 : Int32)) else (z_aI h p (5 : Int32)).bind fun r50 => (if r50 = (2 : Int32) then (z_aI h p (0 : Int32)).bind fun r52 => (z_aI h p (2 : Int32)).bind fun r53 => J22 (r52 + r53) else (z_aI h p (0 : Int32)).bind fun r51 => J22 (r51 + zi (k : Int))))) = K (zi (bX a k)) := by
  unfold okA at o
  have q0 : (zi (a 5) = 0) = (a 5 = 0) := zi_eq (b := 0) (by omega) (by omega) (by omega) (by omega)
  have q2 : (zi (a 5) = 2) = (a 5 = 2) := zi_eq (b := 2) (by omega) (by omega) (by omega) (by omega)
  simp only [e5, e0, e2, ob_some, jn1_e, q0, q2, zi_add, n_1, zi_sub]
  unfold bX
  by_cases g0 : a 5 = 0
  · rw [if_pos g0, if_pos (.inl g0), if_pos g0]
  · rw [if_neg g0]
    by_cases g2 : a 5 = 2
    · rw [if_pos g2, if_pos (.inr g2), if_neg g0]
    · rw [if_neg g2, if_neg (by omega)]
theorem y_bY (e5 : z_aI h p 5 = some (zi (a 5))) (e1 : z_aI h p 1 = some (zi (a 1))) (e3 : z_aI h p 3 = some (zi (a 3))) (o : okA a) (k : Nat) (K : Int32 → Option R) :
    ((z_aI h p (5 : Int32)).bind fun r23 => jn1 K fun J24 => (if r23 = (1 : Int32) then (z_aI h p (1 : Int32)).bind fun r48 => J24 (r48 - (1 : Int32)) else (z_aI h p (5 : Int32)).bind fun r43 => (if r43 = (3 : Int32) then (z_aI h p (1 : Int32)).bind fun r45 => (z_aI h p (3 : Int32)).bind fun r46 => J24 (r45 + r46) else (z_aI h p (1 : Int32)).bind fun r44 => J24 (r44 + zi (k : Int))))) = K (zi (bY a k)) := by
  unfold okA at o
  have q0 : (zi (a 5) = 1) = (a 5 = 1) := zi_eq (b := 1) (by omega) (by omega) (by omega) (by omega)
  have q2 : (zi (a 5) = 3) = (a 5 = 3) := zi_eq (b := 3) (by omega) (by omega) (by omega) (by omega)
  simp only [e5, e1, e3, ob_some, jn1_e, q0, q2, zi_add]
  unfold bY
  by_cases g0 : a 5 = 1
  · rw [if_pos g0, if_neg (by omega), if_pos g0]; exact congrArg K (zi_sub _ 1)
  · rw [if_neg g0]
    by_cases g2 : a 5 = 3
    · rw [if_pos g2, if_neg (by omega), if_neg g0]
    · rw [if_neg g2, if_pos (by omega)]
theorem y_cel (e5 : z_aI h p 5 = some (zi (a 5))) (e2 : z_aI h p 2 = some (zi (a 2))) (e3 : z_aI h p 3 = some (zi (a 3))) (o : okA a) (K : Int32 → Option R) :
    ((z_aI h p (5 : Int32)).bind fun r16 => jn1 K fun J17 => jn0 ((z_aI h p (3 : Int32)).bind fun r59 => J17 r59) fun J58 => (if r16 = 0 then J58 else (z_aI h p (5 : Int32)).bind fun r60 => (if r60 = (2 : Int32) then J58 else (z_aI h p (2 : Int32)).bind fun r61 => J17 r61))) = K (zi (cel a)) := by
  unfold okA at o
  have q0 : (zi (a 5) = 0) = (a 5 = 0) := zi_eq (b := 0) (by omega) (by omega) (by omega) (by omega)
  have q2 : (zi (a 5) = 2) = (a 5 = 2) := zi_eq (b := 2) (by omega) (by omega) (by omega) (by omega)
  simp only [e5, e2, e3, ob_some, jn1_e, jn0_e, q0, q2]
  unfold cel
  by_cases g0 : a 5 = 0
  · rw [if_pos g0, if_pos (.inl g0)]
  · rw [if_neg g0]
    by_cases g2 : a 5 = 2
    · rw [if_pos g2, if_pos (.inr g2)]
    · rw [if_neg g2, if_neg (by omega)]
/-- what is left before the k-th share -/
def lfS (K c : Int) (k : Nat) : Int := K / c * (c - k) + (if (k : Int) < K % c then K % c - k else 0)
theorem lfS_0 {K c : Int} (hc : 1 ≤ c) : lfS K c 0 = K := by
  unfold lfS
  have h1 := Int.mul_ediv_add_emod K c
  have h2 := Int.emod_nonneg K (b := c) (by omega)
  rw [show c - ((0 : Nat) : Int) = c by omega, Int.mul_comm]
  split <;> omega
theorem lfS_part {K c : Int} {k : Nat} (hK : 0 ≤ K) (hk : (k : Int) < c) : (lfS K c k + c - k - 1) / (c - k) = K / c + b1 (decide ((k : Int) < K % c)) := by
  unfold lfS
  have h2 := Int.emod_nonneg K (b := c) (by omega)
  have h3 := Int.emod_lt_of_pos K (b := c) (by omega)
  generalize K / c = q
  generalize K % c = r at h2 h3
  have hm : c - (k : Int) ≠ 0 := by omega
  by_cases g : (k : Int) < r
  · rw [if_pos g, decide_eq_true g]
    rw [show q * (c - k) + (r - k) + c - k - 1 = (r - k - 1) + (q + 1) * (c - k) by rw [Int.add_mul, Int.one_mul]; omega, Int.add_mul_ediv_right _ _ hm, Int.ediv_eq_zero_of_lt (by omega) (by omega)]
    simp [b1]
  · rw [if_neg g, decide_eq_false g]
    rw [show q * (c - k) + 0 + c - k - 1 = (c - k - 1) + q * (c - k) by omega, Int.add_mul_ediv_right _ _ hm, Int.ediv_eq_zero_of_lt (by omega) (by omega)]
    simp [b1]
theorem lfS_s (K c : Int) (k : Nat) : lfS K c k - (K / c + b1 (decide ((k : Int) < K % c))) = lfS K c (k + 1) := by
  unfold lfS
  generalize K / c = q
  generalize K % c = r
  have e : q * (c - ((k + 1 : Nat) : Int)) = q * (c - k) - q := by
    rw [show c - ((k + 1 : Nat) : Int) = (c - k) - 1 by omega, Int.mul_sub, Int.mul_one]
  rw [e]
  by_cases g : (k : Int) < r
  · rw [if_pos g, decide_eq_true g]
    simp only [b1, if_true]
    split <;> omega
  · rw [if_neg g, decide_eq_false g, if_neg (by omega)]
    simp [b1]
theorem lfS_bd {K c : Int} {k : Nat} (hK : 0 ≤ K ∧ K < 2147400000) (hc : 1 ≤ c) (hk : (k : Int) ≤ c) : 0 ≤ lfS K c k ∧ lfS K c k ≤ K := by
  induction k with
  | zero => rw [lfS_0 hc]; omega
  | succ k ih =>
    have h1 := ih (by omega)
    have h2 := lfS_s K c k
    have h3 : 0 ≤ K / c := Int.ediv_nonneg hK.1 (by omega)
    have h4 := b1_bd (decide ((k : Int) < K % c))
    have h5 : 0 ≤ lfS K c (k + 1) := by
      unfold lfS
      have := Int.mul_nonneg h3 (show (0 : Int) ≤ c - ((k + 1 : Nat) : Int) by omega)
      have := Int.emod_nonneg K (b := c) (by omega)
      split <;> omega
    omega
end HOUR
