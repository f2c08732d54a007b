/-! an awning is changed: the class -/
def sepP (c ea n : Nat) (P : Nat → Nat) : Prop := ∀ i, i < n → P i ≠ c ∧ P i ≠ c + 1 ∧ P i ≠ c + 2 ∧ P i ≠ ea ∧ ∀ j, j < n → j ≠ i → P j ≠ P i
def upA (A : Nat → Nat → Int) (i : Nat) (a : Nat → Int) : Nat → Nat → Int := fun j => if j = i then a else A j
def upD (D : Nat → Int32) (i : Nat) (d : Int32) : Nat → Int32 := fun j => if j = i then d else D j
theorem upA_i (A : Nat → Nat → Int) (i : Nat) (a : Nat → Int) : upA A i a i = a := if_pos rfl
theorem kW_set {h : zH} {c : Nat} {qd mc : Int32} {ea n : Nat} {P : Nat → Nat} {A : Nat → Nat → Int} {D : Nat → Int32} (k : kW h c qd mc ea n P A D) (e : sepP c ea n P) {i : Nat} (hi : i < n) {a : Nat → Int} {d : Int32} (o : okA a) :
    kW (z_up h (P i) (oA a d)) c qd mc ea n P (upA A i a) (upD D i d) := by
  obtain ⟨k1, ⟨k2, k3, k4⟩, k5⟩ := k
  obtain ⟨e1, e2, -, e4, e5⟩ := e i hi
  refine ⟨(up_ne (fun h => e1 h.symm)).trans k1, ⟨(up_ne (fun h => e2 h.symm)).trans k2, k3, fun hn => ?_⟩, fun j hj => ?_⟩
  · obtain ⟨f, g1, g2⟩ := k4 hn
    exact ⟨f, (up_ne (fun h => e4 h.symm)).trans g1, g2⟩
  · by_cases hji : j = i
    · subst hji
      unfold upA upD
      rw [if_pos rfl, if_pos rfl]
      exact ⟨up_at .., o⟩
    · unfold upA upD
      rw [if_neg hji, if_neg hji]
      exact ⟨(up_ne (e5 j hj hji)).trans (k5 j hj).1, (k5 j hj).2⟩
def rolA (a : Nat → Int) : Nat → Int := fun k => if k = 6 then 1 - a 6 else a k
theorem rolA_ok {a : Nat → Int} (o : okA a) : okA (rolA a) := by
  unfold okA at o
  simp only [okA, rolA]
  simp
  omega
theorem p_X4roll {h : zH} {x c s sl g : Nat} {hr gd go qd mc : Int32} {ea n : Nat} {P : Nat → Nat} {A : Nat → Nat → Int} {D : Nat → Int32} {f : Nat → Int32} (kx : kX h x c s sl g hr gd go) (k : kW h c qd mc ea n P A D) (e : sepP c ea n P) (e2 : ∀ q, inW c ea n P q → q ≠ c + 2) (hx : ∀ i, i < n → P i ≠ x) (hf : h (c + 2) = some (cA 576 f))
    {a : Int} (ha : -2147483648 ≤ a ∧ a < 2147483648) :
    M_X4_roll h x (zi a) = some (if 0 ≤ a ∧ a < n then .inr (zi (1 - A a.toNat 6), hL c (upA A a.toNat (rolA (A a.toNat))) n (z_up h (P a.toNat) (oA (rolA (A a.toNat)) (D a.toNat)))) else .inl sIO) := by
  simp only [M_X4_roll, gR_of kx (k := 0) rfl, ck_of k.1, ob_some, p_numbered k.1 k.2.1 (fun i hi => (k.2.2 i hi).1) ha, z_tb]
  by_cases h1 : 0 ≤ a ∧ a < n
  · obtain ⟨i, rfl⟩ : ∃ i : Nat, a = i := ⟨a.toNat, by omega⟩
    have hi : i < n := by omega
    have hp := (k.2.2 i hi).1
    have o := (k.2.2 i hi).2
    have k' := kW_set k e hi (a := rolA (A i)) (d := D i) (rolA_ok o)
    have o' := o
    unfold okA at o'
    have kx' : kX (z_up h (P i) (oA (rolA (A i)) (D i))) x c s sl g hr gd go := (up_ne (fun q => hx i hi q.symm)).trans kx
    have hf' : z_up h (P i) (oA (rolA (A i)) (D i)) (c + 2) = some (cA 576 f) := (up_ne (fun q => (e i hi).2.2.1 q.symm)).trans hf
    have h6 : (zi (A i 6) = 0) = (A i 6 = 0) := zi_eq (b := 0) (by omega) (by omega) (by omega) (by omega)
    have hback : z_gI (hL c (upA A i (rolA (A i))) n (z_up h (P i) (oA (rolA (A i)) (D i)))) (P i) 1 6 = some (zi (1 - A i 6)) := by
      refine gI_of (fs := [.int (zi (rolA (A i) 0)), .int (zi (rolA (A i) 1)), .int (zi (rolA (A i) 2)), .int (zi (rolA (A i) 3)), .int (zi (rolA (A i) 4)), .int (zi (rolA (A i) 5)), .int (zi (rolA (A i) 6)), .int (D i)]) ((up_ne (e i hi).2.2.1).trans (up_at ..)) ?_
      simp [rolA]
    have hput : ∀ v : Int32, v = zi (1 - A i 6) → z_pV h (P i) 1 6 (.int v) = some (z_up h (P i) (oA (rolA (A i)) (D i))) := fun v hv => by
      rw [pV_of hp (k := 6) (by simp), hv]
      simp only [List.set, rolA]
      rfl
    rw [if_pos h1, if_pos (c := 0 ≤ (i : Int) ∧ _) h1]
    simp only [ob_some, Int.toNat_natCast, gI_of hp (k := 6) rfl, h6, jn2_e]
    by_cases h2 : A i 6 = 0
    · have v1 : (1 : Int32) = zi (1 - A i 6) := by rw [h2]; rfl
      have v2 : zi (1 - A i 6) = 0 ∨ zi (1 - A i 6) = 1 := by rw [h2]; exact .inr rfl
      rw [if_pos h2, if_pos (.inr trivial), hput 1 v1, ob_some, gR_of kx' (k := 0) rfl, ob_some, ck_of k'.1, ob_some, p_layOut k' e2 hf', ob_some, hback, ob_some, if_pos v2]
    · have h3 : A i 6 = 1 := by omega
      have v1 : (0 : Int32) = zi (1 - A i 6) := by rw [h3]; rfl
      have v2 : zi (1 - A i 6) = 0 ∨ zi (1 - A i 6) = 1 := by rw [h3]; exact .inl rfl
      rw [if_neg h2, if_pos (.inl trivial), hput 0 v1, ob_some, gR_of kx' (k := 0) rfl, ob_some, ck_of k'.1, ob_some, p_layOut k' e2 hf', ob_some, hback, ob_some, if_pos v2]
  · rw [if_neg h1, if_neg (c := 0 ≤ a ∧ _) h1]
    rfl
