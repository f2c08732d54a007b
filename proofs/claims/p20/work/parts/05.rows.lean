/-! what is read and written of the abstract heap -/
def z_ob (h : zH) (a ci : Nat) : Option (List Value) := match h a with
  | some (.inr (.inl o)) => if o.1 = ci then some o.2 else none
  | _ => none
def z_gI (h : zH) (a ci k : Nat) : Option Int32 := (z_ob h a ci).bind fun fs => match fs[k]? with
  | some (.int x) => some x
  | _ => none
def z_gR (h : zH) (a ci k : Nat) : Option Nat := (z_ob h a ci).bind fun fs => match fs[k]? with
  | some (.ref x) => some x
  | _ => none
def z_pV (h : zH) (a ci k : Nat) (v : Value) : Option zH := (z_ob h a ci).bind fun fs => if k < fs.length then some (z_up h a (zO ci (fs.set k v))) else none
def z_ck (h : zH) (a ci : Nat) : Option Unit := (z_ob h a ci).bind fun _ => some ()
def z_ai (h : zH) (a : Nat) : Option (Nat × (Nat → Int32)) := match h a with
  | some (.inl (t, n, .inl f)) => if t = 0 then some (n, f) else none
  | _ => none
def z_aq (h : zH) (a : Nat) : Option (Nat × (Nat → Option Nat)) := match h a with
  | some (.inl (t, n, .inr (.inr (.inr (.inr f))))) => if t = 1 then some (n, f) else none
  | _ => none
def z_aI (h : zH) (a : Nat) (i : Int32) : Option Int32 := (z_ai h a).bind fun r => if i < 0 ∨ r.1 ≤ i.toNatClampNeg then none else some (r.2 i.toNatClampNeg)
def z_sI (h : zH) (a : Nat) (i x : Int32) : Option zH := (z_ai h a).bind fun r => if i < 0 ∨ r.1 ≤ i.toNatClampNeg then none else some (z_up h a (zI r.1 (upd r.2 i.toNatClampNeg x)))
def z_aR (h : zH) (a : Nat) (i : Int32) : Option Nat := (z_aq h a).bind fun r => if i < 0 ∨ r.1 ≤ i.toNatClampNeg then none else r.2 i.toNatClampNeg
def z_sR (h : zH) (a : Nat) (i : Int32) (v : Option Nat) : Option zH := (z_aq h a).bind fun r => if i < 0 ∨ r.1 ≤ i.toNatClampNeg then none else some (z_up h a (zQ r.1 (va_up r.2 i.toNatClampNeg v)))
/-- of an array of int[] -/
def z_ad (h : zH) (a : Nat) : Option (Nat × (Nat → Option Nat)) := match h a with
  | some (.inl (t, n, .inr (.inr (.inr (.inr f))))) => if t = 2 then some (n, f) else none
  | _ => none
def z_aD (h : zH) (a : Nat) (i : Int32) : Option Nat := (z_ad h a).bind fun r => if i < 0 ∨ r.1 ≤ i.toNatClampNeg then none else r.2 i.toNatClampNeg
def z_sD (h : zH) (a : Nat) (i : Int32) (b : Nat) : Option zH := (z_ai h b).bind fun _ => (z_ad h a).bind fun r => if i < 0 ∨ r.1 ≤ i.toNatClampNeg then none else some (z_up h a (zD r.1 (va_up r.2 i.toNatClampNeg (some b))))
/-- n int[] of k cells in an array of int[] -/
def z_mm (h : zH) (nx n k : Nat) : zH := fun q => if q = nx then some (zD n fun j => if j < n then some (nx + 1 + j) else none) else if nx < q ∧ q ≤ nx + n then some (zI k fun _ => 0) else h q
/-- of the script -/
def z_sc (h : zH) (a : Nat) : Option (Nat × (Nat → Int32)) := match h a with
  | some (.inr (.inr (some r))) => some r
  | _ => none
def z_sl (h : zH) (a : Nat) : Option Int32 := (z_sc h a).bind fun r => some (Int32.ofNat r.1)
def z_si (h : zH) (a : Nat) (i : Int32) : Option Int32 := (z_sc h a).bind fun r => if i < 0 ∨ r.1 ≤ i.toNatClampNeg then none else some (r.2 i.toNatClampNeg)
def z_al (h : zH) (a : Nat) : Option Int32 := match h a with
  | some (.inl r) => if r.1 < 3 then some (Int32.ofNat r.2.1) else none
  | some (.inr (.inr none)) => some 0
  | _ => none
theorem z_ob_spec {h : zH} {a ci : Nat} {fs : List Value} (e : z_ob h a ci = some fs) : h a = some (zO ci fs) := by
  unfold z_ob at e
  split at e
  · rename_i o ho
    by_cases hc : o.1 = ci
    · rw [if_pos hc] at e
      cases e
      rw [ho, ← hc]
    · rw [if_neg hc] at e; cases e
  · cases e
theorem z_ob_of {h : zH} {a ci : Nat} {fs : List Value} (e : h a = some (zO ci fs)) : z_ob h a ci = some fs := by
  unfold z_ob
  rw [e]
  simp
theorem z_gI_spec {h : zH} {a ci k : Nat} {x : Int32} (e : z_gI h a ci k = some x) : ∃ fs, h a = some (zO ci fs) ∧ fs[k]? = some (.int x) := by
  obtain ⟨fs, h1, h2⟩ := Option.bind_eq_some_iff.mp e
  refine ⟨fs, z_ob_spec h1, ?_⟩
  split at h2
  · rename_i y hy; cases h2; exact hy
  · cases h2
theorem z_gR_spec {h : zH} {a ci k : Nat} {x : Nat} (e : z_gR h a ci k = some x) : ∃ fs, h a = some (zO ci fs) ∧ fs[k]? = some (.ref x) := by
  obtain ⟨fs, h1, h2⟩ := Option.bind_eq_some_iff.mp e
  refine ⟨fs, z_ob_spec h1, ?_⟩
  split at h2
  · rename_i y hy; cases h2; exact hy
  · cases h2
theorem z_pV_spec {h h1 : zH} {a ci k : Nat} {v : Value} (e : z_pV h a ci k v = some h1) : ∃ fs, h a = some (zO ci fs) ∧ k < fs.length ∧ h1 = z_up h a (zO ci (fs.set k v)) := by
  obtain ⟨fs, e1, e2⟩ := Option.bind_eq_some_iff.mp e
  refine ⟨fs, z_ob_spec e1, ?_⟩
  split at e2
  · rename_i hk; cases e2; exact ⟨hk, rfl⟩
  · cases e2
theorem z_ck_spec {h : zH} {a ci : Nat} {u : Unit} (e : z_ck h a ci = some u) : ∃ fs, h a = some (zO ci fs) := by
  obtain ⟨fs, e1, -⟩ := Option.bind_eq_some_iff.mp e
  exact ⟨fs, z_ob_spec e1⟩
theorem z_ai_spec {h : zH} {a : Nat} {r : Nat × (Nat → Int32)} (e : z_ai h a = some r) : h a = some (zI r.1 r.2) := by
  unfold z_ai at e
  split at e
  · rename_i t n f ho
    by_cases ht : t = 0
    · rw [if_pos ht] at e; cases e; rw [ho, ht]
    · rw [if_neg ht] at e; cases e
  · cases e
theorem z_aq_spec {h : zH} {a : Nat} {r : Nat × (Nat → Option Nat)} (e : z_aq h a = some r) : h a = some (zQ r.1 r.2) := by
  unfold z_aq at e
  split at e
  · rename_i t n f ho
    by_cases ht : t = 1
    · rw [if_pos ht] at e; cases e; rw [ho, ht]
    · rw [if_neg ht] at e; cases e
  · cases e
theorem z_aI_spec {h : zH} {a : Nat} {i x : Int32} (e : z_aI h a i = some x) : ∃ n f, h a = some (zI n f) ∧ vp_in i n ∧ f i.toNatClampNeg = x := by
  obtain ⟨r, e1, e2⟩ := Option.bind_eq_some_iff.mp e
  refine ⟨r.1, r.2, z_ai_spec e1, ?_⟩
  split at e2
  · cases e2
  · rename_i hn; cases e2; exact ⟨hn, rfl⟩
theorem z_sI_spec {h h1 : zH} {a : Nat} {i x : Int32} (e : z_sI h a i x = some h1) : ∃ n f, h a = some (zI n f) ∧ vp_in i n ∧ h1 = z_up h a (zI n (upd f i.toNatClampNeg x)) := by
  obtain ⟨r, e1, e2⟩ := Option.bind_eq_some_iff.mp e
  refine ⟨r.1, r.2, z_ai_spec e1, ?_⟩
  split at e2
  · cases e2
  · rename_i hn; cases e2; exact ⟨hn, rfl⟩
theorem z_aR_spec {h : zH} {a : Nat} {i : Int32} {x : Nat} (e : z_aR h a i = some x) : ∃ n f, h a = some (zQ n f) ∧ vp_in i n ∧ f i.toNatClampNeg = some x := by
  obtain ⟨r, e1, e2⟩ := Option.bind_eq_some_iff.mp e
  refine ⟨r.1, r.2, z_aq_spec e1, ?_⟩
  split at e2
  · cases e2
  · rename_i hn; exact ⟨hn, e2⟩
theorem z_sR_spec {h h1 : zH} {a : Nat} {i : Int32} {v : Option Nat} (e : z_sR h a i v = some h1) : ∃ n f, h a = some (zQ n f) ∧ vp_in i n ∧ h1 = z_up h a (zQ n (va_up f i.toNatClampNeg v)) := by
  obtain ⟨r, e1, e2⟩ := Option.bind_eq_some_iff.mp e
  refine ⟨r.1, r.2, z_aq_spec e1, ?_⟩
  split at e2
  · cases e2
  · rename_i hn; cases e2; exact ⟨hn, rfl⟩
theorem z_ad_spec {h : zH} {a : Nat} {r : Nat × (Nat → Option Nat)} (e : z_ad h a = some r) : h a = some (zD r.1 r.2) := by
  unfold z_ad at e
  split at e
  · rename_i t n f ho
    by_cases ht : t = 2
    · rw [if_pos ht] at e; cases e; rw [ho, ht]
    · rw [if_neg ht] at e; cases e
  · cases e
theorem z_aD_spec {h : zH} {a : Nat} {i : Int32} {x : Nat} (e : z_aD h a i = some x) : ∃ n f, h a = some (zD n f) ∧ vp_in i n ∧ f i.toNatClampNeg = some x := by
  obtain ⟨r, e1, e2⟩ := Option.bind_eq_some_iff.mp e
  refine ⟨r.1, r.2, z_ad_spec e1, ?_⟩
  split at e2
  · cases e2
  · rename_i hn; exact ⟨hn, e2⟩
theorem z_sD_spec {h h1 : zH} {a : Nat} {i : Int32} {b : Nat} (e : z_sD h a i b = some h1) : ∃ n f k g, h b = some (zI k g) ∧ h a = some (zD n f) ∧ vp_in i n ∧ h1 = z_up h a (zD n (va_up f i.toNatClampNeg (some b))) := by
  obtain ⟨r0, e0, e⟩ := Option.bind_eq_some_iff.mp e
  obtain ⟨r, e1, e2⟩ := Option.bind_eq_some_iff.mp e
  refine ⟨r.1, r.2, r0.1, r0.2, z_ai_spec e0, z_ad_spec e1, ?_⟩
  split at e2
  · cases e2
  · rename_i hn; cases e2; exact ⟨hn, rfl⟩
theorem z_sc_spec {h : zH} {a : Nat} {r : Nat × (Nat → Int32)} (e : z_sc h a = some r) : h a = some (zT r.1 r.2) := by
  unfold z_sc at e
  split at e
  · rename_i w ho; cases e; exact ho
  · cases e
/-! loops and joins of the mirrors -/
def wl1 {A R : Type} (f : (A → Option R) → A → Option R) : Nat → A → Option R
  | 0 => fun _ => none
  | n + 1 => f (wl1 f n)
def wl2 {A B R : Type} (f : (A → B → Option R) → A → B → Option R) : Nat → A → B → Option R
  | 0 => fun _ _ => none
  | n + 1 => f (wl2 f n)
def wl3 {A B C R : Type} (f : (A → B → C → Option R) → A → B → C → Option R) : Nat → A → B → C → Option R
  | 0 => fun _ _ _ => none
  | n + 1 => f (wl3 f n)
def wl4 {A B C D R : Type} (f : (A → B → C → D → Option R) → A → B → C → D → Option R) : Nat → A → B → C → D → Option R
  | 0 => fun _ _ _ _ => none
  | n + 1 => f (wl4 f n)
def wl5 {A B C D E R : Type} (f : (A → B → C → D → E → Option R) → A → B → C → D → E → Option R) : Nat → A → B → C → D → E → Option R
  | 0 => fun _ _ _ _ _ => none
  | n + 1 => f (wl5 f n)
def wl6 {A B C D E F R : Type} (f : (A → B → C → D → E → F → Option R) → A → B → C → D → E → F → Option R) : Nat → A → B → C → D → E → F → Option R
  | 0 => fun _ _ _ _ _ _ => none
  | n + 1 => f (wl6 f n)
def wl7 {A B C D E F J R : Type} (f : (A → B → C → D → E → F → J → Option R) → A → B → C → D → E → F → J → Option R) : Nat → A → B → C → D → E → F → J → Option R
  | 0 => fun _ _ _ _ _ _ _ => none
  | n + 1 => f (wl7 f n)
theorem wl1_i {A R : Type} {f : (A → Option R) → A → Option R} {P : Option R → A → Prop} (h0 : ∀ a, P none a) (hs : ∀ rec, (∀ a, P (rec a) a) → ∀ a, P (f rec a) a) : ∀ n a, P (wl1 f n a) a
  | 0 => h0
  | n + 1 => hs _ (wl1_i h0 hs n)
theorem wl2_i {A B R : Type} {f : (A → B → Option R) → A → B → Option R} {P : Option R → A → B → Prop} (h0 : ∀ a b, P none a b) (hs : ∀ rec, (∀ a b, P (rec a b) a b) → ∀ a b, P (f rec a b) a b) : ∀ n a b, P (wl2 f n a b) a b
  | 0 => h0
  | n + 1 => hs _ (wl2_i h0 hs n)
theorem wl3_i {A B C R : Type} {f : (A → B → C → Option R) → A → B → C → Option R} {P : Option R → A → B → C → Prop} (h0 : ∀ a b c, P none a b c) (hs : ∀ rec, (∀ a b c, P (rec a b c) a b c) → ∀ a b c, P (f rec a b c) a b c) : ∀ n a b c, P (wl3 f n a b c) a b c
  | 0 => h0
  | n + 1 => hs _ (wl3_i h0 hs n)
theorem wl4_i {A B C D R : Type} {f : (A → B → C → D → Option R) → A → B → C → D → Option R} {P : Option R → A → B → C → D → Prop} (h0 : ∀ a b c d, P none a b c d) (hs : ∀ rec, (∀ a b c d, P (rec a b c d) a b c d) → ∀ a b c d, P (f rec a b c d) a b c d) : ∀ n a b c d, P (wl4 f n a b c d) a b c d
  | 0 => h0
  | n + 1 => hs _ (wl4_i h0 hs n)
theorem wl5_i {A B C D E R : Type} {f : (A → B → C → D → E → Option R) → A → B → C → D → E → Option R} {P : Option R → A → B → C → D → E → Prop} (h0 : ∀ a b c d e, P none a b c d e) (hs : ∀ rec, (∀ a b c d e, P (rec a b c d e) a b c d e) → ∀ a b c d e, P (f rec a b c d e) a b c d e) : ∀ n a b c d e, P (wl5 f n a b c d e) a b c d e
  | 0 => h0
  | n + 1 => hs _ (wl5_i h0 hs n)
theorem wl6_i {A B C D E F R : Type} {f : (A → B → C → D → E → F → Option R) → A → B → C → D → E → F → Option R} {P : Option R → A → B → C → D → E → F → Prop} (h0 : ∀ a b c d e g, P none a b c d e g) (hs : ∀ rec, (∀ a b c d e g, P (rec a b c d e g) a b c d e g) → ∀ a b c d e g, P (f rec a b c d e g) a b c d e g) : ∀ n a b c d e g, P (wl6 f n a b c d e g) a b c d e g
  | 0 => h0
  | n + 1 => hs _ (wl6_i h0 hs n)
theorem wl7_i {A B C D E F J R : Type} {f : (A → B → C → D → E → F → J → Option R) → A → B → C → D → E → F → J → Option R} {P : Option R → A → B → C → D → E → F → J → Prop} (h0 : ∀ a b c d e g j, P none a b c d e g j) (hs : ∀ rec, (∀ a b c d e g j, P (rec a b c d e g j) a b c d e g j) → ∀ a b c d e g j, P (f rec a b c d e g j) a b c d e g j) : ∀ n a b c d e g j, P (wl7 f n a b c d e g j) a b c d e g j
  | 0 => h0
  | n + 1 => hs _ (wl7_i h0 hs n)
def jn0 {R : Type} (k : Option R) (b : Option R → Option R) : Option R := b k
def jn1 {A R : Type} (k : A → Option R) (b : (A → Option R) → Option R) : Option R := b k
def jn2 {A B R : Type} (k : A → B → Option R) (b : (A → B → Option R) → Option R) : Option R := b k
def jn3 {A B C R : Type} (k : A → B → C → Option R) (b : (A → B → C → Option R) → Option R) : Option R := b k
def jn4 {A B C D R : Type} (k : A → B → C → D → Option R) (b : (A → B → C → D → Option R) → Option R) : Option R := b k
def jn5 {A B C D E R : Type} (k : A → B → C → D → E → Option R) (b : (A → B → C → D → E → Option R) → Option R) : Option R := b k
/-- a callee that may throw, called where what it throws goes on to the caller -/
def z_tb {X Y : Type} (a : Option (String ⊕ X)) (k : X → Option (String ⊕ Y)) : Option (String ⊕ Y) := a.bind fun z => match z with
  | .inl E => some (.inl E)
  | .inr x => k x
/-- .. called where it never throws -/
def z_tn {X Y : Type} (a : Option (String ⊕ X)) (k : X → Option Y) : Option Y := a.bind fun z => match z with
  | .inl _ => none
  | .inr x => k x
