/-! parts, by the reference -/
theorem low_two {x : Int32} (h : x ≠ 0) : ∃ k, k < 32 ∧ bt x k = true ∧ x &&& -x = mk fun i => decide (i = k) := by
  obtain ⟨k, h1, h2, h3, -⟩ := low_of h
  refine ⟨k, h1, h2, mk_eq fun i hi => ?_⟩
  have hn : bt (-x) i = (bt x i ^^ decide (∃ j < i, bt x j = true)) := by
    unfold bt
    rw [Int32.toBitVec_neg, BitVec.getLsbD_neg, decide_eq_true hi, Bool.true_and]
  rw [b_and, hn]
  rcases Nat.lt_trichotomy i k with g | g | g
  · rw [h3 i g, Bool.false_and, decide_eq_false (by omega)]
  · subst g
    have e : decide (∃ j < i, bt x j = true) = false := decide_eq_false (by
      rintro ⟨j, hj, e⟩
      rw [h3 j hj] at e; cases e)
    rw [e, h2, decide_eq_true rfl]; rfl
  · have e : decide (∃ j < i, bt x j = true) = true := decide_eq_true ⟨k, g, h2⟩
    rw [e, decide_eq_false (by omega)]
    cases bt x i <;> rfl
def sh (T : Nat → Nat → Bool) (p i : Nat) : Bool := decide (1 ≤ p) && T (p - 1) i
theorem sh_s (T : Nat → Nat → Bool) (k : Nat) : sh T (k + 1) = T k := by
  funext i
  simp [sh]
def hQa (h : zH) (nx : Nat) (f g : Nat → Int32) : zH := z_up (z_up h nx (cA 26 f)) (nx + 1) (cA 26 g)
theorem hQa_0 (h : zH) (nx : Nat) (f g : Nat → Int32) : hQa h nx f g nx = some (cA 26 f) := by rw [hQa, up_ne (by omega), up_at]
theorem hQa_1 (h : zH) (nx : Nat) (f g : Nat → Int32) : hQa h nx f g (nx + 1) = some (cA 26 g) := by rw [hQa, up_at]
theorem hQa_ne {h : zH} {nx q : Nat} {f g : Nat → Int32} (e : q ≠ nx ∧ q ≠ nx + 1) : hQa h nx f g q = h q := by rw [hQa, up_ne e.2, up_ne e.1]
theorem hQa_c {h : zH} {nx : Nat} {f g f' g' : Nat → Int32} (e1 : ∀ p, p < 26 → f p = f' p) (e2 : ∀ p, p < 26 → g p = g' p) : hQa h nx f g = hQa h nx f' g' := by
  unfold hQa
  rw [cA_congr e1, cA_congr e2]
theorem hQa_r0 {h : zH} {nx : Nat} {f g : Nat → Int32} {k : Int} (h1 : 0 ≤ k) (h2 : k < 26) : z_aI (hQa h nx f g) nx (zi k) = some (f k.toNat) := cI_of (hQa_0 ..) (by omega) h1 (by omega)
theorem hQa_r1 {h : zH} {nx : Nat} {f g : Nat → Int32} {k : Int} (h1 : 0 ≤ k) (h2 : k < 26) : z_aI (hQa h nx f g) (nx + 1) (zi k) = some (g k.toNat) := cI_of (hQa_1 ..) (by omega) h1 (by omega)
theorem up_cm {h : zH} {a b : Nat} {x y : zC} (e : a ≠ b) : z_up (z_up h a x) b y = z_up (z_up h b y) a x := by
  funext q
  unfold z_up
  by_cases h1 : q = b
  · rw [if_pos h1, if_neg (by omega), if_pos h1]
  · rw [if_neg h1, if_neg h1]
theorem hQa_s0 {h : zH} {nx : Nat} {f g : Nat → Int32} {k : Int} {v : Int32} (h1 : 0 ≤ k) (h2 : k < 26) : z_sI (hQa h nx f g) nx (zi k) v = some (hQa h nx (fun p => if p = k.toNat then v else f p) g) := by
  rw [csI_of (hQa_0 ..) (by omega) h1 (by omega)]
  unfold hQa
  rw [up_cm (a := nx + 1) (b := nx) (by omega), up_up]
theorem hQa_s1 {h : zH} {nx : Nat} {f g : Nat → Int32} {k : Int} {v : Int32} (h1 : 0 ≤ k) (h2 : k < 26) : z_sI (hQa h nx f g) (nx + 1) (zi k) v = some (hQa h nx f (fun p => if p = k.toNat then v else g p)) := by
  rw [csI_of (hQa_1 ..) (by omega) h1 (by omega)]
  unfold hQa
  rw [up_up]
def hQ (h : zH) (nx : Nat) (L P : Nat → Nat → Bool) : zH := hQa h nx (fun p => mk (sh L p)) (fun p => mk (sh P p))
def gcol (L P : Nat → Nat → Bool) (x v : Nat) : Bool := ((((P x v || (decide (1 ≤ v) && P x (v - 1))) || (decide (v < 31) && P x (v + 1))) || sh P x v) || P (x + 1) v) && L x v
def gr (L P : Nat → Nat → Bool) (x : Nat) : Nat → Nat → Bool := fun u v => if u = x then gcol L P x v else P u v
def spr (L P : Nat → Nat → Bool) : Nat → Nat → Nat → Bool
  | 0 => P
  | k + 1 => gr L (spr L P k) k
def dS (L P : Nat → Nat → Bool) : Nat → Bool
  | 0 => false
  | k + 1 => dS L P k || !decide (mk (gcol L (spr L P k) k) = mk (spr L P k k))
theorem gcol_of {L P : Nat → Nat → Bool} {x v : Nat} : gcol L P x v = true → L x v = true ∧ (P x v = true ∨ ∃ a b, adj a b x v ∧ P a b = true) := by
  unfold gcol sh
  simp only [Bool.and_eq_true, Bool.or_eq_true, decide_eq_true_iff]
  rintro ⟨(((h | ⟨h1, h⟩) | ⟨h1, h⟩) | ⟨h1, h⟩) | h, hL⟩
  · exact ⟨hL, .inl h⟩
  · exact ⟨hL, .inr ⟨_, _, by unfold adj; omega, h⟩⟩
  · exact ⟨hL, .inr ⟨_, _, by unfold adj; omega, h⟩⟩
  · exact ⟨hL, .inr ⟨_, _, by unfold adj; omega, h⟩⟩
  · exact ⟨hL, .inr ⟨_, _, by unfold adj; omega, h⟩⟩
theorem gcol_by {L P : Nat → Nat → Bool} {x v a b : Nat} (hL : L x v = true) (hv : v < 31) (ha : adj a b x v) (hP : P a b = true) : gcol L P x v = true := by
  unfold gcol sh
  simp only [Bool.and_eq_true, Bool.or_eq_true, decide_eq_true_iff]
  refine ⟨?_, hL⟩
  unfold adj at ha
  rcases ha with ⟨rfl, g | g⟩ | ⟨rfl, g | g⟩
  · exact .inl (.inl (.inl (.inr ⟨by omega, by rw [show v - 1 = b from by omega]; exact hP⟩)))
  · exact .inl (.inl (.inr ⟨hv, by rw [g]; exact hP⟩))
  · exact .inl (.inr ⟨by omega, by rw [show x - 1 = a from by omega]; exact hP⟩)
  · exact .inr (by rw [g]; exact hP)
theorem gcol_in {L P : Nat → Nat → Bool} {x v : Nat} (hL : L x v = true) (hP : P x v = true) : gcol L P x v = true := by
  unfold gcol
  rw [hP, hL]
  simp
theorem spr_sub {L P : Nat → Nat → Bool} (h : ∀ x y, P x y = true → L x y = true) (k : Nat) : ∀ x y, spr L P k x y = true → L x y = true := by
  induction k with
  | zero => exact h
  | succ k ih =>
    intro x y h1
    unfold spr gr at h1
    by_cases hx : x = k
    · rw [if_pos hx] at h1
      subst hx
      exact (gcol_of h1).1
    · rw [if_neg hx] at h1; exact ih x y h1
theorem spr_step {L P : Nat → Nat → Bool} (h : ∀ x y, P x y = true → L x y = true) (k : Nat) : ∀ x y, spr L P k x y = true → spr L P (k + 1) x y = true := by
  intro x y h1
  unfold spr gr
  by_cases hx : x = k
  · rw [if_pos hx]
    subst hx
    exact gcol_in (spr_sub h x _ _ h1) h1
  · rw [if_neg hx]; exact h1
theorem spr_mono {L P : Nat → Nat → Bool} (h : ∀ x y, P x y = true → L x y = true) (k : Nat) : ∀ x y, P x y = true → spr L P k x y = true := by
  induction k with
  | zero => exact fun _ _ h => h
  | succ k ih => exact fun x y h1 => spr_step h k x y (ih x y h1)
theorem spr_cn {V L P : Nat → Nat → Bool} {a b : Nat} (hL : ∀ x y, L x y = true → V x y = true) (h : ∀ x y, P x y = true → cn V a b x y) (k : Nat) : ∀ x y, spr L P k x y = true → cn V a b x y := by
  induction k with
  | zero => exact h
  | succ k ih =>
    intro x y h1
    unfold spr gr at h1
    by_cases hx : x = k
    · rw [if_pos hx] at h1
      subst hx
      obtain ⟨g1, g2 | ⟨u, v, g2, g3⟩⟩ := gcol_of h1
      · exact ih _ _ g2
      · exact cn_st (ih _ _ g3) (hL _ _ g1) g2
    · rw [if_neg hx] at h1; exact ih x y h1
theorem dS_f {L P : Nat → Nat → Bool} (hL : inQ L) (h : ∀ x y, P x y = true → L x y = true) (k : Nat) : dS L P k = false → spr L P k = P ∧ ∀ x, x < k → ∀ v, gcol L P x v = true → P x v = true := by
  induction k with
  | zero => exact fun _ => ⟨rfl, fun x hx => absurd hx (by omega)⟩
  | succ k ih =>
    intro h1
    unfold dS at h1
    rw [Bool.or_eq_false_iff, Bool.not_eq_false', decide_eq_true_iff] at h1
    obtain ⟨g1, g2⟩ := ih h1.1
    have h2 := h1.2
    rw [g1] at h2
    have h3 : ∀ v, gcol L P k v = true → P k v = true := fun v hv => by
      have hr := hL _ _ (gcol_of hv).1
      have e := congrArg (fun z => bt z v) h2
      rw [bt_mk (by omega), bt_mk (by omega)] at e
      rw [← e]; exact hv
    refine ⟨?_, fun x hx v hv => ?_⟩
    · funext x y
      unfold spr gr
      by_cases hx : x = k
      · rw [if_pos hx, g1, Bool.eq_iff_iff, hx]
        exact ⟨h3 y, fun g => gcol_in (h _ _ g) g⟩
      · rw [if_neg hx, g1]
    · by_cases hxk : x = k
      · subst hxk; exact h3 v hv
      · exact g2 x (by omega) v hv
theorem dS_t {L P : Nat → Nat → Bool} (hL : inQ L) (h : ∀ x y, P x y = true → L x y = true) (k : Nat) : dS L P k = true → ∃ x y, x < 24 ∧ y < 24 ∧ P x y = false ∧ spr L P k x y = true := by
  induction k with
  | zero => intro h1; cases h1
  | succ k ih =>
    intro h1
    unfold dS at h1
    rw [Bool.or_eq_true, Bool.not_eq_true', decide_eq_false_iff_not] at h1
    rcases h1 with h1 | h1
    · obtain ⟨x, y, g1, g2, g3, g4⟩ := ih h1
      exact ⟨x, y, g1, g2, g3, spr_step h k _ _ g4⟩
    · have h2 : ∃ i, i < 32 ∧ gcol L (spr L P k) k i ≠ spr L P k k i := by
        refine Classical.byContradiction fun hno => h1 (mk_congr fun i hi => ?_)
        exact Classical.byContradiction fun hne => hno ⟨i, hi, hne⟩
      obtain ⟨i, hi, hne⟩ := h2
      have h3 : spr L P k k i = false := by
        refine Bool.eq_false_iff.mpr fun g => hne ?_
        rw [g, gcol_in (spr_sub h k _ _ g) g]
      have h4 : gcol L (spr L P k) k i = true := by
        cases e : gcol L (spr L P k) k i with
        | true => rfl
        | false => rw [e, h3] at hne; exact absurd rfl hne
      have hr := hL _ _ (gcol_of h4).1
      refine ⟨k, i, hr.1, hr.2, Bool.eq_false_iff.mpr fun g => ?_, ?_⟩
      · rw [spr_mono h k _ _ g] at h3; cases h3
      · unfold spr gr
        rw [if_pos rfl]; exact h4
theorem inQ_sub {V L : Nat → Nat → Bool} (hV : inQ V) (h : ∀ x y, L x y = true → V x y = true) : inQ L := fun x y g => hV x y (h x y g)
theorem p_spreads {h : zH} {nx : Nat} {L P : Nat → Nat → Bool} (hL : inQ L) (hs : ∀ x y, P x y = true → L x y = true) : M_X5_spreads (hQ h nx L P) (nx + 1) nx = some (zi (b1 (dS L P 24)), hQ h nx L (spr L P 24)) := by
  unfold M_X5_spreads
  refine wl3_st (fun k => zi (b1 (dS L P k))) (fun k => zi ((k : Int) + 1)) (fun k => hQ h nx L (spr L P k)) 24 rfl rfl rfl ?_ ?_ 700 (by omega)
  · intro rec k hk
    have hq : inQ (spr L P k) := inQ_sub hL (spr_sub hs k)
    have e0 : z_aI (hQ h nx L (spr L P k)) (nx + 1) (zi ((k : Int) + 1)) = some (mk (spr L P k k)) := by
      rw [hQ, hQa_r1 (by omega) (by omega), show ((k : Int) + 1).toNat = k + 1 from by omega, sh_s]
    have e1 : z_aI (hQ h nx L (spr L P k)) (nx + 1) (zi ((k : Int) + 1) - 1) = some (mk (sh (spr L P k) k)) := by
      rw [n_1, zi_sub, hQ, hQa_r1 (by omega) (by omega), show ((k : Int) + 1 - 1).toNat = k from by omega]
    have e2 : z_aI (hQ h nx L (spr L P k)) (nx + 1) (zi ((k : Int) + 1) + 1) = some (mk (spr L P k (k + 1))) := by
      rw [n_1, zi_add, hQ, hQa_r1 (by omega) (by omega), show ((k : Int) + 1 + 1).toNat = k + 1 + 1 from by omega, sh_s]
    have e3 : z_aI (hQ h nx L (spr L P k)) nx (zi ((k : Int) + 1)) = some (mk (L k)) := by
      rw [hQ, hQa_r0 (by omega) (by omega), show ((k : Int) + 1).toNat = k + 1 from by omega, sh_s]
    have h31 : spr L P k k 31 = false := Bool.eq_false_iff.mpr fun g => by have := (hq _ _ g).2; omega
    have ev : ((((mk (spr L P k k) ||| (mk (spr L P k k) <<< ((1 : Int32) &&& 31))) ||| (mk (spr L P k k) >>> ((1 : Int32) &&& 31))) ||| mk (sh (spr L P k) k)) ||| mk (spr L P k (k + 1))) &&& mk (L k) = mk (gcol L (spr L P k) k) := by
      rw [mk_shl1, mk_sshr1 h31, mk_or, mk_or, mk_or, mk_or, mk_and]
      rfl
    have es : z_sI (hQ h nx L (spr L P k)) (nx + 1) (zi ((k : Int) + 1)) (mk (gcol L (spr L P k) k)) = some (hQ h nx L (spr L P (k + 1))) := by
      rw [hQ, hQa_s1 (by omega) (by omega)]
      refine congrArg some (hQa_c (fun _ _ => rfl) fun p hp => ?_)
      by_cases hpk : p = k + 1
      · rw [if_pos (by omega), hpk, sh_s]
        exact mk_congr fun i _ => (if_pos (c := k = k) rfl).symm
      · rw [if_neg (by omega)]
        refine mk_congr fun i _ => ?_
        unfold sh
        by_cases h1 : 1 ≤ p
        · show _ = (decide (1 ≤ p) && gr L (spr L P k) k (p - 1) i)
          rw [gr, if_neg (by omega)]
        · rw [decide_eq_false h1, Bool.false_and, Bool.false_and]
    have o0 : ∀ b : Bool, zi (b1 b) ||| 0 = zi (b1 (b || !true)) := by decide +kernel
    have o1 : ∀ b : Bool, zi (b1 b) ||| 1 = zi (b1 (b || !false)) := by decide +kernel
    have hlt : ((24 : Int32) < zi ((k : Int) + 1)) = ((24 : Int) < (k : Int) + 1) := zi_lt (a := 24) (by omega) (by omega) (by omega) (by omega)
    simp only [hlt, e0, e1, e2, e3, Option.bind_some, ev, es, jn2]
    rw [if_neg (by omega), n_1, zi_add]
    by_cases hd : mk (gcol L (spr L P k) k) = mk (spr L P k k)
    · rw [if_pos hd, o0, dS, decide_eq_true hd]
      simp only [Int.natCast_add, Int.natCast_one]
    · rw [if_neg hd, ← n_1, o1, dS, decide_eq_false hd]
      simp only [Int.natCast_add, Int.natCast_one]
  · intro rec
    have hlt : ((24 : Int32) < zi (((24 : Nat) : Int) + 1)) = ((24 : Int) < ((24 : Nat) : Int) + 1) := zi_lt (a := 24) (by omega) (by omega) (by omega) (by omega)
    simp only [hlt]
    rw [if_pos (by omega), if_pos]
    cases dS L P 24 <;> decide
def dif (V T : Nat → Nat → Bool) : Nat → Nat → Bool := fun x y => V x y && !T x y
def one (a b : Nat) : Nat → Nat → Bool := fun x y => decide (x = a ∧ y = b)
theorem dif_t {V T : Nat → Nat → Bool} {x y : Nat} : dif V T x y = true ↔ V x y = true ∧ T x y = false := by
  unfold dif
  rw [Bool.and_eq_true, Bool.not_eq_true']
theorem mk_z {p : Nat → Bool} (h : mk p = 0) {i : Nat} (hi : i < 32) : p i = false := by
  rw [← bt_mk (p := p) hi, h, b_0]
/-- a part that is being spread -/
def mpI (V L : Nat → Nat → Bool) (a b : Nat) (P : Nat → Nat → Bool) : Prop := P a b = true ∧ (∀ x y, P x y = true → L x y = true) ∧ ∀ x y, P x y = true → cn V a b x y
def mpB (h : zH) (nx : Nat) (V L : Nat → Nat → Bool) (a b : Nat) (d : Nat) (w : Int32) (H : zH) : Prop := ∃ (c : Bool) (P : Nat → Nat → Bool), w = zi (b1 c) ∧ H = hQ h nx L P ∧ mpI V L a b P ∧ d = (if c = true then (577 - nmb P).toNat else 0) ∧ (c = false → ∀ x, x < 24 → ∀ v, gcol L P x v = true → P x v = true)
def mpC (h : zH) (nx : Nat) (L P : Nat → Nat → Bool) (d : Nat) (k : Int32) (H : zH) : Prop := ∃ j : Nat, j ≤ 26 ∧ d = 26 - j ∧ k = zi j ∧ H = hQa h nx (fun p => if p < j then mk (sh (dif L P) p) else mk (sh L p)) (fun p => mk (sh P p))
def mpZ (h : zH) (nx : Nat) (L P : Nat → Nat → Bool) (d : Nat) (k : Int32) (H : zH) : Prop := ∃ j : Nat, j ≤ 26 ∧ d = 26 - j ∧ k = zi j ∧ H = hQa h nx (fun p => mk (sh L p)) (fun p => if p < j then 0 else mk (sh P p))
def mpL (h : zH) (nx : Nat) (V : Nat → Nat → Bool) (x : Nat) (d : Nat) (many : Int32) (H : zH) : Prop := ∃ T P : Nat → Nat → Bool, d = (nmb (dif V T)).toNat ∧ many = zi (pcnt V T) ∧ H = hQ h nx (dif V T) P ∧ clo V T ∧ ∀ u v, u < x → V u v = true → T u v = true
def mpX (h : zH) (nx : Nat) (V : Nat → Nat → Bool) (d : Nat) (many c : Int32) (H : zH) : Prop := ∃ (x : Nat) (T P : Nat → Nat → Bool), x ≤ 24 ∧ d = 24 - x ∧ c = zi ((x : Int) + 1) ∧ many = zi (pcnt V T) ∧ H = hQ h nx (dif V T) P ∧ clo V T ∧ ∀ u v, u < x → V u v = true → T u v = true
def mpF (h : zH) (nx : Nat) (V : Nat → Nat → Bool) (d : Nat) (c : Int32) (H : zH) : Prop := ∃ x : Nat, x ≤ 24 ∧ d = 24 - x ∧ c = zi x ∧ H = hQa h nx (fun p => if p < x + 1 then mk (sh V p) else 0) (fun _ => 0)
theorem p_mparts {h : zH} {m n sn nx : Nat} {th hr ro : Int32} {A : Nat → Nat → Int} {D : Nat → Int32} (km : kM h m th n sn hr ro) (ks : kSh h m n A D) (hnx : m + 7 ≤ nx) :
    ∃ L P : Nat → Nat → Bool, M_X5_parts h nx m = some (zi (pcnt (pV A n) (pV A n)), hQ h nx L P, nx + 2) := by
  obtain ⟨hn, f, h1, ho'⟩ := id ks
  have ho : ∀ i, i < n → okA (A i) := fun i hi => (ho' i hi).1
  have hV := pV_in ho
  have km' : ∀ f g, kM (hQa h nx f g) m th n sn hr ro := fun f g => (hQa_ne (by omega)).trans km
  have ks' : ∀ f g, kSh (hQa h nx f g) m n A D := fun f g => by
    obtain ⟨hn, f', g1, g2⟩ := ks
    exact ⟨hn, f', (hQa_ne (by omega)).trans g1, g2⟩
  have z26 : ∀ f g, z_al (hQa h nx f g) (nx + 1) = some (zi 26) := fun f g => al_of (hQa_1 ..)
  unfold M_X5_parts
  rw [ar_0 26]
  refine wl2_go (Post := fun r => ∃ L P : Nat → Nat → Bool, r = some (zi (pcnt (pV A n) (pV A n)), hQ h nx L P, nx + 2)) (mpF h nx (pV A n)) ?_ 24 700 _ _ ⟨0, by omega, rfl, n_0, ?_⟩ (by omega)
  · rintro rec d c H ⟨x, hx, rfl, rfl, rfl⟩
    simp (disch := omega) only [n_24, zi_le, zi_lt]
    by_cases g1 : x = 24
    · left
      subst g1
      rw [if_pos (by omega)]
      refine wl3_go (Post := fun r => ∃ L P : Nat → Nat → Bool, r = some (zi (pcnt (pV A n) (pV A n)), hQ h nx L P, nx + 2)) (mpX h nx (pV A n)) ?_ 24 700 _ _ _ ⟨0, fun _ _ => false, fun _ _ => false, by omega, rfl, n_1, by rw [pcnt_0]; rfl, ?_, clo_0 _, fun _ _ g => absurd g (by omega)⟩ (by omega)
      · rintro rec2 d many c H ⟨x, T, P, hx, rfl, rfl, rfl, rfl, hcl, hd⟩
        simp (disch := omega) only [zi_lt]
        by_cases g2 : x = 24
        · left
          subst g2
          rw [if_pos (by omega)]
          have hTV : T = pV A n := by
            funext u v
            rw [Bool.eq_iff_iff]
            exact ⟨hcl.1 u v, fun g => hd u v (hV _ _ g).1 g⟩
          rw [hTV]
          exact ⟨_, _, rfl⟩
        · right
          rw [if_neg (by omega)]
          refine wl2_go (Post := fun r => ∃ d' a' b' c', d' < 24 - x ∧ mpX h nx (pV A n) d' a' b' c' ∧ r = rec2 a' b' c') (mpL h nx (pV A n) x) ?_ (nmb (dif (pV A n) T)).toNat 700 _ _ ⟨T, P, rfl, rfl, rfl, hcl, hd⟩ (by have := nmb_bd (dif (pV A n) T); omega)
          rintro rec3 d many H ⟨T, P, rfl, rfl, rfl, hcl, hd⟩
          have e0 : ∀ P, z_aI (hQ h nx (dif (pV A n) T) P) nx (zi ((x : Int) + 1)) = some (mk (dif (pV A n) T x)) := fun P => by
            rw [hQ, hQa_r0 (by omega) (by omega), show ((x : Int) + 1).toNat = x + 1 from by omega, sh_s]
          have hLV : ∀ x y, dif (pV A n) T x y = true → pV A n x y = true := fun x y g => (dif_t.1 g).1
          have hL : inQ (dif (pV A n) T) := inQ_sub hV hLV
          simp only [e0, ob_some]
          by_cases g3 : mk (dif (pV A n) T x) = 0
          · left
            rw [if_pos g3, n_1, zi_add]
            refine ⟨24 - (x + 1), _, _, _, by omega, ⟨x + 1, T, P, by omega, rfl, rfl, rfl, rfl, hcl, fun u v g4 g5 => ?_⟩, rfl⟩
            by_cases g6 : u = x
            · subst g6
              cases hT : T u v with
              | true => rfl
              | false =>
                have := mk_z g3 (i := v) (by have := (hV _ _ g5).2; omega)
                rw [dif_t.2 ⟨g5, hT⟩] at this
                cases this
            · exact hd u v (by omega) g5
          · right
            rw [if_neg g3]
            obtain ⟨b, k1, k2, k3⟩ := low_two g3
            rw [bt_mk k1] at k2
            have hseed := dif_t.1 k2
            have hb := hV _ _ hseed.1
            refine wl2_go (Post := fun r => ∃ d' a' b', d' < (nmb (dif (pV A n) T)).toNat ∧ mpL h nx (pV A n) x d' a' b' ∧ r = rec3 a' b') (mpZ h nx (dif (pV A n) T) P) ?_ 26 700 _ _ ⟨0, by omega, rfl, n_0, hQa_c (fun _ _ => rfl) fun p _ => (if_neg (by omega)).symm⟩ (by omega)
            rintro rec4 d k H ⟨j, hj, rfl, rfl, rfl⟩
            simp (disch := omega) only [z26, ob_some, zi_le]
            by_cases g4 : j = 26
            · left
              subst g4
              have f0 : hQa h nx (fun p => mk (sh (dif (pV A n) T) p)) (fun p => if p < 26 then 0 else mk (sh P p)) = hQa h nx (fun p => mk (sh (dif (pV A n) T) p)) (fun _ => 0) := hQa_c (fun _ _ => rfl) fun p hp => if_pos hp
              have f1 : z_aI (hQa h nx (fun p => mk (sh (dif (pV A n) T) p)) (fun _ => 0)) nx (zi ((x : Int) + 1)) = some (mk (dif (pV A n) T x)) := by
                rw [hQa_r0 (by omega) (by omega), show ((x : Int) + 1).toNat = x + 1 from by omega, sh_s]
              have f2 : z_sI (hQa h nx (fun p => mk (sh (dif (pV A n) T) p)) (fun _ => 0)) (nx + 1) (zi ((x : Int) + 1)) (mk fun i => decide (i = b)) = some (hQ h nx (dif (pV A n) T) (one x b)) := by
                rw [hQa_s1 (by omega) (by omega)]
                refine congrArg some (hQa_c (fun _ _ => rfl) fun p hp => ?_)
                by_cases g5 : p = x + 1
                · rw [if_pos (by omega), g5, sh_s]
                  refine mk_congr fun i _ => ?_
                  unfold one
                  rw [Bool.eq_iff_iff, decide_eq_true_iff, decide_eq_true_iff]
                  omega
                · rw [if_neg (by omega), mk_0]
                  refine mk_congr fun i _ => ?_
                  unfold sh one
                  by_cases g6 : 1 ≤ p
                  · rw [decide_eq_false (p := p - 1 = x ∧ i = b) (by omega), Bool.and_false]
                  · rw [decide_eq_false g6, Bool.false_and]
              rw [if_pos (by omega), f0]
              simp only [f1, ob_some, k3, f2]
              have one_t : ∀ u v, one x b u v = true → u = x ∧ v = b := fun u v g => decide_eq_true_iff.1 g
              refine wl2_go (Post := fun r => ∃ d' a' b', d' < (nmb (dif (pV A n) T)).toNat ∧ mpL h nx (pV A n) x d' a' b' ∧ r = rec3 a' b') (mpB h nx (pV A n) (dif (pV A n) T) x b) ?_ (577 - nmb (one x b)).toNat 700 _ _ ⟨true, one x b, rfl, rfl, ⟨decide_eq_true ⟨rfl, rfl⟩, fun u v g => ?_, fun u v g => ?_⟩, rfl, fun g => by cases g⟩ (by have := nmb_bd (one x b); omega)
              · rintro rec5 d w H ⟨c, P, rfl, rfl, ⟨i1, i2, i3⟩, rfl, hfin⟩
                cases c with
                | false =>
                  left
                  have hw : zi (b1 false) = 0 := rfl
                  rw [if_pos hw]
                  have hclo := hfin rfl
                  have hTP : ∀ u v, (T u v || P u v) = true ↔ T u v = true ∨ cn (pV A n) x b u v := by
                    intro u v
                    rw [Bool.or_eq_true]
                    refine ⟨fun g => g.imp_right (i3 u v), fun g => g.elim .inl fun g => ?_⟩
                    have key : pV A n u v = true ∧ (T u v = true ∨ P u v = true) := by
                      refine g (fun u v => pV A n u v = true ∧ (T u v = true ∨ P u v = true)) ⟨hseed.1, .inr i1⟩ fun a' b' c' d' q1 q2 q3 => ⟨q2, ?_⟩
                      rcases q1.2 with q4 | q4
                      · exact .inl (hcl.2 _ _ _ _ q4 (cn_st (cn_rf _ _ _) q2 q3))
                      · cases hT : T c' d' with
                        | true => exact .inl rfl
                        | false =>
                          have hr := hV _ _ q2
                          exact .inr (hclo c' hr.1 d' (gcol_by (dif_t.2 ⟨q2, hT⟩) (by omega) q3 q4))
                    exact key.2
                  have hcnt := pcnt_add hV hcl hseed.1 hseed.2 hTP
                  have hdd : dif (dif (pV A n) T) P = dif (pV A n) (fun u v => T u v || P u v) := by
                    funext u v
                    simp only [dif]
                    cases pV A n u v <;> cases T u v <;> cases P u v <;> rfl
                  refine wl2_go (Post := fun r => ∃ d' a' b', d' < (nmb (dif (pV A n) T)).toNat ∧ mpL h nx (pV A n) x d' a' b' ∧ r = rec3 a' b') (mpC h nx (dif (pV A n) T) P) ?_ 26 700 _ _ ⟨0, by omega, rfl, n_0, hQa_c (fun p _ => (if_neg (by omega)).symm) fun _ _ => rfl⟩ (by omega)
                  rintro rec6 d k H ⟨j, hj, rfl, rfl, rfl⟩
                  simp (disch := omega) only [z26, ob_some, zi_le]
                  by_cases g5 : j = 26
                  · left
                    subst g5
                    rw [if_pos (by omega), n_1, zi_add]
                    refine ⟨(nmb (dif (pV A n) fun u v => T u v || P u v)).toNat, _, _, ?_, ⟨fun u v => T u v || P u v, P, rfl, by rw [hcnt], ?_, ?_, fun u v q1 q2 => (hTP u v).2 (.inl (hd u v q1 q2))⟩, rfl⟩
                    · have q := nmb_lt (T := dif (pV A n) fun u v => T u v || P u v) (T' := dif (pV A n) T) (a := x) (b := b) (fun u v g => by
                        have q1 := dif_t.1 g
                        rw [Bool.or_eq_false_iff] at q1
                        exact dif_t.2 ⟨q1.1, q1.2.1⟩) hb.1 hb.2 (by simp only [dif, i1, Bool.or_true, Bool.not_true, Bool.and_false]) k2
                      have q2 := nmb_bd (dif (pV A n) fun u v => T u v || P u v)
                      omega
                    · exact (hQa_c (fun p hp => by rw [if_pos hp, hdd]) fun _ _ => rfl)
                    · refine clo_of (fun u v g => ?_) fun a' b' c' d' q1 q2 q3 => ?_
                      · rcases (hTP u v).1 g with q | q
                        · exact hcl.1 _ _ q
                        · exact cn_in q hseed.1
                      · refine (hTP c' d').2 ?_
                        rcases (hTP a' b').1 q1 with q | q
                        · exact .inl (hcl.2 _ _ _ _ q (cn_st (cn_rf _ _ _) q2 q3))
                        · exact .inr (cn_st q q2 q3)
                  · right
                    have s0 : z_aI (hQa h nx (fun p => if p < j then mk (sh (dif (dif (pV A n) T) P) p) else mk (sh (dif (pV A n) T) p)) (fun p => mk (sh P p))) nx (zi j) = some (mk (sh (dif (pV A n) T) j)) := by
                      rw [hQa_r0 (by omega) (by omega), Int.toNat_natCast, if_neg (by omega)]
                    have s1 : z_aI (hQa h nx (fun p => if p < j then mk (sh (dif (dif (pV A n) T) P) p) else mk (sh (dif (pV A n) T) p)) (fun p => mk (sh P p))) (nx + 1) (zi j) = some (mk (sh P j)) := by
                      rw [hQa_r1 (by omega) (by omega), Int.toNat_natCast]
                    have s2 : (mk fun i => sh (dif (pV A n) T) j i && !sh P j i) = mk (sh (dif (dif (pV A n) T) P) j) := mk_congr fun i _ => by
                      unfold sh
                      by_cases g : 1 ≤ j
                      · rw [decide_eq_true g]; rfl
                      · rw [decide_eq_false g]; rfl
                    rw [if_neg (by omega)]
                    simp only [s0, s1, ob_some, mk_not, mk_and, s2]
                    rw [hQa_s0 (by omega) (by omega), ob_some, n_1, zi_add]
                    refine ⟨26 - (j + 1), _, _, by omega, ⟨j + 1, by omega, rfl, rfl, hQa_c (fun p hp => ?_) fun _ _ => rfl⟩, rfl⟩
                    by_cases g6 : p = j
                    · rw [if_pos (by omega), if_pos (by omega), g6]
                    · rw [if_neg (by omega)]
                      by_cases g7 : p < j
                      · rw [if_pos g7, if_pos (by omega)]
                      · rw [if_neg g7, if_neg (by omega)]
                | true =>
                  right
                  have hw : ¬zi (b1 true) = 0 := by decide
                  rw [if_neg hw, p_spreads hL i2, ob_some]
                  have q1 := nmb_bd P
                  have q2 := nmb_bd (spr (dif (pV A n) T) P 24)
                  cases hdS : dS (dif (pV A n) T) P 24 with
                  | false =>
                    obtain ⟨q3, q4⟩ := dS_f hL i2 24 hdS
                    exact ⟨0, _, _, by rw [if_pos rfl]; omega, ⟨false, P, rfl, by rw [q3], ⟨i1, i2, i3⟩, rfl, fun _ => q4⟩, rfl⟩
                  | true =>
                    obtain ⟨u, v, q3, q4, q5, q6⟩ := dS_t hL i2 24 hdS
                    have q7 := nmb_lt (spr_mono i2 24) q3 q4 q5 q6
                    exact ⟨_, _, _, by rw [if_pos rfl]; omega, ⟨true, _, rfl, rfl, ⟨spr_mono i2 24 _ _ i1, spr_sub i2 24, spr_cn hLV i3 24⟩, (if_pos (c := true = true) rfl).symm, fun g => by cases g⟩, rfl⟩
              · obtain ⟨rfl, rfl⟩ := one_t u v g
                exact k2
              · obtain ⟨rfl, rfl⟩ := one_t u v g
                exact cn_rf _ _ _
            · right
              rw [if_neg (by omega), hQa_s1 (by omega) (by omega), ob_some, n_1, zi_add]
              refine ⟨26 - (j + 1), _, _, by omega, ⟨j + 1, by omega, rfl, rfl, hQa_c (fun _ _ => rfl) fun p hp => ?_⟩, rfl⟩
              by_cases g6 : p = j
              · rw [if_pos (by omega), if_pos (by omega)]
              · rw [if_neg (by omega)]
                by_cases g7 : p < j
                · rw [if_pos g7, if_pos (by omega)]
                · rw [if_neg g7, if_neg (by omega)]
      · refine hQa_c (fun p hp => ?_) fun p hp => ?_
        · have e : dif (pV A n) (fun _ _ => false) = pV A n := by
            funext u v
            unfold dif
            cases pV A n u v <;> rfl
          rw [e]
          by_cases g2 : p < 25
          · rw [if_pos g2]
          · rw [if_neg g2, mk_0]
            refine mk_congr fun i _ => ?_
            have e2 : pV A n (p - 1) i = false := Bool.eq_false_iff.mpr fun g => by have := (hV _ _ g).1; omega
            unfold sh
            rw [e2, Bool.and_false]
        · rw [mk_0]
          refine mk_congr fun i _ => ?_
          unfold sh
          rw [Bool.and_false]
    · right
      have e1 : M_X5_covered_ (hQa h nx (fun p => if p < x + 1 then mk (sh (pV A n) p) else 0) (fun _ => 0)) m (zi x) = some (mk (pV A n x)) := p_cov (km' _ _) (ks' _ _) (by omega)
      simp (disch := omega) only [ck_of (km' _ _), ob_some, e1]
      rw [if_neg (by omega), n_1, zi_add, hQa_s0 (by omega) (by omega), ob_some]
      refine ⟨24 - (x + 1), _, _, by omega, ⟨x + 1, by omega, rfl, rfl, hQa_c (fun p hp => ?_) fun _ _ => rfl⟩, rfl⟩
      by_cases g2 : p = x + 1
      · rw [if_pos (by omega), if_pos (by omega), g2, sh_s]
      · rw [if_neg (by omega)]
        by_cases g3 : p < x + 1
        · rw [if_pos g3, if_pos (by omega)]
        · rw [if_neg g3, if_neg (by omega)]
  · refine hQa_c (fun p hp => ?_) fun _ _ => rfl
    by_cases g : p < 0 + 1
    · rw [if_pos g, mk_0]
      refine mk_congr fun i _ => ?_
      unfold sh
      rw [decide_eq_false (by omega), Bool.false_and]
    · rw [if_neg g]
