section PARTS
variable {h : zH} {nx n m ra rs rg : Nat} {hr ro : Int32} {Pa : Nat → Nat} {A : Nat → Nat → Int} {D : Nat → Int32}
theorem pV_q (ho : ∀ i, i < n → okA (A i)) : inQ (pV A n) := pV_in ho
/-- one look at a cell -/
theorem y_look {N : Nat → Nat → Int} (ho : ∀ i, i < n → okA (A i)) (g : gN (pV A n) N) {X Y : Nat} (hX : X < 24) (hY : Y < 24) (fl : Int32) {R : Type} (K : Int32 → zH → Option R) :
    ((z_aD (hN nx N h) nx (zi ((X + 1 : Nat) : Int))).bind fun r13 => (z_aI (hN nx N h) r13 (zi ((Y + 1 : Nat) : Int))).bind fun r14 => jn2 K fun J15 => (if r14 = 0 then (J15 fl (hN nx N h)) else (z_aD (hN nx N h) nx (zi (X : Int))).bind fun r16 => (z_aI (hN nx N h) r16 (zi ((Y + 1 : Nat) : Int))).bind fun r17 => (z_aD (hN nx N h) nx (zi ((X + 2 : Nat) : Int))).bind fun r18 => (z_aI (hN nx N h) r18 (zi ((Y + 1 : Nat) : Int))).bind fun r19 => (z_aD (hN nx N h) nx (zi ((X + 1 : Nat) : Int))).bind fun r20 => (z_aI (hN nx N h) r20 (zi (Y : Int))).bind fun r21 => (z_aD (hN nx N h) nx (zi ((X + 1 : Nat) : Int))).bind fun r22 => (z_aI (hN nx N h) r22 (zi ((Y + 2 : Nat) : Int))).bind fun r23 => (z_aD (hN nx N h) nx (zi ((X + 1 : Nat) : Int))).bind fun r24 => (z_aI (hN nx N h) r24 (zi ((Y + 1 : Nat) : Int))).bind fun r25 => (if r25 < (if (if r17 < r19 then r19 else r17) < (if r21 < r23 then r23 else r21) then (if r21 < r23 then r23 else r21) else (if r17 < r19 then r19 else r17)) then (z_aD (hN nx N h) nx (zi ((X + 1 : Nat) : Int))).bind fun r26 => (z_sI (hN nx N h) r26 (zi ((Y + 1 : Nat) : Int)) (if (if r17 < r19 then r19 else r17) < (if r21 < r23 then r23 else r21) then (if r21 < r23 then r23 else r21) else (if r17 < r19 then r19 else r17))).bind fun h_27 => (J15 (1 : Int32) h_27) else (J15 fl (hN nx N h))))) =
      if N (X + 1) (Y + 1) ≠ 0 ∧ N (X + 1) (Y + 1) < msN N X Y then K 1 (hN nx (upN N (X + 1) (Y + 1) (msN N X Y)) h) else K fl (hN nx N h) := by
  have hV := pV_q ho
  have bd := gN_bd hV g
  rw [hN_c (by omega), ob_some, hN_at (by omega) (by omega), ob_some, jn2_e]
  have e0 : (zi (N (X + 1) (Y + 1)) = 0) = (N (X + 1) (Y + 1) = 0) := zi_eq (b := 0) (by have := bd (X + 1) (Y + 1); omega) (by have := bd (X + 1) (Y + 1); omega) (by omega) (by omega)
  by_cases q : N (X + 1) (Y + 1) = 0
  · rw [if_pos (by rw [e0]; exact q), if_neg (fun w => w.1 q)]
  · have m1 := mx_bd (bd X (Y + 1)) (bd (X + 2) (Y + 1))
    have m2 := mx_bd (bd (X + 1) Y) (bd (X + 1) (Y + 2))
    have m3 := mx_bd m1 m2
    rw [if_neg (by rw [e0]; exact q), hN_c (by omega), ob_some, hN_at (by omega) (by omega), ob_some, hN_c (by omega), ob_some, hN_at (by omega) (by omega), ob_some, ob_some, hN_at (by omega) (by omega), ob_some, ob_some, hN_at (by omega) (by omega), ob_some, ob_some, hN_at (by omega) (by omega), ob_some, zi_mx (bd X (Y + 1)) (bd (X + 2) (Y + 1)), zi_mx (bd (X + 1) Y) (bd (X + 1) (Y + 2)), zi_mx m1 m2]
    have e1 : (zi (N (X + 1) (Y + 1)) < zi (mx (mx (N X (Y + 1)) (N (X + 2) (Y + 1))) (mx (N (X + 1) Y) (N (X + 1) (Y + 2))))) = (N (X + 1) (Y + 1) < msN N X Y) := zi_lt (by have := bd (X + 1) (Y + 1); omega) (by have := bd (X + 1) (Y + 1); omega) (by omega) (by omega)
    by_cases q2 : N (X + 1) (Y + 1) < msN N X Y
    · rw [if_pos (by rw [e1]; exact q2), if_pos ⟨q, q2⟩, ob_some, hN_set (by omega) (by omega), ob_some]
      rfl
    · rw [if_neg (by rw [e1]; exact q2), if_neg (fun w => q2 w.2)]
/-- the loop that moves the names, and the count behind it -/
noncomputable def pw2 (nx : Nat) (H : zH) : Option (Int32 × zH × Nat) := wl2 (fun (rec2 : Int32 → zH → Option (Int32 × zH × Nat)) (x2_2 : Int32) (h_2 : zH) => (if x2_2 = 0 then wl2 (fun (rec3 : Int32 → Int32 → Option (Int32 × zH × Nat)) (x3_3 : Int32) (x4_3 : Int32) => (if (24 : Int32) ≤ x4_3 then (some (x3_3, h_2, (nx + 1 + 26))) else wl2 (fun (rec4 : Int32 → Int32 → Option (Int32 × zH × Nat)) (x3_4 : Int32) (x5_4 : Int32) => (if (24 : Int32) ≤ x5_4 then (rec3 x3_4 (x4_3 + (1 : Int32))) else (z_aD h_2 nx (x4_3 + (1 : Int32))).bind fun r5 => (z_aI h_2 r5 (x5_4 + (1 : Int32))).bind fun r6 => jn2 (fun (s0_7 : Int32) (s1_7 : Int32) => (rec4 (s0_7 + s1_7) (x5_4 + (1 : Int32)))) fun J7 => (if r6 = (((1 : Int32) + ((24 : Int32) * x4_3)) + x5_4) then (J7 x3_4 (1 : Int32)) else (J7 x3_4 (0 : Int32))))) zfu x3_3 (0 : Int32))) zfu (0 : Int32) (0 : Int32) else wl3 (fun (rec11 : Int32 → Int32 → zH → Option (Int32 × zH × Nat)) (x2_11 : Int32) (x3_11 : Int32) (h_11 : zH) => (if (1152 : Int32) ≤ x3_11 then (rec2 x2_11 h_11) else jn1 (fun (s0_12 : Int32) => (z_aD h_11 nx ((1 : Int32) + (s0_12 / (24 : Int32)))).bind fun r13 => (z_aI h_11 r13 ((1 : Int32) + (s0_12 - s0_12 / (24 : Int32) * (24 : Int32)))).bind fun r14 => jn2 (fun (x2_15 : Int32) (h_15 : zH) => (rec11 x2_15 (x3_11 + (1 : Int32)) h_15)) fun J15 => (if r14 = 0 then (J15 x2_11 h_11) else (z_aD h_11 nx (((1 : Int32) + (s0_12 / (24 : Int32))) - (1 : Int32))).bind fun r16 => (z_aI h_11 r16 ((1 : Int32) + (s0_12 - s0_12 / (24 : Int32) * (24 : Int32)))).bind fun r17 => (z_aD h_11 nx (((1 : Int32) + (s0_12 / (24 : Int32))) + (1 : Int32))).bind fun r18 => (z_aI h_11 r18 ((1 : Int32) + (s0_12 - s0_12 / (24 : Int32) * (24 : Int32)))).bind fun r19 => (z_aD h_11 nx ((1 : Int32) + (s0_12 / (24 : Int32)))).bind fun r20 => (z_aI h_11 r20 (((1 : Int32) + (s0_12 - s0_12 / (24 : Int32) * (24 : Int32))) - (1 : Int32))).bind fun r21 => (z_aD h_11 nx ((1 : Int32) + (s0_12 / (24 : Int32)))).bind fun r22 => (z_aI h_11 r22 (((1 : Int32) + (s0_12 - s0_12 / (24 : Int32) * (24 : Int32))) + (1 : Int32))).bind fun r23 => (z_aD h_11 nx ((1 : Int32) + (s0_12 / (24 : Int32)))).bind fun r24 => (z_aI h_11 r24 ((1 : Int32) + (s0_12 - s0_12 / (24 : Int32) * (24 : Int32)))).bind fun r25 => (if r25 < (if (if r17 < r19 then r19 else r17) < (if r21 < r23 then r23 else r21) then (if r21 < r23 then r23 else r21) else (if r17 < r19 then r19 else r17)) then (z_aD h_11 nx ((1 : Int32) + (s0_12 / (24 : Int32)))).bind fun r26 => (z_sI h_11 r26 ((1 : Int32) + (s0_12 - s0_12 / (24 : Int32) * (24 : Int32))) (if (if r17 < r19 then r19 else r17) < (if r21 < r23 then r23 else r21) then (if r21 < r23 then r23 else r21) else (if r17 < r19 then r19 else r17))).bind fun h_27 => (J15 (1 : Int32) h_27) else (J15 x2_11 h_11)))) fun J12 => (if (576 : Int32) ≤ x3_11 then (J12 ((1151 : Int32) - x3_11)) else (J12 x3_11)))) zfu (0 : Int32) (0 : Int32) h_2)) zfu (1 : Int32) H
/-- the first names, given so far -/
def n0N (V : Nat → Nat → Bool) (x y i j : Nat) : Int := if 1 ≤ i ∧ 1 ≤ j ∧ V (i - 1) (j - 1) = true ∧ (i - 1 < x ∨ (i - 1 = x ∧ j - 1 < y)) then lb (i - 1) (j - 1) else 0
theorem ifc {p q : Prop} [Decidable p] [Decidable q] (h : p ↔ q) (a b : Int) : (if p then a else b) = if q then a else b := by
  by_cases hp : p
  · rw [if_pos hp, if_pos (h.mp hp)]
  · rw [if_neg hp, if_neg (fun k => hp (h.mpr k))]
theorem n0N_0 (V : Nat → Nat → Bool) : (fun _ _ => 0 : Nat → Nat → Int) = n0N V 0 0 := by
  funext i j
  unfold n0N
  rw [if_neg (by omega)]
theorem n0N_set (V : Nat → Nat → Bool) (x y : Nat) : upN (n0N V x y) (x + 1) (y + 1) (if V x y = true then lb x y else 0) = n0N V x (y + 1) := by
  funext i j
  unfold upN n0N
  by_cases q : i = x + 1 ∧ j = y + 1
  · obtain ⟨rfl, rfl⟩ := q
    rw [if_pos ⟨rfl, rfl⟩]
    show _ = if 1 ≤ x + 1 ∧ 1 ≤ y + 1 ∧ V x y = true ∧ (x < x ∨ (x = x ∧ y < y + 1)) then lb x y else 0
    by_cases q2 : V x y = true
    · rw [if_pos q2, if_pos ⟨by omega, by omega, q2, .inr ⟨rfl, by omega⟩⟩]
    · rw [if_neg q2, if_neg (fun w => q2 w.2.2.1)]
  · rw [if_neg q]
    refine ifc ⟨fun w => ⟨w.1, w.2.1, w.2.2.1, by omega⟩, fun w => ⟨w.1, w.2.1, w.2.2.1, by omega⟩⟩ _ _
theorem n0N_row {V : Nat → Nat → Bool} (hV : inQ V) (x : Nat) : n0N V x 24 = n0N V (x + 1) 0 := by
  funext i j
  unfold n0N
  refine ifc ⟨fun w => ⟨w.1, w.2.1, w.2.2.1, by omega⟩, fun w => ⟨w.1, w.2.1, w.2.2.1, by have := hV _ _ w.2.2.1; omega⟩⟩ _ _
theorem zfu_gt {d : Nat} (h : d ≤ 332000) : d < zfu := by unfold zfu; omega
/-- parts: the loop -/
theorem y_parts (km : kSm h m ra rs rg hr ro) (ks : kSa h ra n Pa A D) (hm : m < nx) (h1 : ra < nx) (h2 : ∀ i, i < n → Pa i < nx) :
    ∃ h' nx', M_X5_parts h nx m = some (zi (pcnt (pV A n) (pV A n)), h', nx') ∧ (∀ q, q < nx → h' q = h q) ∧ nx ≤ nx' := by
  have hn := ks.1
  have ho : ∀ i, i < n → okA (A i) := fun i hi => (ks.2.2 i hi).2
  have hV := pV_q ho
  have km' : ∀ N, kSm (hN nx N h) m ra rs rg hr ro := fun N => (hN_ne hm).trans km
  have ks' : ∀ N, kSa (hN nx N h) ra n Pa A D := fun N => kSa_eq ks (hN_ne h1) fun i hi => hN_ne (h2 i hi)
  have e99 : M_X5_parts h nx m = pw2 nx (hN nx (n0N (pV A n) 24 0) h) := by
   unfold M_X5_parts
   rw [hN_0, n0N_0 (pV A n)]
   refine wl2_st (fun x => zi (x : Int)) (fun x => hN nx (n0N (pV A n) x 0) h) 24 n_0 rfl (fun rec x hx => ?_) (fun rec => ?_) zfu (zfu_gt (by omega))
   · rw [if_neg (by rw [le24 (by omega)]; omega)]
     refine wl2_st (fun y => zi (y : Int)) (fun y => hN nx (n0N (pV A n) x y) h) 24 n_0 rfl (fun rec2 y hy => ?_) (fun rec2 => ?_) zfu (zfu_gt (by omega))
     · have e1 : zi (x : Int) + 1 = zi ((x + 1 : Nat) : Int) := zi_add _ 1
       have e2 : zi (y : Int) + 1 = zi ((y + 1 : Nat) : Int) := zi_add _ 1
       have e3 : ((1 : Int32) + (24 : Int32) * zi (x : Int)) + zi (y : Int) = zi (lb x y) := by
         rw [n_1, n_24, zi_mul, zi_add, zi_add]; rfl
       rw [if_neg (by rw [le24 (by omega)]; omega), e1, e2, hN_c (by omega), ob_some, ck_of (km' _), ob_some, y_isCov (km' _) (ks' _) (by omega) (by omega), ob_some, jn3_e, e3]
       have e4 : pq A n (x : Int) (y : Int) = pV A n x y := rfl
       rw [e4, ← n0N_set (pV A n) x y]
       cases hp : pV A n x y
       · rw [if_pos (by decide), if_neg (by simp)]
         exact (congrArg (fun o => o.bind fun h_38 => rec2 (zi ((y + 1 : Nat) : Int)) h_38) (hN_set (j := x + 1) (p := y + 1) (v := 0) (by omega) (by omega))).trans (ob_some _ _)
       · rw [if_neg (by decide), if_pos rfl]
         exact (congrArg (fun o => o.bind fun h_38 => rec2 (zi ((y + 1 : Nat) : Int)) h_38) (hN_set (j := x + 1) (p := y + 1) (v := lb x y) (by omega) (by omega))).trans (ob_some _ _)
     · rw [if_pos (by rw [le24 (by omega)]; omega), n0N_row hV x]
       exact congrArg (fun z => rec z _) (zi_add _ 1)
   · rw [if_pos (by rw [le24 (by omega)]; omega)]
     rfl
  rw [e99]
  unfold pw2
  -- the names move
  have g0 : gN (pV A n) (n0N (pV A n) 24 0) := by
    refine ⟨fun i j q => ?_, fun x y hv => ?_⟩
    · unfold n0N
      rw [if_neg]
      rintro ⟨e1, e2, e3, -⟩
      exact q ⟨i - 1, j - 1, by omega, by omega, e3⟩
    · have e : n0N (pV A n) 24 0 (x + 1) (y + 1) = lb x y := by
        unfold n0N
        simp only [Nat.add_sub_cancel]
        rw [if_pos ⟨by omega, by omega, hv, by have := hV x y hv; omega⟩]
      exact ⟨by omega, x, y, cn_rf _ x y, e⟩
  have hp0 := pot_bd hV g0
  refine wl2_go (Post := fun r => ∃ (h' : zH) (nx' : Nat), r = some (zi (pcnt (pV A n) (pV A n)), h', nx') ∧ (∀ q, q < nx → h' q = h q) ∧ nx ≤ nx')
    (fun d a H => ∃ N, gN (pV A n) N ∧ H = hN nx N h ∧ ((a = 1 ∧ (d : Int) = 331778 - pot N) ∨ (a = 0 ∧ d = 0 ∧ ∀ x y, x < 24 → y < 24 → stb N x y))) ?_ (331778 - pot (n0N (pV A n) 24 0)).toNat zfu 1 _ ⟨n0N (pV A n) 24 0, g0, rfl, .inl ⟨rfl, by omega⟩⟩ (zfu_gt (by omega))
  rintro rec d a H ⟨N, g, rfl, q⟩
  have hpN := pot_bd hV g
  rcases q with ⟨rfl, hd⟩ | ⟨rfl, -, hs⟩
  · -- a sweep
    right
    rw [if_neg (by decide)]
    have key := wl3_go (R := Int32 × zH × Nat) (Post := fun r => ∃ f N', r = rec f (hN nx N' h) ∧ gN (pV A n) N' ∧ ((f = 1 ∧ pot N < pot N') ∨ (f = 0 ∧ N' = N ∧ ∀ x y, x < 24 → y < 24 → stb N x y)))
      (f := fun (rec11 : Int32 → Int32 → zH → Option (Int32 × zH × Nat)) (x2_11 : Int32) (x3_11 : Int32) (h_11 : zH) => (if (1152 : Int32) ≤ x3_11 then (rec x2_11 h_11) else jn1 (fun (s0_12 : Int32) => (z_aD h_11 nx ((1 : Int32) + (s0_12 / (24 : Int32)))).bind fun r13 => (z_aI h_11 r13 ((1 : Int32) + (s0_12 - s0_12 / (24 : Int32) * (24 : Int32)))).bind fun r14 => jn2 (fun (x2_15 : Int32) (h_15 : zH) => (rec11 x2_15 (x3_11 + (1 : Int32)) h_15)) fun J15 => (if r14 = 0 then (J15 x2_11 h_11) else (z_aD h_11 nx (((1 : Int32) + (s0_12 / (24 : Int32))) - (1 : Int32))).bind fun r16 => (z_aI h_11 r16 ((1 : Int32) + (s0_12 - s0_12 / (24 : Int32) * (24 : Int32)))).bind fun r17 => (z_aD h_11 nx (((1 : Int32) + (s0_12 / (24 : Int32))) + (1 : Int32))).bind fun r18 => (z_aI h_11 r18 ((1 : Int32) + (s0_12 - s0_12 / (24 : Int32) * (24 : Int32)))).bind fun r19 => (z_aD h_11 nx ((1 : Int32) + (s0_12 / (24 : Int32)))).bind fun r20 => (z_aI h_11 r20 (((1 : Int32) + (s0_12 - s0_12 / (24 : Int32) * (24 : Int32))) - (1 : Int32))).bind fun r21 => (z_aD h_11 nx ((1 : Int32) + (s0_12 / (24 : Int32)))).bind fun r22 => (z_aI h_11 r22 (((1 : Int32) + (s0_12 - s0_12 / (24 : Int32) * (24 : Int32))) + (1 : Int32))).bind fun r23 => (z_aD h_11 nx ((1 : Int32) + (s0_12 / (24 : Int32)))).bind fun r24 => (z_aI h_11 r24 ((1 : Int32) + (s0_12 - s0_12 / (24 : Int32) * (24 : Int32)))).bind fun r25 => (if r25 < (if (if r17 < r19 then r19 else r17) < (if r21 < r23 then r23 else r21) then (if r21 < r23 then r23 else r21) else (if r17 < r19 then r19 else r17)) then (z_aD h_11 nx ((1 : Int32) + (s0_12 / (24 : Int32)))).bind fun r26 => (z_sI h_11 r26 ((1 : Int32) + (s0_12 - s0_12 / (24 : Int32) * (24 : Int32))) (if (if r17 < r19 then r19 else r17) < (if r21 < r23 then r23 else r21) then (if r21 < r23 then r23 else r21) else (if r17 < r19 then r19 else r17))).bind fun h_27 => (J15 (1 : Int32) h_27) else (J15 x2_11 h_11)))) fun J12 => (if (576 : Int32) ≤ x3_11 then (J12 ((1151 : Int32) - x3_11)) else (J12 x3_11))))
      (fun d a b H => ∃ (k : Nat) (Nk : Nat → Nat → Int), d + k = 1152 ∧ b = zi (k : Int) ∧ H = hN nx Nk h ∧ gN (pV A n) Nk ∧ ((a = 1 ∧ pot N < pot Nk) ∨ (a = 0 ∧ Nk = N ∧ ∀ t, t < k → t < 576 → stb N (t / 24) (t % 24)))) ?_ 1152 zfu 0 0 (hN nx N h) ⟨0, N, rfl, n_0, rfl, g, .inr ⟨rfl, rfl, fun t ht => by omega⟩⟩ (zfu_gt (by omega))
    · obtain ⟨f, N', e1, g', q⟩ := key
      have hpN' := pot_bd hV g'
      rcases q with ⟨rfl, q⟩ | ⟨rfl, rfl, q⟩
      · exact ⟨(331778 - pot N').toNat, 1, hN nx N' h, by omega, ⟨N', g', rfl, .inl ⟨rfl, by omega⟩⟩, e1⟩
      · exact ⟨0, 0, hN nx N' h, by omega, ⟨N', g', rfl, .inr ⟨rfl, rfl, q⟩⟩, e1⟩
    · rintro rec11 d1 a1 b1' H1 ⟨k, Nk, hk, rfl, rfl, gk, qk⟩
      have ek : ((1152 : Int32) ≤ zi (k : Int)) = (1152 ≤ (k : Int)) := zi_le (a := 1152) (by omega) (by omega) (by omega) (by omega)
      by_cases hk2 : k = 1152
      · left
        rw [if_pos (by rw [ek]; omega)]
        refine ⟨a1, Nk, rfl, gk, ?_⟩
        rcases qk with q | ⟨q1, q2, q3⟩
        · exact .inl q
        · refine .inr ⟨q1, q2, fun x y hx hy => ?_⟩
          have := q3 (24 * x + y) (by omega) (by omega)
          rw [show (24 * x + y) / 24 = x by omega, show (24 * x + y) % 24 = y by omega] at this
          exact this
      · right
        rw [if_neg (by rw [ek]; omega)]
        obtain ⟨t, ht, e9⟩ : ∃ t : Nat, t < 576 ∧ (k < 576 → t = k) ∧ ∀ K : Int32 → Option (Int32 × zH × Nat), (jn1 K fun J12 => (if (576 : Int32) ≤ zi (k : Int) then (J12 ((1151 : Int32) - zi (k : Int))) else (J12 (zi (k : Int))))) = K (zi (t : Int)) := by
          have e5 : ((576 : Int32) ≤ zi (k : Int)) = (576 ≤ (k : Int)) := zi_le (a := 576) (by omega) (by omega) (by omega) (by omega)
          by_cases q : k < 576
          · refine ⟨k, q, fun _ => rfl, fun K => ?_⟩
            rw [jn1_e, if_neg (by rw [e5]; omega)]
          · refine ⟨1151 - k, by omega, fun z => absurd z q, fun K => ?_⟩
            rw [jn1_e, if_pos (by rw [e5]; omega)]
            exact congrArg K ((zi_sub 1151 (k : Int)).trans (congrArg zi (by omega)))
        rw [e9.2]
        have f1 : zi (t : Int) / 24 = zi ((t / 24 : Nat) : Int) := by rw [n_24, zi_div (by omega) (by omega) (by omega) (by omega)]; congr 1
        have f2 : (1 : Int32) + zi ((t / 24 : Nat) : Int) = zi ((t / 24 + 1 : Nat) : Int) := (zi_add 1 _).trans (congrArg zi (by omega))
        have f3 : (1 : Int32) + (zi (t : Int) - zi ((t / 24 : Nat) : Int) * 24) = zi ((t % 24 + 1 : Nat) : Int) := by rw [n_1, n_24, zi_mul, zi_sub, zi_add]; congr 1; omega
        have f4 : zi ((t / 24 + 1 : Nat) : Int) - 1 = zi ((t / 24 : Nat) : Int) := (zi_sub _ 1).trans (congrArg zi (by omega))
        have f5 : zi ((t / 24 + 1 : Nat) : Int) + 1 = zi ((t / 24 + 2 : Nat) : Int) := (zi_add _ 1).trans (congrArg zi (by omega))
        have f6 : zi ((t % 24 + 1 : Nat) : Int) - 1 = zi ((t % 24 : Nat) : Int) := (zi_sub _ 1).trans (congrArg zi (by omega))
        have f7 : zi ((t % 24 + 1 : Nat) : Int) + 1 = zi ((t % 24 + 2 : Nat) : Int) := (zi_add _ 1).trans (congrArg zi (by omega))
        have f8 : zi (k : Int) + 1 = zi ((k + 1 : Nat) : Int) := zi_add _ 1
        rw [f1, f2, f3, f4, f5, f6, f7, f8]
        have look := y_look (nx := nx) (h := h) ho gk (X := t / 24) (Y := t % 24) (by omega) (by omega) a1 (fun (x2_15 : Int32) (h_15 : zH) => rec11 x2_15 (zi ((k + 1 : Nat) : Int)) h_15)
        rw [look]
        by_cases q : Nk (t / 24 + 1) (t % 24 + 1) ≠ 0 ∧ Nk (t / 24 + 1) (t % 24 + 1) < msN Nk (t / 24) (t % 24)
        · rw [if_pos q]
          have hb := gN_bd hV gk (t / 24 + 1) (t % 24 + 1)
          have hp := pot_up (N := Nk) (x := t / 24) (y := t % 24) (by omega) (by omega) (msN Nk (t / 24) (t % 24))
          refine ⟨1152 - (k + 1), 1, _, _, by omega, ⟨k + 1, _, by omega, rfl, rfl, gN_up gk q.1 hb.1 q.2, .inl ⟨rfl, ?_⟩⟩, rfl⟩
          rcases qk with ⟨-, q2⟩ | ⟨-, rfl, -⟩ <;> omega
        · rw [if_neg q]
          refine ⟨1152 - (k + 1), a1, _, _, by omega, ⟨k + 1, Nk, by omega, rfl, rfl, gk, ?_⟩, rfl⟩
          rcases qk with q2 | ⟨q1, rfl, q3⟩
          · exact .inl q2
          · refine .inr ⟨q1, rfl, fun t' h3 h4 => ?_⟩
            by_cases h5 : t' < k
            · exact q3 t' h5 h4
            · have h6 := e9.1 (by omega)
              obtain rfl : t' = t := by omega
              unfold stb
              omega
  · -- the names stand
    left
    rw [if_pos rfl]
    refine ⟨hN nx N h, nx + 1 + 26, ?_, fun q hq => hN_ne hq, by omega⟩
    rw [← stb_cnt hV g hs]
    refine wl2_st (fun x => zi (sm x fun x => sm 24 fun y => b1 (decide (N (x + 1) (y + 1) = lb x y)))) (fun x => zi (x : Int)) 24 n_0 n_0 ?_ ?_ zfu (zfu_gt (by omega))
    · intro rec3 x hx
      rw [if_neg (by rw [le24 (by omega)]; omega)]
      refine wl2_st (fun y => zi ((sm x fun x => sm 24 fun y => b1 (decide (N (x + 1) (y + 1) = lb x y))) + sm y fun y => b1 (decide (N (x + 1) (y + 1) = lb x y)))) (fun y => zi (y : Int)) 24 (by rw [sm, Int.add_zero]) n_0 ?_ ?_ zfu (zfu_gt (by omega))
      · intro rec4 y hy
        have e1 : zi (x : Int) + 1 = zi ((x + 1 : Nat) : Int) := zi_add _ 1
        have e2 : zi (y : Int) + 1 = zi ((y + 1 : Nat) : Int) := zi_add _ 1
        have e3 : ((1 : Int32) + (24 : Int32) * zi (x : Int)) + zi (y : Int) = zi (lb x y) := by
          rw [n_1, n_24, zi_mul, zi_add, zi_add]; rfl
        have hb := gN_bd hV g (x + 1) (y + 1)
        have e4 : (zi (N (x + 1) (y + 1)) = zi (lb x y)) = (N (x + 1) (y + 1) = lb x y) := zi_eq (by omega) (by omega) (by unfold lb; omega) (by unfold lb; omega)
        rw [if_neg (by rw [le24 (by omega)]; omega), e1, e2, hN_c (by omega), ob_some, hN_at (by omega) (by omega), ob_some, jn2_e, e3]
        by_cases q : N (x + 1) (y + 1) = lb x y
        · rw [if_pos (by rw [e4]; exact q)]
          refine congrArg (fun z => rec4 z _) ((zi_add _ 1).trans (congrArg zi ?_))
          show _ = _ + (sm y _ + b1 (decide (N (x + 1) (y + 1) = lb x y)))
          rw [decide_eq_true q]
          simp only [b1, if_true]
          omega
        · rw [if_neg (by rw [e4]; exact q)]
          refine congrArg (fun z => rec4 z _) ((zi_add _ 0).trans (congrArg zi ?_))
          show _ = _ + (sm y _ + b1 (decide (N (x + 1) (y + 1) = lb x y)))
          rw [decide_eq_false q]
          simp only [b1]
          simp
      · intro rec4
        rw [if_pos (by rw [le24 (by omega)]; omega)]
        exact congrArg (fun z => rec3 _ z) (zi_add _ 1)
    · intro rec3
      rw [if_pos (by rw [le24 (by omega)]; omega)]
      rfl
end PARTS
