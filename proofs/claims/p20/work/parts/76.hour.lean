section HOUR2
variable {nx n m ra rs rg : Nat} {h : zH} {hr ro : Int32} {Pa : Nat → Nat} {A : Nat → Nat → Int} {D : Nat → Int32} {σ : zS}
/-- drops go over an awning's side -/
theorem y_drip (km : kSm h m ra rs rg hr ro) (ks : kSa h ra n Pa A D) (hm : m < nx) (h1 : ra < nx) (h2 : ∀ i, i < n → Pa i < nx) {i : Nat} (hi : i < n) {l : Int} (hl : A i 4 = l) {K : Int} (hK : 0 ≤ K ∧ K < 2147400000) {R : Type} (J : zH → Option R) :
    wl3 (fun (rec19 : Int32 → Int32 → zH → Option R) (x8_19 : Int32) (x9_19 : Int32) (h_19 : zH) => (if zi (cel (A i)) ≤ x9_19 then (J h_19) else (if (zi (cel (A i)) - x9_19) = 0 then none else (z_aI h_19 (Pa i) (5 : Int32)).bind fun r21 => jn1 (fun (s0_22 : Int32) => (z_aI h_19 (Pa i) (5 : Int32)).bind fun r23 => jn1 (fun (s0_24 : Int32) => jn1 (fun (h_25 : zH) => (rec19 (x8_19 - ((((x8_19 + zi (cel (A i))) - x9_19) - (1 : Int32)) / (zi (cel (A i)) - x9_19))) (x9_19 + (1 : Int32)) h_25)) fun J25 => jn0 ((z_gR h_19 m 6 0).bind fun r27 => (z_al h_19 r27).bind fun r28 => (z_aI h_19 (nx + 1 + 25) r28).bind fun r29 => (z_sI h_19 (nx + 1 + 25) r28 (r29 + ((((x8_19 + zi (cel (A i))) - x9_19) - (1 : Int32)) / (zi (cel (A i)) - x9_19)))).bind fun h_30 => (J25 h_30)) fun J26 => (if s0_22 < 0 then J26 else (if s0_24 < 0 then J26 else (if (23 : Int32) < s0_22 then J26 else (if s0_24 ≤ (23 : Int32) then (z_ck h_19 m 6).bind fun _ => (M_X5_highest h_19 m s0_22 s0_24 (zi l)).bind fun r32 => (if 0 ≤ r32 then (z_aI h_19 (nx + 1 + 25) r32).bind fun r33 => (z_sI h_19 (nx + 1 + 25) r32 (r33 + ((((x8_19 + zi (cel (A i))) - x9_19) - (1 : Int32)) / (zi (cel (A i)) - x9_19)))).bind fun h_34 => (J25 h_34) else (z_aD h_19 nx s0_22).bind fun r35 => (z_aI h_19 r35 s0_24).bind fun r36 => (z_sI h_19 r35 s0_24 (r36 + ((((x8_19 + zi (cel (A i))) - x9_19) - (1 : Int32)) / (zi (cel (A i)) - x9_19)))).bind fun h_37 => (J25 h_37)) else J26))))) fun J24 => (if r23 = (1 : Int32) then (z_aI h_19 (Pa i) (1 : Int32)).bind fun r48 => (J24 (r48 - (1 : Int32))) else (z_aI h_19 (Pa i) (5 : Int32)).bind fun r43 => (if r43 = (3 : Int32) then (z_aI h_19 (Pa i) (1 : Int32)).bind fun r45 => (z_aI h_19 (Pa i) (3 : Int32)).bind fun r46 => (J24 (r45 + r46)) else (z_aI h_19 (Pa i) (1 : Int32)).bind fun r44 => (J24 (r44 + x9_19))))) fun J22 => (if r21 = 0 then (z_aI h_19 (Pa i) (0 : Int32)).bind fun r55 => (J22 (r55 - (1 : Int32))) else (z_aI h_19 (Pa i) (5 : Int32)).bind fun r50 => (if r50 = (2 : Int32) then (z_aI h_19 (Pa i) (0 : Int32)).bind fun r52 => (z_aI h_19 (Pa i) (2 : Int32)).bind fun r53 => (J22 (r52 + r53)) else (z_aI h_19 (Pa i) (0 : Int32)).bind fun r51 => (J22 (r51 + x9_19))))))) 700 (zi K) (0 : Int32) (hH nx n σ h) = J (hH nx n (dpS A n (A i) K (cel (A i)).toNat σ) h) := by
  have ho := (ks.2.2 i hi).2
  have hc := cel_bd ho
  refine wl3_st (fun k => zi (lfS K (cel (A i)) k)) (fun k => zi (k : Int)) (fun k => hH nx n (dpS A n (A i) K k σ) h) (cel (A i)).toNat (by rw [lfS_0 (by omega)]) n_0 rfl ?_ ?_ 700 (by omega)
  · intro rec k hk
    have hkc : (k : Int) < cel (A i) := by omega
    have hb := lfS_bd hK (by omega) (show (k : Int) ≤ cel (A i) by omega)
    have km' := kSm_H (n := n) (σ := dpS A n (A i) K k σ) km hm
    have ks' := kSa_H (σ := dpS A n (A i) K k σ) ks h1 h2
    have e1 : (zi (cel (A i)) ≤ zi (k : Int)) = (cel (A i) ≤ (k : Int)) := zi_le (by omega) (by omega) (by omega) (by omega)
    have e2 : (zi (cel (A i)) - zi (k : Int) = 0) = (cel (A i) - k = 0) := by rw [zi_sub]; exact zi_eq (b := 0) (by omega) (by omega) (by omega) (by omega)
    have e3 : (((zi (lfS K (cel (A i)) k) + zi (cel (A i))) - zi (k : Int)) - (1 : Int32)) / (zi (cel (A i)) - zi (k : Int)) = zi (K / cel (A i) + b1 (decide ((k : Int) < K % cel (A i)))) := by
      rw [n_1, zi_add, zi_sub, zi_sub, zi_sub, zi_div (by omega) (by omega) (by omega) (by omega), lfS_part hK.1 hkc]
    rw [if_neg (by rw [e1]; omega), if_neg (by rw [e2]; omega), e3, y_bX (y_f5 ks' hi) (y_f0 ks' hi) (y_f2 ks' hi) ho, y_bY (y_f5 ks' hi) (y_f1 ks' hi) (y_f3 ks' hi) ho, zi_sub, lfS_s]
    have hxy := bXY_bd ho hkc
    have g1 : (zi (bX (A i) k) < 0) = (bX (A i) k < 0) := zi_lt (b := 0) (by omega) (by omega) (by omega) (by omega)
    have g2 : (zi (bY (A i) k) < 0) = (bY (A i) k < 0) := zi_lt (b := 0) (by omega) (by omega) (by omega) (by omega)
    have g3 : ((23 : Int32) < zi (bX (A i) k)) = (23 < bX (A i) k) := zi_lt (a := 23) (by omega) (by omega) (by omega) (by omega)
    have g4 : (zi (bY (A i) k) ≤ (23 : Int32)) = (bY (A i) k ≤ 23) := zi_le (b := 23) (by omega) (by omega) (by omega) (by omega)
    have e4 : zi (k : Int) + 1 = zi ((k + 1 : Nat) : Int) := zi_add _ 1
    rw [jn1_e, jn0_e, y_offs ks km hm h1 h2, e4]
    simp only [g1, g2, g3, g4]
    by_cases g : 0 ≤ bX (A i) k ∧ bX (A i) k < 24 ∧ 0 ≤ bY (A i) k ∧ bY (A i) k < 24
    · rw [if_neg (by omega), if_neg (by omega), if_neg (by omega), if_pos (by omega), ck_of km', ob_some]
      obtain ⟨x, hx⟩ : ∃ x : Nat, bX (A i) k = x := ⟨(bX (A i) k).toNat, by omega⟩
      obtain ⟨y, hy⟩ : ∃ y : Nat, bY (A i) k = y := ⟨(bY (A i) k).toNat, by omega⟩
      have key := y_fall (σ := dpS A n (A i) K k σ) km ks hm h1 h2 (x := x) (y := y) (l := l) (d := K / cel (A i) + b1 (decide ((k : Int) < K % cel (A i)))) (by omega) (by omega) (by unfold okA at ho; omega) (fun h' => rec (zi (lfS K (cel (A i)) (k + 1))) (zi ((k + 1 : Nat) : Int)) h')
      rw [hx, hy]
      refine key.trans ?_
      rw [dpS, hx, hy, hl]
    · have e5 : dpS A n (A i) K (k + 1) σ = ((dpS A n (A i) K k σ).1, (dpS A n (A i) K k σ).2.1, (dpS A n (A i) K k σ).2.2 + (K / cel (A i) + b1 (decide ((k : Int) < K % cel (A i))))) := by
        rw [dpS]; exact fal_out g
      rw [e5]
      by_cases q1 : bX (A i) k < 0
      · rw [if_pos q1]
      · rw [if_neg q1]
        by_cases q2 : bY (A i) k < 0
        · rw [if_pos q2]
        · rw [if_neg q2]
          by_cases q3 : 23 < bX (A i) k
          · rw [if_pos q3]
          · rw [if_neg q3, if_neg (by omega)]
  · intro rec
    have e1 : (zi (cel (A i)) ≤ zi ((cel (A i)).toNat : Int)) = (cel (A i) ≤ ((cel (A i)).toNat : Int)) := zi_le (by omega) (by omega) (by omega) (by omega)
    rw [if_pos (by rw [e1]; omega)]
/-- the whole hour -/
theorem y_hour (km : kSm h m ra rs rg hr ro) (ks : kSa h ra n Pa A D) (hm : m < nx) (h1 : ra < nx) (h2 : ∀ i, i < n → Pa i < nx) {d : Int} (hd : 0 ≤ d ∧ d ≤ 100) :
    M_X5_hour h nx m (zi d) = some (nx, hH nx n (pL A n d 9) h, nx + 1 + 25 + 1) := by
  have hn := ks.1
  have ho : ∀ i, i < n → okA (A i) := fun i hi => (ks.2.2 i hi).2
  have hmm : ∀ q, q < nx → z_mm h nx 25 24 q = h q := fun q hq => by unfold z_mm; rw [if_neg (by omega), if_neg (by omega)]
  have km0 : kSm (z_mm h nx 25 24) m ra rs rg hr ro := (hmm _ hm).trans km
  have ks0 : kSa (z_mm h nx 25 24) ra n Pa A D := kSa_eq ks (hmm _ h1) fun i hi => hmm _ (h2 i hi)
  have hnn : (zi (n : Int) + 1).toNatClampNeg = n + 1 := by
    rw [show zi (n : Int) + 1 = zi ((n : Int) + 1) from zi_add _ 1, zi_nn (by omega) (by omega)]; omega
  have hng : ¬(zi (n : Int) + 1) < 0 := by
    rw [show ((zi (n : Int) + 1) < 0) = ((n : Int) + 1 < 0) from by rw [show zi (n : Int) + 1 = zi ((n : Int) + 1) from zi_add _ 1]; exact zi_lt (b := 0) (by omega) (by omega) (by omega) (by omega)]
    omega
  have hstart : z_sD (z_up (z_mm h nx 25 24) (nx + 1 + 25) (zI (n + 1) (fun _ => 0))) nx 24 (nx + 1 + 25) = some (hH nx n (fun _ _ => 0, fun _ => 0, 0) h) := by
    have e0 : z_up (z_mm h nx 25 24) (nx + 1 + 25) (zI (n + 1) (fun _ => 0)) nx = some (zD 25 fun j => if j < 25 then some (nx + 1 + j) else none) := by
      rw [up_ne (by omega)]; unfold z_mm; rw [if_pos rfl]
    have e24 : (24 : Int32) = zi (24 : Nat) := rfl
    have g1 : (zi (24 : Nat) < 0) = (((24 : Nat) : Int) < 0) := zi_lt (b := 0) (by omega) (by omega) (by omega) (by omega)
    have g2 : (zi (24 : Nat)).toNatClampNeg = 24 := by rw [zi_nn (by omega) (by omega)]; rfl
    rw [z_sD, ai_of (up_at ..), ob_some, ad_of e0, ob_some, e24]
    simp only [g1, g2]
    rw [if_neg (by omega)]
    refine congrArg some (hH_mk ?_ (fun x hx => ?_) ?_ ?_ fun q hq => ?_)
    · rw [up_at]; rfl
    · rw [up_ne (by omega), up_ne (by omega)]
      unfold z_mm
      rw [if_neg (by omega), if_pos (by omega)]
      exact congrArg some (zc0 24)
    · rw [up_ne (by omega), up_ne (by omega)]
      unfold z_mm
      rw [if_neg (by omega), if_pos (by omega)]
      exact congrArg some (zc0 24)
    · rw [up_ne (by omega), up_at, zc0]
      refine congrArg some (cA_congr fun p hp => ?_)
      unfold onF
      split <;> rfl
    · rw [up_ne (by omega), up_ne (by omega)]
      unfold z_mm
      rw [if_neg (by omega), if_neg (by omega)]
  simp only [M_X5_hour, gR_of km0 (k := 0) rfl, ob_some, y_len ks0, hnn]
  rw [if_pos ⟨hng, by omega⟩, hstart, ob_some, y_g24, ob_some]
  refine wl2_st (fun x => zi (x : Int)) (fun x => hH nx n (itr (fun x => itr (fun y => fal A n 10 (x : Nat) (y : Nat) d) 24) x (fun _ _ => 0, fun _ => 0, 0)) h) 24 n_0 rfl ?_ ?_ 700 (by omega)
  · intro rec x hx
    rw [if_neg (by rw [le24 (by omega)]; omega)]
    generalize hτ : itr (fun x => itr (fun y => fal A n 10 (x : Nat) (y : Nat) d) 24) x (fun _ _ => 0, fun _ => 0, 0) = τ
    refine wl2_st (fun y => zi (y : Int)) (fun y => hH nx n (itr (fun y => fal A n 10 (x : Nat) (y : Nat) d) y τ) h) 24 n_0 rfl ?_ ?_ 700 (by omega)
    · intro rec2 y hy
      have e4 : zi (y : Int) + 1 = zi ((y + 1 : Nat) : Int) := zi_add _ 1
      rw [if_neg (by rw [le24 (by omega)]; omega), ck_of (kSm_H km hm), ob_some, e4]
      simp only [jn1_e]
      exact y_fall km ks hm h1 h2 (l := 10) hx hy (by omega) (fun h' => rec2 (zi ((y + 1 : Nat) : Int)) h')
    · intro rec2
      rw [if_pos (by rw [le24 (by omega)]; omega)]
      refine (congrArg (fun z => rec z _) (zi_add _ 1)).trans ?_
      exact congrArg (fun z => rec _ (hH nx n z h)) (congrArg (fun z => itr (fun y => fal A n 10 (x : Nat) (y : Nat) d) 24 z) hτ.symm)
  · intro rec
    rw [if_pos (by rw [le24 (by omega)]; omega), pY_cols]
    refine wl2_st (fun t => zi (9 - (t : Int))) (fun t => hH nx n (pL A n d t) h) 9 rfl rfl ?_ ?_ 700 (by omega)
    · intro rec2 t ht
      have e1 : (zi (9 - (t : Int)) ≤ 0) = (9 - (t : Int) ≤ 0) := zi_le (b := 0) (by omega) (by omega) (by omega) (by omega)
      have e2 : zi (9 - (t : Int)) + (-1) = zi (9 - ((t + 1 : Nat) : Int)) := by rw [n_m1, zi_add]; congr 1; omega
      rw [if_neg (by rw [e1]; omega), e2]
      refine wl2_st (fun k => zi (k : Int)) (fun k => hH nx n (drL A n (9 - t) k (pL A n d t)) h) n n_0 rfl ?_ ?_ 700 (by omega)
      · intro rec3 k hk
        have km' := kSm_H (n := n) (σ := drL A n (9 - t) k (pL A n d t)) km hm
        have ks' := kSa_H (σ := drL A n (9 - t) k (pL A n d t)) ks h1 h2
        have o := ho k hk
        have ok := o
        unfold okA at o
        have e3 : zi (k : Int) + 1 = zi ((k + 1 : Nat) : Int) := zi_add _ 1
        have q1 : (zi (A k 4) = zi (9 - (t : Int))) = (A k 4 = 9 - t) := zi_eq (by omega) (by omega) (by omega) (by omega)
        have q2 : (zi (A k 6) = 0) = (A k 6 = 0) := zi_eq (b := 0) (by omega) (by omega) (by omega) (by omega)
        have q3 : (zi (n : Int) ≤ zi (k : Int)) = ((n : Int) ≤ k) := zi_le (by omega) (by omega) (by omega) (by omega)
        rw [gR_of km' (k := 0) rfl, ob_some, y_len ks', ob_some, if_neg (by rw [q3]; omega), ob_some, y_aw ks' hk, ob_some, y_f4 ks' hk, ob_some, jn1_e, e3, drL]
        by_cases g1 : A k 4 = 9 - t
        · rw [if_pos (by rw [q1]; exact g1), y_f6 ks' hk, ob_some]
          by_cases g2 : A k 6 = 0
          · rw [if_pos (by rw [q2]; exact g2), if_neg (by omega)]
          · rw [if_neg (by rw [q2]; exact g2), if_pos ⟨by omega, g1⟩, y_cel (y_f5 ks' hk) (y_f2 ks' hk) (y_f3 ks' hk) ok, y_on hn hk, ob_some]
            have hKb := pL_K ho hd.1 hd.2 t k hk (by omega) g1
            have hKc : (drL A n (9 - t) k (pL A n d t)).2.1 k < 2147400000 := by
              have h3 := pL_inv (A := A) ho hd.1 t
              have h4 := drL_inv ho h3.1 h3.2 k (by omega)
              have h5 := mass_K (i := k) h4.1 hk (pnd_iff.mpr ⟨by omega, .inr ⟨g1, Nat.le_refl k⟩⟩)
              rw [h4.2] at h5
              omega
            exact y_drip km ks hm h1 h2 hk g1 ⟨hKb.1, hKc⟩ (fun h' => rec3 (zi ((k + 1 : Nat) : Int)) h')
        · rw [if_neg (by rw [q1]; exact g1), if_neg (by omega)]
      · intro rec3
        have km' := kSm_H (n := n) (σ := drL A n (9 - t) n (pL A n d t)) km hm
        have ks' := kSa_H (σ := drL A n (9 - t) n (pL A n d t)) ks h1 h2
        have q3 : (zi (n : Int) ≤ zi (n : Int)) = ((n : Int) ≤ n) := zi_le (by omega) (by omega) (by omega) (by omega)
        rw [gR_of km' (k := 0) rfl, ob_some, y_len ks', ob_some, if_pos (by rw [q3]; omega), pL]
    · intro rec2
      have e1 : (zi (9 - ((9 : Nat) : Int)) ≤ 0) = (9 - ((9 : Nat) : Int) ≤ 0) := zi_le (b := 0) (by omega) (by omega) (by omega) (by omega)
      rw [if_pos (by rw [e1]; omega)]
end HOUR2
