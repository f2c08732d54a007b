/-! a turn of the law, pure -/
section TURN3
variable {Z : Nat → Prop} {N0 T N t0 lo : Nat} {h h' : zH} {nx n : Nat} {A : Nat → Nat → Int} {D : Nat → Int32} {sn : Nat} {S : Nat → Nat → Int} {B : Nat → Int32} {G : Nat → Nat → Int32} {hr ro : Int32}
theorem LJ.mv (L : LJ Z N t0 lo h nx n A D sn S B G hr ro) (I : IC Z t0 lo h' nx n A D sn S B G hr ro) (f : frC Z h h') : LJ Z N t0 lo h' nx n A D sn S B G hr ro := ⟨I, L.2.1.fr f (Nat.le_refl _), L.2.2⟩
set_option maxHeartbeats 1000000 in
theorem t_adv (L : LJ Z N t0 lo h nx n A D sn S B G hr ro) : ∃ hz, LJ Z N t0 lo hz nx n A D sn S B G hr ro ∧ ∀ (R : Type) (K : zH → Option R), (jn1 K fun J29 => (if zi (adS A n n).1 < 0 then J29 h else (z_ck h lo 5).bind fun _ => z_tn (M_X4_about h lo (zi (adS A n n).1) (7 : Int32)) fun r53 => wl1 (fun rec54 (x17_54 : Int32) => (if (zi (n : Int)) ≤ x17_54 then z_tn (M_X4_roll h lo (zi (adS A n n).1)) fun r55 => (if r55.1 = 0 then (z_ck r55.2 lo 5).bind fun _ => z_tn (M_X4_count r55.2 lo (3 : Int32)) fun r57 => (if r57.1 = ((zi (cvS A n)) - r53) then (z_ck r57.2 lo 5).bind fun _ => z_tn (M_X4_roll r57.2 lo (zi (adS A n n).1)) fun r59 => (if r59.1 = 0 then none else (z_ck r59.2 lo 5).bind fun _ => (M_X4_digest r59.2 lo).bind fun r61 => (if (lg_cmp r61.1 (digS A n D S B sn G hr ro)) = 0 then (J29 r61.2) else none)) else none) else none) else z_tn (M_X4_about h lo x17_54 (6 : Int32)) fun r66 => jn0 ((rec54 (x17_54 + (1 : Int32)))) fun J67 => (if r66 = (1 : Int32) then z_tn (M_X4_about h lo x17_54 (7 : Int32)) fun r68 => (if r53 ≤ r68 then J67 else none) else J67))) 700 (0 : Int32))) = K hz := by
  have I := L.1
  obtain ⟨hn, ho⟩ := I.ok
  have ab := adS_bd A n n
  have c : (zi (adS A n n).1 < 0) = ((adS A n n).1 < 0) := zi_lt (b := 0) (by omega) (by omega) (by omega) (by omega)
  rcases adS_all (A := A) (n := n) n with ⟨e1, -, -⟩ | ⟨i, hi, e1, -, h6, hm⟩
  · exact ⟨h, L, fun R K => by rw [jn1_e, if_pos (by rw [c, e1]; omega)]⟩
  · obtain ⟨h1, r1, I1, f1⟩ := (c_roll I (a := (i : Int)) (by omega)).1 (by omega)
    rw [Int.toNat_natCast] at r1 I1
    obtain ⟨h2, r2, I2, f2⟩ := (c_roll I1 (a := (i : Int)) (by omega)).1 (by omega)
    rw [Int.toNat_natCast] at r2 I2
    rw [rol_rol] at I2
    obtain ⟨h3, r3, I3, f3⟩ := c_digest I2
    have L3 := L.mv I3 (fun q hq => (f3 q hq).trans ((f2 q hq).trans (f1 q hq)))
    refine ⟨h3, L3, fun R K => ?_⟩
    have ob := own_nn (A := A) (n := n) i
    have cb := cvS_nn (A := A) (n := n)
    have k3 : M_X4_count h1 lo 3 = some (.inr (zi (cvS A n - ownS A n i), h1)) := by
      have := c_count_h I1 (w := 3) (by omega) (by omega)
      rw [← roll_cov hi h6]
      exact this
    have r1' : M_X4_roll h lo (zi (i : Int)) = some (.inr (0, h1)) := by
      rw [r1, h6]; rfl
    have r2' : M_X4_roll h1 lo (zi (i : Int)) = some (.inr (1, h2)) := by
      rw [r2, upA_i]
      have : rolA (A i) 6 = 1 - A i 6 := rfl
      rw [this, h6]; rfl
    have nn : (zi (n : Int) ≤ zi (n : Int)) = ((n : Int) ≤ n) := zi_le (by omega) (by omega) (by omega) (by omega)
    rw [jn1_e, if_neg (by rw [c]; omega), I.x5, ob_some, e1, a_o I hi, tn_e]
    refine wl1_st (fun k => zi (k : Int)) n n_0 ?_ ?_ 700 (by omega)
    · intro rec k hk
      have o := ho k hk
      unfold okA at o
      have okk := own_nn (A := A) (n := n) k
      have e : (zi (n : Int) ≤ zi (k : Int)) = ((n : Int) ≤ k) := zi_le (by omega) (by omega) (by omega) (by omega)
      have f6 : M_X4_about h lo (zi (k : Int)) 6 = some (.inr (zi (A k 6))) := a_f I hk (k := 6) (by omega)
      have c6 : (zi (A k 6) = 1) = (A k 6 = 1) := zi_eq (b := 1) (by omega) (by omega) (by omega) (by omega)
      have d1 : (zi (ownS A n i) ≤ zi (ownS A n k)) = (ownS A n i ≤ ownS A n k) := zi_le (by omega) (by omega) (by omega) (by omega)
      have e9 : zi (k : Int) + 1 = zi ((k + 1 : Nat) : Int) := zi_add _ 1
      rw [if_neg (by rw [e]; omega), f6, tn_e, jn0_e]
      by_cases g : A k 6 = 1
      · rw [if_pos (by rw [c6]; exact g), a_o I hk, tn_e, if_pos (by rw [d1]; exact hm k hk g), e9]
      · rw [if_neg (by rw [c6]; exact g), e9]
    · intro rec
      rw [if_pos (by rw [nn]; omega), r1', tn_e, if_pos rfl]
      show (z_ck h1 lo 5).bind _ = _
      rw [I1.x5, ob_some, k3, tn_e, if_pos (zi_sub _ _).symm]
      show (z_ck h1 lo 5).bind _ = _
      rw [I1.x5, ob_some, r2', tn_e, if_neg (by show ¬ (1 : Int32) = 0; decide)]
      show (z_ck h2 lo 5).bind _ = _
      rw [I2.x5, ob_some, r3, ob_some, if_pos (lg_cmp_0 _)]
end TURN3
