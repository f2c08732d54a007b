/-! a turn of the law, pure: all of it -/
section TURN4
variable {Z : Nat → Prop} {N0 T N t0 lo : Nat} {h h' : zH} {nx n : Nat} {A : Nat → Nat → Int} {D : Nat → Int32} {sn : Nat} {S : Nat → Nat → Int} {B : Nat → Int32} {G : Nat → Nat → Int32} {hr ro : Int32}
theorem PG_go {N d : Nat} (hb : N + d ≤ 100000) : ¬ zi (576 * ((N + d : Nat) : Int)) < 0 ∧ (zi (576 * ((N + d : Nat) : Int)) - zi (576 * ((N + d : Nat) : Int)) / 576 * 576 = 0) := by
  constructor
  · rw [show (zi (576 * ((N + d : Nat) : Int)) < 0) = (576 * ((N + d : Nat) : Int) < 0) from zi_lt (b := 0) (by omega) (by omega) (by omega) (by omega)]
    omega
  · rw [show (576 : Int32) = zi 576 from rfl, zi_div (by omega) (by omega) (by omega) (by omega), zi_mul, zi_sub, Int.mul_ediv_cancel_left _ (by omega), Int.mul_comm, Int.sub_self]
    rfl
set_option maxHeartbeats 8000000 in
set_option maxRecDepth 10000 in
theorem p_turn (L : LI N0 T t0 lo h nx) (hT : T ≤ 1000) (a0 : Nat) (x4 x5 : Int32) : ∃ T0, M_turn T0 h nx t0 a0 lo (lo + 11) (zi (576 * (N0 : Int))) x4 x5 = some () ∧ ∀ h1 n1 b0 b1 b2 y3 y4, T0 h1 n1 b0 b1 b2 y3 y4 = some () → b0 = a0 ∧ b1 = lo ∧ b2 = lo + 11 ∧ y4 = x4 ∧ ∃ N1 : Nat, y3 = zi (576 * (N1 : Int)) ∧ LI N1 (T + 1) t0 lo h1 n1 := by
  obtain ⟨Z, N, n, A, D, sn, S, B, G, hr, ro, ⟨hN0, hN, hm⟩, J⟩ := L
  obtain ⟨hn, ho⟩ := J.1.ok
  obtain ⟨hs8, -⟩ := J.st
  obtain ⟨h1, dg1, I1, fr1⟩ := c_digest J.1
  have J1 := J.mv I1 fr1
  obtain ⟨h2, k5, I2, fr2⟩ := (c_count I1 (w := 5) (by omega)).1 (by omega)
  obtain ⟨h3, k5', I3, fr3⟩ := (c_count I2 (w := 5) (by omega)).1 (by omega)
  have J3 := (J1.mv I2 fr2).mv I3 fr3
  obtain ⟨h4, dg4, I4, fr4⟩ := c_digest I3
  have J4 := J3.mv I4 fr4
  obtain ⟨hz, Jz, ez⟩ := t_adv J4
  obtain ⟨d, hd, ed⟩ := y_below (x5 >>> ((5 : Int32) &&& 31)) (n := 20) (by omega) (by omega)
  have ed' : M_L_below (x5 >>> ((5 : Int32) &&& 31)) 20 = some (zi (d : Int)) := ed
  obtain ⟨v, ha, hb, Z', D', G', ro', r1, r2, r3, Jb, v1, v2⟩ := Jz.rain (d := d + 1) (by omega) (by omega)
  rw [show zi (hr : Int) + 1 = zi ((hr + 1 : Nat) : Int) from zi_add _ 1] at Jb
  -- the counts
  have k3 : M_X4_count h1 lo 3 = some (.inr (zi (cvS A n), h1)) := c_count_h I1 (w := 3) (by omega) (by omega)
  have k0 : M_X4_count h1 lo 0 = some (.inr (zi (n : Int), h1)) := c_count_h I1 (w := 0) (by omega) (by omega)
  have k6 : M_X4_count h1 lo 6 = some (.inr (zi (tot fun x y => b1 (decide (2 ≤ lay A n x y))), h1)) := c_count_h I1 (w := 6) (by omega) (by omega)
  have k4 : M_X4_count h1 lo 4 = some (.inr (zi (tot (olS A n)), h1)) := c_count_h I1 (w := 4) (by omega) (by omega)
  have k5a : M_X4_count h1 lo 5 = some (.inr (zi (pcnt (pV A n) (pV A n)), h2)) := k5
  have k5b : M_X4_count h2 lo 5 = some (.inr (zi (pcnt (pV A n) (pV A n)), h3)) := k5'
  have k2 : M_X4_count h3 lo 2 = some (.inr (zi (sn : Int), h3)) := c_count_h I3 (w := 2) (by omega) (by omega)
  have k1 : M_X4_count h3 lo 1 = some (.inr (zi (outS A n), h3)) := c_count_h I3 (w := 1) (by omega) (by omega)
  have k8 : M_X4_count hb lo 8 = some (.inr (zi (tot fun x y => (G' x y).toInt), hb)) := c_count_h Jb.1 (w := 8) (by omega) (by omega)
  have k9 : M_X4_count hb lo 9 = some (.inr (ro', hb)) := c_count_h Jb.1 (w := 9) (by omega) (by omega)
  have all := PG_all Jb.2.2
  have go := PG_go (N := N) (d := d + 1) (by omega)
  refine ⟨fun h' n' b0 b1 b2 y3 y4 => tk (h' = hb ∧ n' = nx + 1 + 25 + 1 ∧ b0 = a0 ∧ b1 = lo ∧ b2 = lo + 11 ∧ y3 = zi (576 * ((N + (d + 1) : Nat) : Int)) ∧ y4 = x4) (), ?_, ?_⟩
  · have nn : (zi (n : Int) ≤ zi (n : Int)) = ((n : Int) ≤ n) := zi_le (by omega) (by omega) (by omega) (by omega)
    have cb := cvS_nn (A := A) (n := n)
    unfold M_turn
    rw [J.1.x5, ob_some, dg1, ob_some]
    dsimp only
    rw [I1.x5, ob_some, k3, tn_e]
    dsimp only
    rw [I1.x5, ob_some, k0, tn_e]
    dsimp only
    refine wl3_st (fun k => zi (sm k fun x => cordS A n x 0)) (fun k => zi (k : Int)) (fun _ => h1) 24 rfl rfl rfl ?_ ?_ 700 (by omega)
    · intro rec k hk
      rw [if_neg (by rw [le24 (by omega)]; omega), t_col I1 hk, zi_add]
      rfl
    · intro rec
      rw [if_pos (by rw [le24 (by omega)]; omega)]
      refine wl4_st (fun k => zi (sm k fun i => ownS A n i)) (fun k => zi (sm k fun i => shrS A i i)) (fun k => zi (mxa A k)) (fun k => zi (k : Int)) n rfl rfl rfl rfl ?_ ?_ 700 (by omega)
      · intro rec k hk
        have e : (zi (n : Int) ≤ zi (k : Int)) = ((n : Int) ≤ k) := zi_le (by omega) (by omega) (by omega) (by omega)
        have b1' := shr_nn (A := A) k k
        have b2 := mxa_bd (A := A) (n := n) k (by omega)
        have d1 : (zi (mxa A k) < zi (shrS A k k)) = (mxa A k < shrS A k k) := zi_lt (by omega) (by omega) (by omega) (by omega)
        have d2 : (if zi (mxa A k) < zi (shrS A k k) then zi (shrS A k k) else zi (mxa A k)) = zi (mxa A (k + 1)) := by
          rw [mxa, zi_ite]
          exact congrArg zi (ifp (by rw [d1]) _ _)
        rw [if_neg (by rw [e]; omega), t_awn I1 hk, zi_add, zi_add, d2]
        rfl
      · intro rec
        have f1 := area_sum (A := A) (n := n)
        have f2 := mxa_bd (A := A) (n := n) n (by omega)
        have f3 : 0 ≤ sm n (fun i => shrS A i i) ∧ sm n (fun i => shrS A i i) ≤ n * 576 := sm_bd fun i _ => shr_nn i i
        obtain ⟨e, o1, o2, o3, o4, o5⟩ := outl_facts ho
        obtain ⟨p1, p2, p3⟩ := part_facts ho
        have d0 : zi (sm 24 fun x => cordS A n (x : Nat) 0) = zi (cvS A n) := rfl
        have d1 : (zi (sm n fun i => shrS A i i) < zi (cvS A n)) = ((sm n fun i => shrS A i i) < cvS A n) := zi_lt (by omega) (by omega) (by omega) (by omega)
        have d2 : (zi (cvS A n) < zi (mxa A n)) = (cvS A n < mxa A n) := zi_lt (by omega) (by omega) (by omega) (by omega)
        have d3 : ((576 : Int32) < zi (cvS A n)) = (576 < cvS A n) := zi_lt (a := 576) (by omega) (by omega) (by omega) (by omega)
        have d4 : zi (sm n fun i => ownS A n i) + zi (tot fun x y => b1 (decide (2 ≤ lay A n x y))) = zi (cvS A n) := by rw [zi_add, own_sum]
        have d5 : zi (tot (olS A n)) - zi (tot (olS A n)) / 2 * 2 = 0 := by
          rw [o1, show (2 : Int32) = zi 2 from rfl, zi_div (by omega) (by omega) (by omega) (by omega), zi_mul, zi_sub, Int.mul_ediv_cancel_left _ (by omega), Int.mul_comm, Int.sub_self]
          rfl
        have d6 : ((4 : Int32) * zi (cvS A n) < zi (tot (olS A n))) = (4 * cvS A n < tot (olS A n)) := by rw [show (4 : Int32) = zi 4 from rfl, zi_mul]; exact zi_lt (by omega) (by omega) (by omega) (by omega)
        have sq : 2 * e * (2 * e) ≤ 2304 * 2304 := Int.mul_le_mul (by omega) (by omega) (by omega) (by omega)
        have d7 : (zi (tot (olS A n)) * zi (tot (olS A n)) < (16 : Int32) * zi (cvS A n)) = (2 * e * (2 * e) < 16 * cvS A n) := by rw [show (16 : Int32) = zi 16 from rfl, zi_mul, zi_mul, o1]; exact zi_lt (by omega) (by omega) (by omega) (by omega)
        have d8 : (zi (cvS A n) < zi (pcnt (pV A n) (pV A n))) = (cvS A n < pcnt (pV A n) (pV A n)) := zi_lt (by omega) (by omega) (by omega) (by omega)
        have d9 : (if zi (pcnt (pV A n) (pV A n)) = 0 then (1 : Int32) else 0) = if zi (cvS A n) = 0 then 1 else 0 := by
          refine ifp ?_ _ _
          rw [show (zi (pcnt (pV A n) (pV A n)) = 0) = (pcnt (pV A n) (pV A n) = 0) from zi_eq (b := 0) (by omega) (by omega) (by omega) (by omega), show (zi (cvS A n) = 0) = (cvS A n = 0) from zi_eq (b := 0) (by omega) (by omega) (by omega) (by omega)]
          exact p3
        rw [if_pos (by rw [nn]; omega), if_pos d0, if_neg (by rw [d1]; omega), if_neg (by rw [d2]; omega), if_neg (by rw [d3]; omega), I1.x5, ob_some, k6, tn_e]
        dsimp only
        rw [if_pos d4, I1.x5, ob_some, k4, tn_e]
        dsimp only
        rw [if_pos d5, if_neg (by rw [d6]; omega), if_neg (by rw [d7]; omega), I1.x5, ob_some, k5a, tn_e]
        dsimp only
        rw [if_neg (by rw [d8]; omega), I2.x5, ob_some, k5b, tn_e, jn1_if, jn2_if]
        dsimp only
        rw [if_pos d9]
        refine wl2_st (fun k => zi (k : Int)) (fun _ => h3) sn rfl rfl ?_ ?_ 700 (by omega)
        · intro rec k hk
          have e : (zi (sn : Int) ≤ zi (k : Int)) = ((sn : Int) ≤ k) := zi_le (by omega) (by omega) (by omega) (by omega)
          rw [I3.x5, ob_some, k2, tn_e]
          dsimp only
          rw [if_neg (by rw [e]; omega), t_told J3 (by omega) hk]
        · intro rec
          have e : (zi (sn : Int) ≤ zi (sn : Int)) = ((sn : Int) ≤ sn) := zi_le (by omega) (by omega) (by omega) (by omega)
          obtain ⟨a1, a2, a3⟩ := adS_out ho
          have ab := adS_bd A n n
          have c1 : (0 ≤ zi (adS A n n).1) = (0 ≤ (adS A n n).1) := zi_le (a := 0) (by omega) (by omega) (by omega) (by omega)
          have c2 : (zi (outS A n) = 0) = (outS A n = 0) := zi_eq (b := 0) (by omega) (by omega) (by omega) (by omega)
          have c3 : (if 0 ≤ zi (adS A n n).1 then (0 : Int32) else 1) = if zi (outS A n) = 0 then 1 else 0 := by
            by_cases g : outS A n = 0
            · rw [if_neg (by rw [c1, a1]; exact fun w => w g), if_pos (by rw [c2]; exact g)]
            · rw [if_pos (by rw [c1, a1]; exact g), if_neg (by rw [c2]; exact g)]
          have f9 : (1 : Int32) + zi (d : Int) = zi ((d + 1 : Nat) : Int) := (zi_add 1 _).trans (congrArg zi (by omega))
          have w1 : (zi v < 0) = (v < 0) := zi_lt (b := 0) (by omega) (by omega) (by omega) (by omega)
          have w2 : ((576 : Int32) * zi ((d + 1 : Nat) : Int) < zi v) = (576 * ((d + 1 : Nat) : Int) < v) := by rw [show (576 : Int32) = zi 576 from rfl, zi_mul]; exact zi_lt (by omega) (by omega) (by omega) (by omega)
          have w3 : (zi (576 * ((N + (d + 1) : Nat) : Int)) ≤ zi (576 * (N0 : Int))) = (576 * ((N + (d + 1) : Nat) : Int) ≤ 576 * (N0 : Int)) := zi_le (by omega) (by omega) (by omega) (by omega)
          rw [I3.x5, ob_some, k2, tn_e]
          dsimp only
          rw [if_pos (by rw [e]; omega), I3.x5, ob_some, c_advise I3, ob_some, jn1_if, k1, tn_e, jn2_if]
          dsimp only
          rw [if_pos c3, I3.x5, ob_some, dg4, ob_some, if_pos (lg_cmp_0 _)]
          dsimp only
          rw [ez, ed', ob_some, Jz.1.x5, ob_some, f9, r1, tn_e]
          dsimp only
          rw [r2, ob_some, r3, ob_some]
          dsimp only
          rw [if_pos rfl, if_neg (by rw [w1]; omega), if_neg (by rw [w2]; omega), Jb.1.x5, ob_some, k8, tn_e]
          dsimp only
          rw [Jb.1.x5, ob_some, k9, tn_e]
          dsimp only
          rw [all, if_neg (by rw [w3]; omega), Jb.1.x5, ob_some, k8, tn_e]
          dsimp only
          rw [Jb.1.x5, ob_some, k9, tn_e]
          dsimp only
          rw [all, if_pos go.2, Jb.1.x5, ob_some, k8, tn_e]
          dsimp only
          rw [Jb.1.x5, ob_some, k9, tn_e]
          dsimp only
          rw [all]
          exact tk_pos ⟨rfl, rfl, rfl, rfl, rfl, rfl, rfl⟩
  · intro h' n' b0 b1 b2 y3 y4 e
    obtain ⟨⟨rfl, rfl, rfl, rfl, rfl, rfl, rfl⟩, -⟩ := tk_some e
    exact ⟨rfl, rfl, rfl, rfl, N + (d + 1), rfl, Z', N + (d + 1), n, A, D', sn, S, B, G', hr + 1, ro', by omega, Jb⟩
end TURN4
