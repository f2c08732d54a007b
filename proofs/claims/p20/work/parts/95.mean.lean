/-! mean: no NaN, so nothing is drawn -/
def nN (x : UInt64) : Prop := FP.Core.dIsNaN x = false
theorem nN_bits {x : UInt64} (h : nN x) : vf_n64 x := by
  have h0 : ¬ 9218868437227405312 < x.toNat % 2 ^ 63 := fun w => by
    have h1 := (FP.Core.isNaN_bits x).mpr w
    rw [show FP.Core.dIsNaN x = false from h] at h1
    cases h1
  unfold vf_n64
  rw [UInt64.le_iff_toNat_le, UInt64.toNat_and]
  have h1 : (0x7fffffffffffffff : UInt64).toNat = 2 ^ 63 - 1 := by decide
  have h2 : (0x7ff0000000000000 : UInt64).toNat = 9218868437227405312 := by decide
  rw [h1, h2, Nat.and_two_pow_sub_one_eq_mod]
  omega
theorem nN_i2d (x : Int32) : nN (FP.i2d x) := Bool.eq_false_iff.mpr fun w => by
  obtain ⟨s, c, q, e⟩ := FP.Core.i2d_fin x
  rw [FP.Core.dIsNaN_iff] at w
  rw [show FP.Core.val64 (FP.i2d x) = .fin s c q from e] at w
  cases w
section ZD
variable {p : Program} {l : Launch} {e : Env} {R : Room} {s : State} {m : MethodId} {args : Array Value} {below : List Frame} {meth : Method} {c : Code} {G : zG} {lo t0 nL cells slots : Nat} {Q : State → Prop} {pc : Nat} {lv : List (Nat × Value)} {st : List Value} {h : zH} {nx : Nat} {cc : ByteArray} {own : String} {ret : Option FieldType} {oo : zV} {k1 k2 : Nat}
theorem z_i2d {x : Int32} (C : z_Cx p l s m args meth c cc nL own ret G lo t0) (d : decode cc pc = .ok (.i2d, 1)) (K : z_R p l e R s m args below meth c G lo nL cells slots Q (pc + 1) lv (.double (FP.i2d x) :: st) h nx) : z_R p l e R s m args below meth c G lo nL cells slots Q pc lv (.int x :: st) h nx := fun H locs ls e1 e2 e3 e4 => lv_i2d C.1.1 C.1.2.1 d (K H locs ls e1 e2 e3 e4)
theorem z_dconst0 (C : z_Cx p l s m args meth c cc nL own ret G lo t0) (d : decode cc pc = .ok (.dconst 0, 1)) (K : z_R p l e R s m args below meth c G lo nL cells slots Q (pc + 1) lv (.double FP.dconst0 :: st) h nx) : z_R p l e R s m args below meth c G lo nL cells slots Q pc lv st h nx := fun H locs ls e1 e2 e3 e4 => lv_dconst0 C.1.1 C.1.2.1 d (K H locs ls e1 e2 e3 e4)
theorem z_ddiv {x y : UInt64} (C : z_Cx p l s m args meth c cc nL own ret G lo t0) (hn : nN (FP.ddiv x y)) (d : decode cc pc = .ok (.ddiv, 1)) (K : z_R p l e R s m args below meth c G lo nL cells slots Q (pc + 1) lv (.double (FP.ddiv x y) :: st) h nx) : z_R p l e R s m args below meth c G lo nL cells slots Q pc lv (.double y :: .double x :: st) h nx := fun H locs ls e1 e2 e3 e4 => lv_ddiv C.1.1 C.1.2.1 d (nN_bits hn) (K H locs ls e1 e2 e3 e4)
theorem z_dcmp {x y : UInt64} {op : CmpOp} (C : z_Cx p l s m args meth c cc nL own ret G lo t0) (d : decode cc pc = .ok (.dcmp op, 1)) (K : z_R p l e R s m args below meth c G lo nL cells slots Q (pc + 1) lv (.int (Op.cmpValue (FP.dcmp x y) op) :: st) h nx) : z_R p l e R s m args below meth c G lo nL cells slots Q pc lv (.double y :: .double x :: st) h nx := fun H locs ls e1 e2 e3 e4 => lv_dcmp C.1.1 C.1.2.1 d (K H locs ls e1 e2 e3 e4)
theorem z_dret {x : UInt64} (C : z_Cx p l s m args meth c cc nL own (some .double) G lo t0) (hoo : oo = .inr (some (.double x), h, nx)) (hc : cells ≤ k1) (hs : slots ≤ k2) (d : decode cc pc = .ok (.dreturn, 1)) : z_R p l e R s m args below meth c G lo nL cells slots (vx_MQ below (z_qn G lo oo) (z_qx G lo oo) args s k1 k2 (fun z : Nat => lo ≤ z)) pc lv [.double x] h nx := by
  intro H locs ls e1 e2 e3 e4
  refine W.widen hc hs (vx_ret ?_)
  exact W.dret C.1.1 C.1.2.1 C.2.1 (fun t ht hW => ⟨_, h, nx, hoo, rfl, by rw [ht]; exact e1, by rw [ht]; exact e2.moved hW.alike, e3.F ht⟩) e3.2.2 d C.2.2.1
end ZD
def sgS (G : Nat → Nat → Int32) (S : Nat → Nat → Int) (B : Nat → Int32) : Nat → Int32
  | 0 => 0
  | k + 1 => sgS G S B k + gotS G S B k
def meanS (G : Nat → Nat → Int32) (S : Nat → Nat → Int) (B : Nat → Int32) (sn : Nat) : UInt64 := if sn = 0 then FP.dconst0 else FP.ddiv (FP.i2d (sgS G S B sn)) (FP.i2d (zi sn))
theorem mean_num (x : Int32) {y : Int32} (h : ¬ y = 0) : nN (FP.ddiv (FP.i2d x) (FP.i2d y)) := FP.Core.ddiv_out (nN_i2d x) (FP.Core.i2d_fin y) fun hz => FP.Core.i2d_ne_zero h ((FP.Core.zero_bits2 _).mp hz)
section MEAN
variable {Z : Nat → Prop} {t0 lo : Nat} {h : zH} {nx n : Nat} {A : Nat → Nat → Int} {D : Nat → Int32} {sn : Nat} {S : Nat → Nat → Int} {B : Nat → Int32} {G : Nat → Nat → Int32} {hr ro th : Int32}
theorem c_X4_mean (l : Launch) (hl : l.stackTraces = false) (Γ : zG) (I : IC Z t0 lo h nx n A D sn S B G hr ro) : z_Met l yX4_mean cX4_mean 4 (some .double) 7 111 Γ lo t0 [.ref lo] h nx (.inr (some (.double (meanS G S B sn)), h, nx)) 0 0 := by
  obtain ⟨qd, mc, mc', og, rf, ea, ea', P, Q, f1, f2, f3, f4, ⟨x1, x2⟩, ⟨w1, w2, w3, w4⟩, ⟨s1, s2, s3⟩, ⟨t1, t2, t3⟩, si, -⟩ := I
  refine z_of [(0, .ref lo)] (by decide) (Nat.le_of_ble_eq_true rfl) rfl (fun p e s m below meth c C hin => ?_)
  have e0 : (zi sn = 0) = ((sn : Int) = 0) := zi_eq (b := 0) (by omega) (by omega) (by omega) (by omega)
  refine z_aload_n (k := 0) (pc := 0) C dX4_mean_0 rfl ?_
  refine z_getR (pc := 1) (k := 2) C (gR_of x1 (k := 2) rfl) rfl inlX4 (by decide) q_24 (fun _ h9 => h9) dX4_mean_1 ?_
  refine z_goN (kc := 0) (ks := 0) ([.int (zi sn)]) (z_callV (pc := 4) (As := []) (rest := []) (n := 0) (ci := 0) C (c_Jx4a65c_size_8abf5 l hl Γ lo t0 h nx (lo + 9) (zi sn) (p_lsize t1.1)) (ck_of t1.1.1) rfl q_299 q_121 q_122 q_23 q_123 ⟨rfl, by decide +kernel, by decide +kernel, by decide +kernel⟩ ⟨Nat.le_of_ble_eq_true rfl, Nat.le_of_ble_eq_true rfl⟩ rfl (Nat.le_of_ble_eq_true rfl) dX4_mean_4 ⟨(Nat.zero_le _), (Nat.zero_le _)⟩) rfl (Nat.le_of_ble_eq_true rfl) (Nat.le_of_ble_eq_true rfl) ?_
  refine z_istore_n (lv' := [(1, .int (zi sn)), (0, .ref lo)]) (pc := 7) C dX4_mean_7 (by decide) rfl ?_
  refine z_iload_n (k := 0) (pc := 8) C dX4_mean_8 rfl ?_
  by_cases h0 : sn = 0
  · refine z_if_ne_f (pc := 9) (tgt := 14) C dX4_mean_9 (by decide) (by rw [e0]; omega) ?_
    refine z_dconst0 (pc := 12) C dX4_mean_12 ?_
    exact z_dret (pc := 13) C (by rw [meanS, if_pos h0]) (Nat.zero_le _) (Nat.zero_le _) dX4_mean_13
  · refine z_if_ne_t (pc := 9) (tgt := 14) C dX4_mean_9 (by decide) (by rw [e0]; omega) ?_
    refine z_iconst (v := (0 : Int32)) (pc := 14) C dX4_mean_14 (by decide) ?_
    refine z_istore_n (lv' := [(2, .int (0 : Int32)), (1, .int (zi sn)), (0, .ref lo)]) (pc := 15) C dX4_mean_15 (by decide) rfl ?_
    refine z_iconst (v := (0 : Int32)) (pc := 16) C dX4_mean_16 (by decide) ?_
    refine z_istore_n (lv' := [(3, .int (0 : Int32)), (2, .int (0 : Int32)), (1, .int (zi sn)), (0, .ref lo)]) (pc := 17) C dX4_mean_17 (by decide) rfl ?_
    have loop : ∀ d j : Nat, j + d = sn → z_R p l e (z_rm 7 111 0 0) s m [Value.ref lo].toArray below meth c Γ lo 4 0 0 (vx_MQ below (z_qn Γ lo (.inr (some (.double (meanS G S B sn)), h, nx))) (z_qx Γ lo (.inr (some (.double (meanS G S B sn)), h, nx))) [Value.ref lo].toArray s 0 0 (fun z : Nat => lo ≤ z)) 18 [(3, .int (zi j)), (2, .int (sgS G S B j)), (1, .int (zi sn)), (0, .ref lo)] [] h nx := by
      intro d
      induction d with
      | zero =>
        intro j hj
        have hjs : j = sn := by omega
        subst hjs
        refine z_iload_n (k := 0) (pc := 18) C dX4_mean_18 rfl ?_
        refine z_iload_n (k := 2) (pc := 19) C dX4_mean_19 rfl ?_
        refine z_icmp_ge_t (pc := 20) (tgt := 41) C dX4_mean_20 (by decide) (by rw [zi_le (by omega) (by omega) (by omega) (by omega)]; omega) ?_
        refine z_iload_n (k := 1) (pc := 41) C dX4_mean_41 rfl ?_
        refine z_i2d (pc := 42) C dX4_mean_42 ?_
        refine z_iload_n (k := 2) (pc := 43) C dX4_mean_43 rfl ?_
        refine z_i2d (pc := 44) C dX4_mean_44 ?_
        refine z_ddiv (pc := 45) C (mean_num _ (by rw [e0]; omega)) dX4_mean_45 ?_
        exact z_dret (pc := 46) C (by rw [meanS, if_neg h0]) (Nat.zero_le _) (Nat.zero_le _) dX4_mean_46
      | succ d ih =>
        intro j hj
        have hj8 : j < sn := by omega
        have g1 : M_X4_numberedStall h lo (zi j) = some (.inr (Q j)) := by
          rw [p_numStall x1 t1 (by omega), if_pos (by omega), Int.toNat_natCast]
        have g2 := p_gotBy x1 t1 x2 t2 hj8
        refine z_iload_n (k := 0) (pc := 18) C dX4_mean_18 rfl ?_
        refine z_iload_n (k := 2) (pc := 19) C dX4_mean_19 rfl ?_
        refine z_icmp_ge_f (pc := 20) (tgt := 41) C dX4_mean_20 (by decide) (by rw [zi_le (by omega) (by omega) (by omega) (by omega)]; omega) ?_
        refine z_iload_n (k := 1) (pc := 23) C dX4_mean_23 rfl ?_
        refine z_aload_n (k := 3) (pc := 24) C dX4_mean_24 rfl ?_
        refine z_aload_n (k := 3) (pc := 25) C dX4_mean_25 rfl ?_
        refine z_iload_n (k := 0) (pc := 26) C dX4_mean_26 rfl ?_
        refine z_goN (kc := 0) (ks := 0) ([.ref (Q j), .ref lo, .int (sgS G S B j)]) (z_callV (pc := 27) (As := [.int (zi j)]) (rest := [.ref lo, .int (sgS G S B j)]) (n := 1) (ci := 5) C (c_X4_numberedStall l hl Γ lo t0 h nx lo (zi j) (.inr (Q j)) g1) (ck_of x1) rfl q_469 q_470 q_471 q_2 q_472 ⟨rfl, by decide +kernel, by decide +kernel, by decide +kernel⟩ ⟨Nat.le_of_ble_eq_true rfl, Nat.le_of_ble_eq_true rfl⟩ rfl (Nat.le_of_ble_eq_true rfl) dX4_mean_27 ⟨(Nat.zero_le _), (Nat.zero_le _)⟩) rfl (Nat.le_of_ble_eq_true rfl) (Nat.le_of_ble_eq_true rfl) ?_
        refine z_goN (kc := 0) (ks := 0) ([.int (gotS G S B j), .int (sgS G S B j)]) (z_callV (pc := 30) (As := [.ref (Q j)]) (rest := [.int (sgS G S B j)]) (n := 1) (ci := 5) C (c_X4_gotBy l hl Γ lo t0 h nx lo (Q j) _ g2) (ck_of x1) rfl q_473 q_474 q_475 q_2 q_476 ⟨rfl, by decide +kernel, by decide +kernel, by decide +kernel⟩ ⟨Nat.le_of_ble_eq_true rfl, Nat.le_of_ble_eq_true rfl⟩ rfl (Nat.le_of_ble_eq_true rfl) dX4_mean_30 ⟨(Nat.zero_le _), (Nat.zero_le _)⟩) rfl (Nat.le_of_ble_eq_true rfl) (Nat.le_of_ble_eq_true rfl) ?_
        refine z_iadd (pc := 33) C dX4_mean_33 ?_
        refine z_istore_n (lv' := [(2, .int (sgS G S B (j + 1))), (3, .int (zi j)), (1, .int (zi sn)), (0, .ref lo)]) (pc := 34) C dX4_mean_34 (by decide) rfl ?_
        refine z_iinc (k := 1) (v := zi (j + 1 : Nat)) (lv' := [(3, .int (zi (j + 1 : Nat))), (2, .int (sgS G S B (j + 1))), (1, .int (zi sn)), (0, .ref lo)]) (pc := 35) C dX4_mean_35 rfl (zi_add (j : Int) 1) (by decide) rfl ?_
        refine z_goto (pc := 38) (tgt := 18) C dX4_mean_38 (by decide) ?_
        exact ih (j + 1) (by omega)
    exact loop sn 0 (by omega)
end MEAN
