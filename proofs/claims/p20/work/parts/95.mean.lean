/-! mean: it may draw -/
def z_qd (G : zG) (lo : Nat) (x : UInt64) (h1 : zH) (n1 : Nat) : Array Value → State → Outcome → State → Prop := fun _ st oc t => ∃ r : UInt64, alike64 r x = true ∧ oc = .returned (some (.double r)) ∧ t.heap.size = n1 ∧ z_hp G lo t h1 t.heap ∧ va_F (fun z : Nat => lo ≤ z) st t
def z_MD (l : Launch) (y : MethodName) (cc : ByteArray) (maxL fr lc : Nat) (G : zG) (lo t0 : Nat) (av : List Value) (h : zH) (nx : Nat) (x : UInt64) (h1 : zH) (n1 : Nat) : Prop :=
  MetD lw_cs l y (Cond.code y cc maxL (some .double) :: wsL_law) (z_rm fr lc 0 0) (va_Pc av (z_U G lo t0 h nx)) (z_qd G lo x h1 n1) 0 0 (fun z : Nat => lo ≤ z)
theorem z_Cx.dr {p : Program} {l : Launch} {s : State} {m : MethodId} {args : Array Value} {meth : Method} {c : Code} {cc : ByteArray} {nL : Nat} {own : String} {ret : Option FieldType} {G : zG} {lo t0 : Nat} (C : z_Cx p l s m args meth c cc nL own ret G lo t0) (d : Drawn) : z_Cx p l (s.setDrawn d) m args meth c cc nL own ret G lo t0 := by
  obtain ⟨⟨c1, c2, c3, c4, c5⟩, c6, c7, c8, c9, c10, c11, c12⟩ := C
  exact ⟨⟨c1, c2, c3, c4, dr_words c5 d⟩, c6, c7, c8, c9, va_K.moved (u := s) (U := s.setDrawn d) (Vm.Alike.refl s.vm) c10, z_Z.moved (u := s) (U := s.setDrawn d) (Vm.Alike.refl s.vm) c11, z_T.same (s := s) (U := s.setDrawn d) rfl c12⟩
theorem z_hp.dr {G : zG} {lo : Nat} {s : State} {d d' : Drawn} {h : zH} {H : Heap} (e : z_hp G lo (s.setDrawn d) h H) : z_hp G lo (s.setDrawn d') h H := z_hp.moved (u := s.setDrawn d) (U := s.setDrawn d') (Vm.Alike.refl s.vm) e
theorem zd_of {l : Launch} {y : MethodName} {cc : ByteArray} {maxL : Nat} {fr lc : Nat} {G : zG} {lo t0 : Nat} {av : List Value} {h h1 : zH} {nx n1 : Nat} {x : UInt64} (lv : List (Nat × Value)) (hy : plainName y.cls = true) (hn : (lg_sl av).length ≤ maxL) (hlv : lv_args 0 av = lv)
    (body : ∀ p e s m below meth c, z_Cx p l (s.setDrawn s.drawn) m av.toArray meth c cc maxL y.cls (some .double) G lo t0 → s.drawn.sameBut s.drawn lw_cs → z_R p l e (z_rm fr lc 0 0) (s.setDrawn s.drawn) m av.toArray below meth c G lo maxL 0 0 (MQD lw_cs below (z_qd G lo x h1 n1) av.toArray s 0 0 (fun z : Nat => lo ≤ z)) 0 lv [] h nx) : z_MD l y cc maxL fr lc G lo t0 av h nx x h1 n1 := by
  subst hlv
  refine MetD.ofW (cc := cc) (maxL := maxL) (ret := some .double) hy rfl ?_
  intro p e s m args below meth c s₁ B hml hv hd0
  obtain ⟨rfl, hsz, hlo, hK, hZ, hT, hh⟩ := hv
  have hts := atoms_spec (ws := Cond.code y cc maxL (some .double) :: wsL_law) B.pre
  have hown : s.vm.findClass y.cls = some m.cls := findClass_of_methodNamed B.named
  have ht : ∀ x ∈ c.exceptionTable.toList, False := by
    obtain ⟨meth9, c9, h1, h2, -, -, -, -, h7, -⟩ := Cond.code_spec B.named (hts _ List.mem_cons_self)
    cases Option.some.inj (h1.symm.trans B.method)
    cases Option.some.inj (h2.symm.trans (Stand.of_body B).code)
    intro x hx
    rw [Array.isEmpty_iff.mp h7] at hx
    cases hx
  have hl := lv_entry av (n := maxL) hn
  rw [lg_entry_eq]
  have C : z_Cx p l s m av.toArray meth c cc maxL y.cls (some .double) G lo t0 := ⟨⟨B.exec, B.bytes, hml, hown, fun w hw => hts w (List.mem_cons_of_mem _ hw)⟩, B.returns, B.notSynchronized, .inr ht, by rw [hsz]; exact hlo, hK, hZ, hT⟩
  exact body p e s m below meth c (C.dr s.drawn) hd0 s.heap [] _ hsz (z_hp.moved (u := s) (U := s.setDrawn s.drawn) (Vm.Alike.refl s.vm) hh) va_S.rf hl
section ZD
variable {p : Program} {l : Launch} {e : Env} {R : Room} {s : State} {m : MethodId} {args : Array Value} {below : List Frame} {meth : Method} {c : Code} {G : zG} {lo t0 nL cells slots : Nat} {Q : State → Prop} {pc : Nat} {lv : List (Nat × Value)} {st : List Value} {h : zH} {nx : Nat} {cc : ByteArray} {own : String} {ret : Option FieldType} {d0 : Drawn}
theorem z_i2d {x : Int32} (C : z_Cx p l s m args meth c cc nL own ret G lo t0) (d : decode cc pc = .ok (.i2d, 1)) (K : z_R p l e R s m args below meth c G lo nL cells slots Q (pc + 1) lv (.double (FP.i2d x) :: st) h nx) : z_R p l e R s m args below meth c G lo nL cells slots Q pc lv (.int x :: st) h nx := fun H locs ls e1 e2 e3 e4 => lv_i2d C.1.1 C.1.2.1 d (K H locs ls e1 e2 e3 e4)
theorem z_dconst0 (C : z_Cx p l s m args meth c cc nL own ret G lo t0) (d : decode cc pc = .ok (.dconst 0, 1)) (K : z_R p l e R s m args below meth c G lo nL cells slots Q (pc + 1) lv (.double FP.dconst0 :: st) h nx) : z_R p l e R s m args below meth c G lo nL cells slots Q pc lv st h nx := fun H locs ls e1 e2 e3 e4 => lv_dconst0 C.1.1 C.1.2.1 d (K H locs ls e1 e2 e3 e4)
theorem z_ddiv {x y : UInt64} (C : z_Cx p l (s.setDrawn d0) m args meth c cc nL own ret G lo t0) (hd0 : s.drawn.sameBut d0 lw_cs) (d : decode cc pc = .ok (.ddiv, 1))
    (K : ∀ (r : UInt64) (d' : Drawn), alike64 r (FP.ddiv x y) = true → s.drawn.sameBut d' lw_cs → z_R p l e R (s.setDrawn d') m args below meth c G lo nL cells slots Q (pc + 1) lv (.double r :: st) h nx) : z_R p l e R (s.setDrawn d0) m args below meth c G lo nL cells slots Q pc lv (.double y :: .double x :: st) h nx :=
  fun H locs ls e1 e2 e3 e4 => lv_ddiv_any hd0 lw_bits C.1.1 C.1.2.1 d fun r d' hal hd' => K r d' hal hd' H locs ls e1 e2.dr e3 e4
theorem z_dretD {x r : UInt64} {av : List Value} (C : z_Cx p l (s.setDrawn d0) m av.toArray meth c cc nL own (some .double) G lo t0) (hd0 : s.drawn.sameBut d0 lw_cs) (hal : alike64 r x = true) (d : decode cc pc = .ok (.dreturn, 1)) :
    z_R p l e R (s.setDrawn d0) m av.toArray below meth c G lo nL 0 0 (MQD lw_cs below (z_qd G lo x h nx) av.toArray s 0 0 (fun z : Nat => lo ≤ z)) pc lv [.double r] h nx := by
  intro H locs ls e1 e2 e3 e4
  refine W.endD hd0 ?_
  exact W.dret C.1.1 C.1.2.1 C.2.1 (fun t ht hW => ⟨r, hal, rfl, by rw [ht]; exact e1, by rw [ht]; exact e2.moved hW.alike, e3.F ht⟩) e3.2.2 d C.2.2.1
end ZD
def sgS (G : Nat → Nat → Int32) (S : Nat → Nat → Int) (B : Nat → Int32) : Nat → Int32
  | 0 => 0
  | k + 1 => sgS G S B k + gotS G S B k
def meanS (G : Nat → Nat → Int32) (S : Nat → Nat → Int) (B : Nat → Int32) (sn : Nat) : UInt64 := if sn = 0 then FP.dconst0 else FP.ddiv (FP.i2d (sgS G S B sn)) (FP.i2d (zi sn))
section MEAN
variable {Z : Nat → Prop} {t0 lo : Nat} {h : zH} {nx n : Nat} {A : Nat → Nat → Int} {D : Nat → Int32} {sn : Nat} {S : Nat → Nat → Int} {B : Nat → Int32} {G : Nat → Nat → Int32} {hr ro th : Int32}
theorem c_X4_mean (l : Launch) (hl : l.stackTraces = false) (Γ : zG) (I : IC Z t0 lo h nx n A D sn S B G hr ro) : z_MD l yX4_mean cX4_mean 4 7 111 Γ lo t0 [.ref lo] h nx (meanS G S B sn) h nx := by
  obtain ⟨qd, mc, mc', og, rf, ea, ea', P, Q, f1, f2, f3, f4, ⟨x1, x2⟩, ⟨w1, w2, w3, w4⟩, ⟨s1, s2, s3⟩, ⟨t1, t2, t3⟩, si, -⟩ := I
  refine zd_of [(0, .ref lo)] (by decide) (Nat.le_of_ble_eq_true rfl) rfl (fun p e s m below meth c C hd0 => ?_)
  have e0 : (zi sn = 0) = ((sn : Int) = 0) := zi_eq (b := 0) (by omega) (by omega) (by omega) (by omega)
  refine z_aload_n (k := 0) (pc := 0) C dX4_mean_0 rfl ?_
  refine z_getR (pc := 1) (k := 2) C (gR_of x1 (k := 2) rfl) rfl inlX4 (by decide) q_24 (fun _ h9 => h9) dX4_mean_1 ?_
  refine z_goN (kc := 0) (ks := 0) ([.int (zi sn)]) (z_callV (pc := 4) (As := []) (rest := []) (n := 0) (ci := 0) C (c_Jx4a65c_size_8abf5 l hl Γ lo t0 h nx (lo + 9) (zi sn) (p_lsize t1.1)) (ck_of t1.1.1) rfl q_299 q_121 q_122 q_23 q_123 ⟨rfl, by decide +kernel, by decide +kernel, by decide +kernel⟩ ⟨Nat.le_of_ble_eq_true rfl, Nat.le_of_ble_eq_true rfl⟩ rfl (Nat.le_of_ble_eq_true rfl) dX4_mean_4 ⟨(Nat.zero_le _), (Nat.zero_le _)⟩) rfl (Nat.le_of_ble_eq_true rfl) (Nat.le_of_ble_eq_true rfl) ?_
  refine z_istore_n (lv' := [(1, .int (zi sn)), (0, .ref lo)]) (pc := 7) C dX4_mean_7 (by decide) rfl ?_
  refine z_iload_n (k := 0) (pc := 8) C dX4_mean_8 rfl ?_
  by_cases h0 : sn = 0
  · refine z_if_ne_f (pc := 9) (tgt := 14) C dX4_mean_9 (by decide) (by rw [e0]; omega) ?_
    refine z_dconst0 (pc := 12) C dX4_mean_12 ?_
    exact z_dretD (pc := 13) C hd0 (by rw [meanS, if_pos h0]; exact alike64_refl _) dX4_mean_13
  · refine z_if_ne_t (pc := 9) (tgt := 14) C dX4_mean_9 (by decide) (by rw [e0]; omega) ?_
    refine z_iconst (v := (0 : Int32)) (pc := 14) C dX4_mean_14 (by decide) ?_
    refine z_istore_n (lv' := [(2, .int (0 : Int32)), (1, .int (zi sn)), (0, .ref lo)]) (pc := 15) C dX4_mean_15 (by decide) rfl ?_
    refine z_iconst (v := (0 : Int32)) (pc := 16) C dX4_mean_16 (by decide) ?_
    refine z_istore_n (lv' := [(3, .int (0 : Int32)), (2, .int (0 : Int32)), (1, .int (zi sn)), (0, .ref lo)]) (pc := 17) C dX4_mean_17 (by decide) rfl ?_
    have loop : ∀ d j : Nat, j + d = sn → z_R p l e (z_rm 7 111 0 0) (s.setDrawn s.drawn) m [Value.ref lo].toArray below meth c Γ lo 4 0 0 (MQD lw_cs below (z_qd Γ lo (meanS G S B sn) h nx) [Value.ref lo].toArray s 0 0 (fun z : Nat => lo ≤ z)) 18 [(3, .int (zi j)), (2, .int (sgS G S B j)), (1, .int (zi sn)), (0, .ref lo)] [] h nx := by
      intro d
      induction d with
      | zero =>
        intro j hj
        have hjs : j = sn := by omega
        subst hjs
        refine z_iload_n (k := 0) (pc := 18) C dX4_mean_18 rfl ?_
        refine z_iload_n (k := 2) (pc := 19) C dX4_mean_19 rfl ?_
        refine z_icmp_ge_t (pc := 20) (tgt := 41) C dX4_mean_20 (by decide) (by rw [zi_le (by omega) (by omega) (by omega) (by omega)]; omega) ?_
        refine z_iload_n (k := 1) (pc := 41) C dX4_mean_41 rfl ?_
        refine z_i2d (pc := 42) C dX4_mean_42 ?_
        refine z_iload_n (k := 2) (pc := 43) C dX4_mean_43 rfl ?_
        refine z_i2d (pc := 44) C dX4_mean_44 ?_
        refine z_ddiv (pc := 45) C hd0 dX4_mean_45 (fun r d1 hal hd1 => ?_)
        exact z_dretD (pc := 46) (C.dr d1) hd1 (by rw [meanS, if_neg h0]; exact hal) dX4_mean_46
      | succ d ih =>
        intro j hj
        have hj8 : j < sn := by omega
        have g1 : M_X4_numberedStall h lo (zi j) = some (.inr (Q j)) := by
          rw [p_numStall x1 t1 (by omega), if_pos (by omega), Int.toNat_natCast]
        have g2 := p_gotBy x1 t1 x2 t2 hj8
        refine z_iload_n (k := 0) (pc := 18) C dX4_mean_18 rfl ?_
        refine z_iload_n (k := 2) (pc := 19) C dX4_mean_19 rfl ?_
        refine z_icmp_ge_f (pc := 20) (tgt := 41) C dX4_mean_20 (by decide) (by rw [zi_le (by omega) (by omega) (by omega) (by omega)]; omega) ?_
        refine z_iload_n (k := 1) (pc := 23) C dX4_mean_23 rfl ?_
        refine z_aload_n (k := 3) (pc := 24) C dX4_mean_24 rfl ?_
        refine z_aload_n (k := 3) (pc := 25) C dX4_mean_25 rfl ?_
        refine z_iload_n (k := 0) (pc := 26) C dX4_mean_26 rfl ?_
        refine z_goN (kc := 0) (ks := 0) ([.ref (Q j), .ref lo, .int (sgS G S B j)]) (z_callV (pc := 27) (As := [.int (zi j)]) (rest := [.ref lo, .int (sgS G S B j)]) (n := 1) (ci := 5) C (c_X4_numberedStall l hl Γ lo t0 h nx lo (zi j) (.inr (Q j)) g1) (ck_of x1) rfl q_469 q_470 q_471 q_2 q_472 ⟨rfl, by decide +kernel, by decide +kernel, by decide +kernel⟩ ⟨Nat.le_of_ble_eq_true rfl, Nat.le_of_ble_eq_true rfl⟩ rfl (Nat.le_of_ble_eq_true rfl) dX4_mean_27 ⟨(Nat.zero_le _), (Nat.zero_le _)⟩) rfl (Nat.le_of_ble_eq_true rfl) (Nat.le_of_ble_eq_true rfl) ?_
        refine z_goN (kc := 0) (ks := 0) ([.int (gotS G S B j), .int (sgS G S B j)]) (z_callV (pc := 30) (As := [.ref (Q j)]) (rest := [.int (sgS G S B j)]) (n := 1) (ci := 5) C (c_X4_gotBy l hl Γ lo t0 h nx lo (Q j) _ g2) (ck_of x1) rfl q_473 q_474 q_475 q_2 q_476 ⟨rfl, by decide +kernel, by decide +kernel, by decide +kernel⟩ ⟨Nat.le_of_ble_eq_true rfl, Nat.le_of_ble_eq_true rfl⟩ rfl (Nat.le_of_ble_eq_true rfl) dX4_mean_30 ⟨(Nat.zero_le _), (Nat.zero_le _)⟩) rfl (Nat.le_of_ble_eq_true rfl) (Nat.le_of_ble_eq_true rfl) ?_
        refine z_iadd (pc := 33) C dX4_mean_33 ?_
        refine z_istore_n (lv' := [(2, .int (sgS G S B (j + 1))), (3, .int (zi j)), (1, .int (zi sn)), (0, .ref lo)]) (pc := 34) C dX4_mean_34 (by decide) rfl ?_
        refine z_iinc (k := 1) (v := zi (j + 1 : Nat)) (lv' := [(3, .int (zi (j + 1 : Nat))), (2, .int (sgS G S B (j + 1))), (1, .int (zi sn)), (0, .ref lo)]) (pc := 35) C dX4_mean_35 rfl (zi_add (j : Int) 1) (by decide) rfl ?_
        refine z_goto (pc := 38) (tgt := 18) C dX4_mean_38 (by decide) ?_
        exact ih (j + 1) (by omega)
    exact loop sn 0 (by omega)
end MEAN
theorem dc_nan {a : UInt64} (h : isNaN64 a = true) : FP.Core.decode FP.Core.b64 a.toNat = .nan := by
  have h1 := isNaN64_iff.mp h
  rw [show (0x7fffffffffffffff : Nat) = 2 ^ 63 - 1 from by decide, Nat.and_two_pow_sub_one_eq_mod] at h1
  have ht : FP.Core.Fmt.tails FP.Core.b64 = 4503599627370496 := by decide
  have he : FP.Core.Fmt.exps FP.Core.b64 = 2048 := by decide
  unfold FP.Core.decode FP.Core.fieldE FP.Core.fieldT
  rw [ht, he, if_pos (by omega), if_neg (by omega)]
theorem dc_l {a b : UInt64} (h : FP.Core.decode FP.Core.b64 a.toNat = .nan) : FP.dcmp a b = none := by
  show FP.Core.order (FP.Core.decode FP.Core.b64 a.toNat) _ = none
  rw [h]
  rfl
theorem dc_self (a : UInt64) : FP.dcmp a a = some .eq ∨ FP.Core.decode FP.Core.b64 a.toNat = .nan := by
  show FP.Core.order (FP.Core.decode FP.Core.b64 a.toNat) (FP.Core.decode FP.Core.b64 a.toNat) = some .eq ∨ _
  have cs : ∀ x : Int, compare x x = .eq := fun x => by simp [compare, compareOfLessAndEq]
  cases FP.Core.decode FP.Core.b64 a.toNat with
  | nan => exact .inr rfl
  | inf s => exact .inl (congrArg some (cs _))
  | fin s c q => exact .inl (congrArg some (cs _))
