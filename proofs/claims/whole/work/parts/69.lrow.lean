/-! comparing the two means -/
theorem dc_nan {a : UInt64} (h : isNaN64 a = true) : FP.Core.decode FP.Core.b64 a.toNat = .nan := by
  have h1 := isNaN64_iff.mp h
  rw [show (0x7fffffffffffffff : Nat) = 2 ^ 63 - 1 from by decide, Nat.and_two_pow_sub_one_eq_mod] at h1
  have ht : FP.Core.Fmt.tails FP.Core.b64 = 4503599627370496 := by decide
  have he : FP.Core.Fmt.exps FP.Core.b64 = 2048 := by decide
  unfold FP.Core.decode FP.Core.fieldE FP.Core.fieldT
  rw [ht, he, if_pos (by omega), if_neg (by omega)]
theorem dc_l {a b : UInt64} (h : FP.Core.decode FP.Core.b64 a.toNat = .nan) : FP.dcmp a b = none := by
  show FP.Core.order (FP.Core.decode FP.Core.b64 a.toNat) _ = none
  rw [h]
  rfl
theorem dc_self (a : UInt64) : FP.dcmp a a = some .eq ∨ FP.Core.decode FP.Core.b64 a.toNat = .nan := by
  show FP.Core.order (FP.Core.decode FP.Core.b64 a.toNat) (FP.Core.decode FP.Core.b64 a.toNat) = some .eq ∨ _
  have cs : ∀ x : Int, compare x x = .eq := fun x => by simp [compare, compareOfLessAndEq]
  cases FP.Core.decode FP.Core.b64 a.toNat with
  | nan => exact .inr rfl
  | inf s => exact .inl (congrArg some (cs _))
  | fin s c q => exact .inl (congrArg some (cs _))
theorem mean_cmp {p q x : UInt64} (hp : alike64 p x = true) (hq : alike64 q x = true) : Op.cmpValue (FP.dcmp p q) .l = 0 ∨ (¬ Op.cmpValue (FP.dcmp p p) .l = 0 ∧ ¬ Op.cmpValue (FP.dcmp q q) .l = 0) := by
  have key : ∀ y : UInt64, alike64 y x = true → y = x ∨ (FP.Core.decode FP.Core.b64 y.toNat = .nan ∧ FP.Core.decode FP.Core.b64 x.toNat = .nan) := fun y hy => by
    unfold alike64 at hy
    rw [Bool.or_eq_true, Bool.and_eq_true, decide_eq_true_iff] at hy
    rcases hy with h | ⟨h1, h2⟩
    · exact .inl h
    · exact .inr ⟨dc_nan h1, dc_nan h2⟩
  have nn : ∀ y : UInt64, FP.Core.decode FP.Core.b64 y.toNat = .nan → ¬ Op.cmpValue (FP.dcmp y y) .l = 0 := fun y hy => by
    rw [dc_l hy]
    decide
  rcases dc_self x with h | h
  · rcases key p hp with rfl | ⟨-, h2⟩
    · rcases key q hq with rfl | ⟨-, h3⟩
      · rw [h]; exact .inl rfl
      · rw [dc_l h3] at h; cases h
    · rw [dc_l h2] at h; cases h
  · have hn : ∀ y : UInt64, alike64 y x = true → FP.Core.decode FP.Core.b64 y.toNat = .nan := fun y hy => by
      rcases key y hy with rfl | ⟨h2, -⟩
      · exact h
      · exact h2
    exact .inr ⟨nn p (hn p hp), nn q (hn q hq)⟩
theorem lgc_self (x : Int64) : lg_cmp x x = 0 := by
  have h1 := (lg_cmp_ge x x).2 (Int64.le_refl x)
  have h2 := (lg_cmp_le x x).2 (Int64.le_refl x)
  exact Int32.le_antisymm h2 h1
/-! rows for the law -/
section ZLAW
variable {p : Program} {l : Launch} {e : Env} {R : Room} {s : State} {m : MethodId} {args : Array Value} {below : List Frame} {meth : Method} {c : Code} {G : zG} {lo t0 nL cells slots : Nat} {Q : State → Prop} {pc : Nat} {lv lv' : List (Nat × Value)} {st rest : List Value} {h : zH} {nx : Nat} {cc : ByteArray} {own : String} {ret : Option FieldType} {d0 : Drawn}
variable {b L : Nat} {xs : Nat → Int32}
theorem z_slen (C : z_Cx p l s m args meth c cc nL own ret G lo t0) (hX : va_X b L xs s s.heap) (hbl : b < s.heap.size) (hb : b < lo) (d : decode cc pc = .ok (.arraylength, 1)) (K : z_R p l e R s m args below meth c G lo nL cells slots Q (pc + 1) lv (.int (zi L) :: st) h nx) : z_R p l e R s m args below meth c G lo nL cells slots Q pc lv (.ref b :: st) h nx := by
  intro H locs ls e1 e2 e3 e4
  have := K H locs ls e1 e2 e3 e4
  rw [← zi_ofNat] at this
  exact va_slen C.1.1 C.1.2.1 hX hbl (Nat.not_le.mpr hb) e3 d this
theorem z_sld {j : Nat} (C : z_Cx p l s m args meth c cc nL own ret G lo t0) (hX : va_X b L xs s s.heap) (hbl : b < s.heap.size) (hb : b < lo) (hj : j < L) (hL : L ≤ 3584) (d : decode cc pc = .ok (.iaload, 1)) (K : z_R p l e R s m args below meth c G lo nL cells slots Q (pc + 1) lv (.int (xs j) :: st) h nx) : z_R p l e R s m args below meth c G lo nL cells slots Q pc lv (.int (zi j) :: .ref b :: st) h nx := by
  intro H locs ls e1 e2 e3 e4
  have hn : (zi (j : Int)).toNatClampNeg = j := by rw [zi_nn (by omega) (by omega)]; omega
  refine va_sld C.1.1 C.1.2.1 hX hbl (Nat.not_le.mpr hb) e3 (i := zi j) ?_ d ?_
  · unfold vp_in
    rw [hn, n_0, zi_lt (by omega) (by omega) (by omega) (by omega)]
    omega
  · rw [hn]
    exact K H locs ls e1 e2 e3 e4
theorem z_arg {q0 q4 i j : Nat} {n : Int} (C : z_Cx p l s m args meth c cc nL own ret G lo t0) (hX : va_X b L xs s s.heap) (hbl : b < s.heap.size) (hb : b < lo) (hL : L ≤ 3584) (d0 : decode cc pc = .ok (.aload_n 0, 1)) (d1 : decode cc (pc + 1) = .ok (.iload 4, 2)) (d3 : decode cc (pc + 3) = .ok (.iconst n, 1)) (d4 : decode cc (pc + 4) = .ok (.iadd, 1)) (d5 : decode cc (pc + 5) = .ok (.iaload, 1))
    (hn : n = (j : Int)) (h0 : lv[q0]? = some (0, .ref b)) (h4 : lv[q4]? = some (4, .int (zi i))) (hj : i + j < L) (K : z_R p l e R s m args below meth c G lo nL cells slots Q (pc + 6) lv (.int (xs (i + j)) :: st) h nx) : z_R p l e R s m args below meth c G lo nL cells slots Q pc lv st h nx := by
  subst hn
  refine z_aload_n (k := q0) C d0 h0 ?_
  refine z_iload (k := q4) C d1 h4 ?_
  refine z_iconst (v := zi j) C d3 rfl ?_
  refine z_iadd C d4 ?_
  rw [zi_add, ← Int.natCast_add]
  exact z_sld C hX hbl hb hj hL d5 K
theorem z_arg6 {q0 q4 i : Nat} (C : z_Cx p l s m args meth c cc nL own ret G lo t0) (hX : va_X b L xs s s.heap) (hbl : b < s.heap.size) (hb : b < lo) (hL : L ≤ 3584) (d0 : decode cc pc = .ok (.aload_n 0, 1)) (d1 : decode cc (pc + 1) = .ok (.iload 4, 2)) (d3 : decode cc (pc + 3) = .ok (.bipush 6, 2)) (d4 : decode cc (pc + 5) = .ok (.iadd, 1)) (d5 : decode cc (pc + 6) = .ok (.iaload, 1))
    (h0 : lv[q0]? = some (0, .ref b)) (h4 : lv[q4]? = some (4, .int (zi i))) (hj : i + 6 < L) (K : z_R p l e R s m args below meth c G lo nL cells slots Q (pc + 7) lv (.int (xs (i + 6)) :: st) h nx) : z_R p l e R s m args below meth c G lo nL cells slots Q pc lv st h nx := by
  refine z_aload_n (k := q0) C d0 h0 ?_
  refine z_iload (k := q4) C d1 h4 ?_
  refine z_bipush (v := zi (6 : Nat)) C d3 (by decide) ?_
  refine z_iadd C d4 ?_
  rw [zi_add, ← Int.natCast_add]
  exact z_sld C hX hbl hb hj hL d5 K
theorem z_laload {a k : Nat} {f : Nat → Int64} {i : Int32} (C : z_Cx p l s m args meth c cc nL own ret G lo t0) (ha : h a = some (zL k f)) (hin : vp_in i k) (d : decode cc pc = .ok (.laload, 1)) (K : z_R p l e R s m args below meth c G lo nL cells slots Q (pc + 1) lv (.long (f i.toNatClampNeg) :: st) h nx) : z_R p l e R s m args below meth c G lo nL cells slots Q pc lv (.int i :: .ref a :: st) h nx := by
  intro H locs ls e1 e2 e3 e4
  exact va_lald (D := G.1) C.1.1 C.1.2.1 C.2.2.2.2.2.1 (z_P1 ((e2 a _ ha).1 _ rfl).2) 0 2 rfl rfl hin d (K H locs ls e1 e2 e3 e4)
theorem z_lcmp {x y : Int64} (C : z_Cx p l s m args meth c cc nL own ret G lo t0) (d : decode cc pc = .ok (.lcmp, 1)) (K : z_R p l e R s m args below meth c G lo nL cells slots Q (pc + 1) lv (.int (lg_cmp x y) :: st) h nx) : z_R p l e R s m args below meth c G lo nL cells slots Q pc lv (.long y :: .long x :: st) h nx := fun H locs ls e1 e2 e3 e4 => W.lcmp C.1.1 C.1.2.1 d (K H locs ls e1 e2 e3 e4)
theorem z_dcmp {x y : UInt64} {op : CmpOp} (C : z_Cx p l s m args meth c cc nL own ret G lo t0) (d : decode cc pc = .ok (.dcmp op, 1)) (K : z_R p l e R s m args below meth c G lo nL cells slots Q (pc + 1) lv (.int (Op.cmpValue (FP.dcmp x y) op) :: st) h nx) : z_R p l e R s m args below meth c G lo nL cells slots Q pc lv (.double y :: .double x :: st) h nx := fun H locs ls e1 e2 e3 e4 => lv_dcmp C.1.1 C.1.2.1 d (K H locs ls e1 e2 e3 e4)
theorem z_dload {x : UInt64} {i k : Nat} (C : z_Cx p l s m args meth c cc nL own ret G lo t0) (d : decode cc pc = .ok (.dload i, 2)) (hk : lv[k]? = some (i, .double x)) (K : z_R p l e R s m args below meth c G lo nL cells slots Q (pc + 2) lv (.double x :: st) h nx) : z_R p l e R s m args below meth c G lo nL cells slots Q pc lv st h nx := fun H locs ls e1 e2 e3 e4 => lv_dload C.1.1 C.1.2.1 d (lv_at e4 k hk) (K H locs ls e1 e2 e3 e4)
theorem z_dstore {x : UInt64} {i : Nat} (C : z_Cx p l s m args meth c cc nL own ret G lo t0) (d : decode cc pc = .ok (.dstore i, 2)) (hn : i + 1 < nL) (hl : z_s2 lv i (.double x) = lv') (K : z_R p l e R s m args below meth c G lo nL cells slots Q (pc + 2) lv' st h nx) : z_R p l e R s m args below meth c G lo nL cells slots Q pc lv (.double x :: st) h nx := fun H locs ls e1 e2 e3 e4 => lv_dstore C.1.1 C.1.2.1 d e4 hn hl (fun ls' e5 => K H locs ls' e1 e2 e3 e5)
theorem z_newL (C : z_Cx p l s m args meth c cc nL own ret G lo t0) {n : Int32} {n' : Nat} (w1 : Cond.arrayClass .long ∈ wsL_law) (hn : ¬ n < 0) (hN : n.toNatClampNeg = n') (hb : n' * 8 ≤ 536870912) (hcells : cells + 1 ≤ R.cells) (hslots : slots + n' ≤ R.slots) (d : decode cc pc = .ok (.newarray .long, 2)) (K : z_R p l e R s m args below meth c G lo nL (cells + 1) (slots + n') Q (pc + 2) lv (.ref nx :: st) (z_up h nx (zL n' (fun _ => 0))) (nx + 1)) : z_R p l e R s m args below meth c G lo nL cells slots Q pc lv (.int n :: st) h nx := by
  intro H locs ls e1 e2 e3 e4
  have hK : va_K G.1 vwCl (z_tys G) s := C.2.2.2.2.2.1
  have hlo : lo ≤ nx := by rw [← e1]; exact Nat.le_trans C.2.2.2.2.1 e3.1
  refine va_newaK (atype := .long) C.1.1 C.1.2.1 (C.1.2.2.2.2 _ w1) rfl d rfl hn hN hb hcells hslots e1 fun H1 cA q1 z1 o1 hAr hNm => ?_
  have hcA : cA = G.2 2 := Option.some.inj (hNm.symm.trans (hK.2 2 _ rfl).2)
  subst hcA
  exact K H1 locs ls z1 (z_newhp e2 e1 hlo rfl q1 o1) ⟨by rw [z1, ← e1]; exact Nat.le_succ_of_le e3.1, fun x h1 h2 => (o1 x (by rw [← e1]; exact Nat.lt_of_lt_of_le h1 e3.1)).trans (e3.2.1 x h1 h2), e3.2.2⟩ e4
theorem z_callH {y : MethodName} {bytes : ByteArray} {maxL fr lc n ix mc ms : Nat} {hh : List (Nat × Nat × Nat × Nat)} {As : List Value} {Rel : Int32 → zH → Nat → Prop} (C : z_Cx p l s m args meth c cc nL own ret G lo t0) (hN : z_N s) (hM : z_HM l y bytes maxL hh fr lc G lo t0 As h nx Rel mc ms) (w1 : Cond.methodLink own ix y ∈ wsL_law) (w2 : Cond.static y ∈ wsL_law) (w4 : Cond.initialized y.cls ∈ wsL_law) (w5 : Cond.codeWith y bytes maxL (some .int) hh ∈ wsL_law)
    (hd : y.cls ≠ "java/lang/invoke/MethodHandle" ∧ y.cls ≠ "java/lang/invoke/VarHandle" ∧ (parseMethodDescriptor y.desc).map (fun d => d.parameters.length) = some n) (hR : fr + 1 ≤ R.frames ∧ 8 + (maxL + 11) + lc ≤ R.locals) (hn : As.length = n) (hcat : (rest.map fun v => v.category).sum ≤ 8) (d : decode cc pc = .ok (.invokestatic ix, 3)) (hf : cells + mc ≤ R.cells ∧ slots + ms ≤ R.slots) (st' : List Value) (hst : As.reverse ++ rest = st')
    (K : ∀ v h1 n1, Rel v h1 n1 → z_R p l e R s m args below meth c G lo nL (cells + mc) (slots + ms) Q (pc + 3) lv (.int v :: rest) h1 n1) : z_R p l e R s m args below meth c G lo nL cells slots Q pc lv st' h nx := by
  intro H locs ls e1 e2 e3 e4 T hT X
  subst hst
  have hts := C.1.2.2.2.2
  have hr := vx_runSW (H := H) (locs := locs) (cells := cells) (slots := slots) (g := F0 m pc ls (As.reverse ++ rest)) (e := e) (below := below) (meth := meth) (R := R) C.1 (z_met hM (fun _ _ _ q => q)) (vx_cwSW n hts (WL_cons w1 (WL_cons w2 (WL_cons w4 (WL_cons w5 WL_in)))) rfl rfl rfl hd hR) ⟨z_blindN, fun U hU hW => ⟨rfl, z_pre C e1 e2 e3 U hU hW, z_N.moved hW.alike hN⟩⟩ rfl hn e4.1 rfl (lv_room hcat) d hf
  obtain ⟨v', st₀, t, T', L, h0, X', hL, k1, k2, ⟨v9, h9, q1, q2, q4, hF⟩, go⟩ := hr T hT X
  cases q2
  obtain ⟨-, -, k3⟩ := vx_keep h0 k1 e3 (fun _ _ h => h) (fun _ h => h) hL hF
  have hal : s.vm.Alike t.vm := by rw [← k2]; exact X'.warmed.alike
  obtain ⟨t2, a1, b1⟩ := K v9 h9 _ q1 T'.heap (locs ++ L) ls (by rw [k1]) (by rw [k1]; exact q4.moved hal.symm) k3 e4 T' rfl X'
  exact ⟨t2, go t2 a1, b1⟩
theorem z_callD {y : MethodName} {bytes : ByteArray} {maxL fr lc n ix N bb ci : Nat} {Cn : String} {T : u_T} {As : List Value} {x : UInt64} {h1 : zH} {n1 : Nat} (C : z_Cx p l (s.setDrawn d0) m args meth c cc nL own ret G lo t0) (hd0 : s.drawn.sameBut d0 lw_cs) (hM : z_MD l y bytes maxL fr lc G lo t0 (.ref bb :: As) h nx x h1 n1) {u : Unit} (hq : z_ck h bb ci = some u) (hc : vwCl[ci]? = some (Cn, T, N)) (w1 : Cond.methodLink own ix y ∈ wsL_law) (w2 : Cond.instanceMethod y ∈ wsL_law) (w3 : Cond.selects Cn y y ∈ wsL_law) (w4 : Cond.initialized Cn ∈ wsL_law) (w5 : Cond.code y bytes maxL (some .double) ∈ wsL_law)
    (hd : y.cls = Cn ∧ y.cls ≠ "java/lang/invoke/MethodHandle" ∧ y.cls ≠ "java/lang/invoke/VarHandle" ∧ (parseMethodDescriptor y.desc).map (fun d => d.parameters.length) = some n) (hR : fr + 1 ≤ R.frames ∧ 8 + (maxL + 11) + lc ≤ R.locals) (hn : As.length = n) (hcat : (rest.map fun v => v.category).sum ≤ 8) (d : decode cc pc = .ok (.invokevirtual ix, 3)) (hf : cells + 0 ≤ R.cells ∧ slots + 0 ≤ R.slots) (st' : List Value) (hst : As.reverse ++ .ref bb :: rest = st')
    (K : ∀ r d', alike64 r x = true → s.drawn.sameBut d' lw_cs → z_R p l e R (s.setDrawn d') m args below meth c G lo nL cells slots Q (pc + 3) lv (.double r :: rest) h1 n1) : z_R p l e R (s.setDrawn d0) m args below meth c G lo nL cells slots Q pc lv st' h nx := by
  intro H locs ls e1 e2 e3 e4 T₀ hT X
  subst hst
  obtain ⟨fs, hb⟩ := z_ck_spec hq
  have hK : va_K G.1 vwCl (z_tys G) (s.setDrawn d0) := C.2.2.2.2.2.1
  have hts := C.1.2.2.2.2
  have hr := va_runV_D (H := H) (locs := locs) (cells := cells) (slots := slots) (g := F0 m pc ls (As.reverse ++ .ref bb :: rest)) (e := e) (below := below) (meth := meth) (R := R) C.1 hM (cwV n hts (WL_cons w1 (WL_cons w2 (WL_cons w3 (WL_cons w4 (WL_cons w5 WL_in))))) rfl rfl rfl hd hR) ⟨z_blind, va_recv hK (z_P1 ((e2 bb _ hb).1 _ rfl).2) hc (q0 := 0) rfl, fun U hU hW => ⟨rfl, z_pre C e1 e2 e3 U hU hW⟩⟩ rfl hn e4.1 rfl (lv_room hcat) d hf
  obtain ⟨v', st₀, t, T', L, d', hd', h0, X', hL, k1, k2, ⟨r, hal0, q2, q3, q4, hF⟩, go⟩ := hr T₀ hT X
  cases q2
  obtain ⟨-, -, k3⟩ := vx_keep h0 k1 e3 (fun _ _ h => h) (fun _ h => h) hL hF
  have hal : s.vm.Alike t.vm := by rw [← k2]; exact X'.warmed.alike
  obtain ⟨t2, a1, b1⟩ := K r d' hal0 (hd0.trans hd') T'.heap (locs ++ L) ls (by rw [k1]; exact q3) (by rw [k1]; exact q4.moved (u := t) (U := s.setDrawn d') hal.symm) k3 e4 T' rfl X'
  exact ⟨t2, go t2 a1, b1⟩
end ZLAW
