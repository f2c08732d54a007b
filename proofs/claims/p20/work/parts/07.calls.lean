theorem z_met {l : Launch} {y : MethodName} {ws : List Cond} {rm : Room} {Pc : Array Value → State → Prop} {Qc : Array Value → State → Outcome → State → Prop} {XC : String → State → State → Prop} {mc ms : Nat} {free : Addr → Prop} (hM : vx_Met l y ws rm Pc Qc XC mc ms free) (hX : ∀ E st t, ¬ XC E st t) : Met l y ws rm Pc Qc mc ms free := by
  intro p e ha hc hk s m args below hf happ hP hK
  obtain ⟨n, o, h1, h2, h3, h4⟩ := hM p e ha hc hk s m args below hf happ hP hK
  refine ⟨n, o, h1, h2, h3, ?_⟩
  rcases h4 with h4 | ⟨q, -, E, ce, L, hx, -⟩
  · exact h4
  · exact absurd hx (hX _ _ _)
theorem z_noX {G : zG} {lo : Nat} {w : Option Value × zH × Nat} : ∀ E st t, ¬ z_qx G lo (.inr w) E st t := by
  rintro E st t ⟨h1, q, -⟩
  cases q
section ZCALL
variable {p : Program} {l : Launch} {e : Env} {R : Room} {s : State} {m : MethodId} {args : Array Value} {below : List Frame} {meth : Method} {c : Code} {G : zG} {lo t0 nL cells slots : Nat} {Q : State → Prop} {pc : Nat} {lv lv' : List (Nat × Value)} {st rest stk : List Value} {h h1 : zH} {nx n1 : Nat} {cc : ByteArray} {own : String} {ret : Option FieldType}
variable {Cn : String} {T : u_T} {N ci ix n b maxL fr lc mc ms : Nat} {y : MethodName} {bytes : ByteArray} {rt : Option FieldType} {As : List Value} {oo : zV} {v : Option Value} {E : String}
/-- a call, from any heap of the point -/
def z_Ca (p : Program) (l : Launch) (e : Env) (R : Room) (s : State) (m : MethodId) (args : Array Value) (below : List Frame) (meth : Method) (c : Code) (G : zG) (lo nL cells slots mc ms pc : Nat) (lv : List (Nat × Value)) (stk rest : List Value) (h : zH) (nx : Nat) (oo : zV) : Prop :=
  ∀ (H : Heap) (locs : List Loc) (ls : Array Slot), H.size = nx → z_hp G lo s h H → va_S (fun z : Nat => lo ≤ z) s.heap H locs → lv_has ls nL lv → ∃ a : Array Value, vx_Run p l e R s m args below meth c H locs cells slots mc ms (F0 m pc ls stk) rest (z_qn G lo oo a) (z_qx G lo oo) (fun z : Nat => lo ≤ z)
theorem z_goN {kc ks : Nat} (st' : List Value) (hr : z_Ca p l e R s m args below meth c G lo nL cells slots mc ms pc lv stk rest h nx (.inr (v, h1, n1))) (hst : v.toList ++ rest = st') (hkc : cells + mc ≤ kc) (hks : slots + ms ≤ ks) (K : z_R p l e R s m args below meth c G lo nL kc ks Q (pc + 3) lv st' h1 n1) : z_R p l e R s m args below meth c G lo nL cells slots Q pc lv stk h nx := by
  intro H locs ls e1 e2 e3 e4 T hT X
  obtain ⟨a, hr⟩ := hr H locs ls e1 e2 e3 e4
  subst hst
  rcases hr T hT X with ⟨v', st₀, t, T', L, h0, X', hL, k1, k2, ⟨v9, h9, n9, q1, q2, q3, q4, hF⟩, go⟩ | ⟨q, st₀, t, T', L, E, ce, h0, X', hL, k1, k2, ⟨h9, q1, -⟩, -⟩
  · cases q1
    cases q2
    obtain ⟨-, -, k3⟩ := vx_keep h0 k1 e3 (fun _ _ h => h) (fun _ h => h) hL hF
    have hal : s.vm.Alike t.vm := by rw [← k2]; exact X'.warmed.alike
    obtain ⟨t2, a1, b1⟩ := K T'.heap (locs ++ L) ls (by rw [k1]; exact q3) (by rw [k1]; exact q4.moved hal.symm) k3 e4 T' rfl (stand_widen X' hkc hks)
    exact ⟨t2, go t2 a1, b1⟩
  · cases q1
/-- what the callee throws goes on to the caller -/
theorem z_goX (C : z_Cx p l s m args meth c cc nL own ret G lo t0) (ho : own ≠ RL) {k1 k2 : Nat} (hr : z_Ca p l e R s m args below meth c G lo nL cells slots mc ms pc lv stk rest h nx (.inl (E, h1))) (hc : cells + mc ≤ k1) (hs : slots + ms ≤ k2) : z_R p l e R s m args below meth c G lo nL cells slots (vx_MQ below (z_qn G lo (.inl (E, h1))) (z_qx G lo (.inl (E, h1))) args s k1 k2 (fun z : Nat => lo ≤ z)) pc lv stk h nx := by
  intro H locs ls e1 e2 e3 e4 T hT X
  obtain ⟨a, hr⟩ := hr H locs ls e1 e2 e3 e4
  rcases hr T hT X with ⟨v', st₀, t, T', L, h0, X', hL, k1, k2, ⟨v9, h9, n9, q1, -⟩, go⟩ | ⟨q, st₀, t, T', L, E', ce, h0, X', hL, k1, k2, ⟨h9, q1, q2, hF⟩, hce, hcv, hcl, stp⟩
  · cases q1
  · cases q1
    obtain ⟨-, -, k3⟩ := vx_keep h0 k1 e3 (fun _ _ h => h) (fun _ h => h) hL hF
    have hal : s.vm.Alike t.vm := by rw [← k2]; exact X'.warmed.alike
    have K := vx_out (args := args) (m := m) (p := p) (l := l) (e := e) (R := R) (below := below) (Qc := z_qn G lo (.inl (E, h1))) (XC := z_qx G lo (.inl (E, h1))) (free := fun z : Nat => lo ≤ z) (pc := pc) (ls := ls) (rest := rest) (H := T'.heap) (locs := locs ++ L) (q := q) (fun x hx => (C.2.2.2.1.elim (fun q => absurd q ho) (fun q => q x hx)).elim) C.2.2.1 (by rw [k1]; exact hce) hcv hcl (fun t2 ht2 hal2 => ⟨h1, rfl, by rw [ht2, k1]; exact q2.moved (hal.symm.trans hal2), k3.F ht2⟩) k3.2.2 hc hs
    obtain ⟨t2, a1, b1⟩ := K T' rfl X'
    exact ⟨t2, stp.trans a1, b1⟩
theorem z_callV (C : z_Cx p l s m args meth c cc nL own ret G lo t0) (hM : z_Met l y bytes maxL rt fr lc G lo t0 (.ref b :: As) h nx oo mc ms) {u : Unit} (hq : z_ck h b ci = some u) (hc : vwCl[ci]? = some (Cn, T, N)) (w1 : Cond.methodLink own ix y ∈ wsL_law) (w2 : Cond.instanceMethod y ∈ wsL_law) (w3 : Cond.selects Cn y y ∈ wsL_law) (w4 : Cond.initialized Cn ∈ wsL_law) (w5 : Cond.code y bytes maxL rt ∈ wsL_law) (hd : y.cls = Cn ∧ y.cls ≠ "java/lang/invoke/MethodHandle" ∧ y.cls ≠ "java/lang/invoke/VarHandle" ∧ (parseMethodDescriptor y.desc).map (fun d => d.parameters.length) = some n) (hR : fr + 1 ≤ R.frames ∧ 8 + (maxL + 11) + lc ≤ R.locals) (hn : As.length = n) (hcat : (rest.map fun v => v.category).sum ≤ 8) (d : decode cc pc = .ok (.invokevirtual ix, 3)) (hf : cells + mc ≤ R.cells ∧ slots + ms ≤ R.slots) : z_Ca p l e R s m args below meth c G lo nL cells slots mc ms pc lv (As.reverse ++ .ref b :: rest) rest h nx oo := by
  intro H locs ls e1 e2 e3 e4
  obtain ⟨fs, hb⟩ := z_ck_spec hq
  have hK : va_K G.1 vwCl (z_tys G) s := C.2.2.2.2.2.1
  have hts := C.1.2.2.2.2
  exact ⟨_, vx_runV C.1 hM (cwV n hts (WL_cons w1 (WL_cons w2 (WL_cons w3 (WL_cons w4 (WL_cons w5 WL_in))))) rfl rfl rfl hd hR) ⟨z_blind, va_recv hK (z_P1 ((e2 b _ hb).1 _ rfl).2) hc (q0 := 0) rfl, fun U hU hW => ⟨rfl, z_pre C e1 e2 e3 U hU hW⟩⟩ rfl hn e4.1 rfl (lv_room hcat) d hf⟩
theorem z_callS (C : z_Cx p l s m args meth c cc nL own ret G lo t0) (hM : z_Met l y bytes maxL rt fr lc G lo t0 As h nx oo mc ms) (w1 : Cond.methodLink own ix y ∈ wsL_law) (w2 : Cond.static y ∈ wsL_law) (w4 : Cond.initialized y.cls ∈ wsL_law) (w5 : Cond.code y bytes maxL rt ∈ wsL_law) (hd : y.cls ≠ "java/lang/invoke/MethodHandle" ∧ y.cls ≠ "java/lang/invoke/VarHandle" ∧ (parseMethodDescriptor y.desc).map (fun d => d.parameters.length) = some n) (hR : fr + 1 ≤ R.frames ∧ 8 + (maxL + 11) + lc ≤ R.locals) (hn : As.length = n) (hcat : (rest.map fun v => v.category).sum ≤ 8) (d : decode cc pc = .ok (.invokestatic ix, 3)) (hf : cells + mc ≤ R.cells ∧ slots + ms ≤ R.slots) : z_Ca p l e R s m args below meth c G lo nL cells slots mc ms pc lv (As.reverse ++ rest) rest h nx oo := by
  intro H locs ls e1 e2 e3 e4
  have hts := C.1.2.2.2.2
  exact ⟨_, vx_runS C.1 hM (va_cwS n hts (WL_cons w1 (WL_cons w2 (WL_cons w4 (WL_cons w5 WL_in)))) rfl rfl rfl hd hR) ⟨z_blind, fun U hU hW => ⟨rfl, z_pre C e1 e2 e3 U hU hW⟩⟩ rfl hn e4.1 rfl (lv_room hcat) d hf⟩
theorem z_callSN {host : String} {w : Option Value × zH × Nat} (C : z_Cx p l s m args meth c cc nL own ret G lo t0) (hM : z_Met l y bytes maxL rt fr lc G lo t0 As h nx (.inr w) mc ms) (w1 : va_Nw (.methodLinkNest own ix y host) s) (w2 : Cond.static y ∈ wsL_law) (w4 : Cond.initialized y.cls ∈ wsL_law) (w5 : Cond.code y bytes maxL rt ∈ wsL_law) (hd : y.cls ≠ "java/lang/invoke/MethodHandle" ∧ y.cls ≠ "java/lang/invoke/VarHandle" ∧ (parseMethodDescriptor y.desc).map (fun d => d.parameters.length) = some n) (hR : fr + 1 ≤ R.frames ∧ 8 + (maxL + 11) + lc ≤ R.locals) (hn : As.length = n) (hcat : (rest.map fun v => v.category).sum ≤ 8) (d : decode cc pc = .ok (.invokestatic ix, 3)) (hf : cells + mc ≤ R.cells ∧ slots + ms ≤ R.slots) : z_Ca p l e R s m args below meth c G lo nL cells slots mc ms pc lv (As.reverse ++ rest) rest h nx (.inr w) := by
  intro H locs ls e1 e2 e3 e4
  have hts := C.1.2.2.2.2
  exact ⟨_, fun T hT X => Or.inl (va_runSN C.1 (z_met hM z_noX) ⟨va_cnB n hts (WL_cons w5 WL_in) rfl rfl rfl w1 (hts _ w4) hd hR, hts _ w2, trivial⟩ ⟨z_blind, fun U hU hW => ⟨rfl, z_pre C e1 e2 e3 U hU hW⟩⟩ rfl hn e4.1 rfl (lv_room hcat) d hf T hT X)⟩
theorem z_callI {w : Option Value × zH × Nat} (C : z_Cx p l s m args meth c cc nL own ret G lo t0) (hM : z_Met l y bytes maxL none fr lc G lo t0 (.ref b :: As) h nx (.inr w) mc ms) (hy : y.name = "<init>") (w1 : Cond.methodLink own ix y ∈ wsL_law) (w2 : Cond.instanceMethod y ∈ wsL_law) (w4 : Cond.initialized y.cls ∈ wsL_law) (w5 : Cond.code y bytes maxL none ∈ wsL_law) (hd : y.cls ≠ "java/lang/invoke/MethodHandle" ∧ y.cls ≠ "java/lang/invoke/VarHandle" ∧ (parseMethodDescriptor y.desc).map (fun d => d.parameters.length) = some n) (hR : fr + 1 ≤ R.frames ∧ 8 + (maxL + 11) + lc ≤ R.locals) (hn : As.length = n) (hcat : (rest.map fun v => v.category).sum ≤ 8) (d : decode cc pc = .ok (.invokespecial ix, 3)) (hf : cells + mc ≤ R.cells ∧ slots + ms ≤ R.slots) : z_Ca p l e R s m args below meth c G lo nL cells slots mc ms pc lv (As.reverse ++ .ref b :: rest) rest h nx (.inr w) := by
  intro H locs ls e1 e2 e3 e4
  have hts := C.1.2.2.2.2
  exact ⟨_, fun T hT X => Or.inl (va_runI C.1 (z_met hM z_noX) (cwI n hts (WL_cons w5 WL_in) rfl rfl rfl (hts _ w4) (hts _ w1) (hts _ w2) hy hd hR) ⟨z_blind, fun U hU hW => ⟨rfl, z_pre C e1 e2 e3 U hU hW⟩⟩ rfl hn e4.1 rfl (lv_room hcat) d hf T hT X)⟩
end ZCALL
section ZRET
variable {p : Program} {l : Launch} {e : Env} {R : Room} {s : State} {m : MethodId} {args : Array Value} {below : List Frame} {meth : Method} {c : Code} {G : zG} {lo t0 nL cells slots k1 k2 : Nat} {pc : Nat} {lv : List (Nat × Value)} {h : zH} {nx : Nat} {cc : ByteArray} {own : String} {oo : zV}
theorem z_iret {x : Int32} (C : z_Cx p l s m args meth c cc nL own (some .int) G lo t0) (hoo : oo = .inr (some (.int x), h, nx)) (hc : cells ≤ k1) (hs : slots ≤ k2) (d : decode cc pc = .ok (.ireturn, 1)) : z_R p l e R s m args below meth c G lo nL cells slots (vx_MQ below (z_qn G lo oo) (z_qx G lo oo) args s k1 k2 (fun z : Nat => lo ≤ z)) pc lv [.int x] h nx := by
  intro H locs ls e1 e2 e3 e4
  refine W.widen hc hs (vx_ret ?_)
  exact W.iret C.1.1 C.1.2.1 C.2.1 (fun t ht hW => ⟨_, h, nx, hoo, rfl, by rw [ht]; exact e1, by rw [ht]; exact e2.moved hW.alike, e3.F ht⟩) e3.2.2 d C.2.2.1
theorem z_zret {x : Int32} (C : z_Cx p l s m args meth c cc nL own (some .boolean) G lo t0) (hx : x = 0 ∨ x = 1) (hoo : oo = .inr (some (.int x), h, nx)) (hc : cells ≤ k1) (hs : slots ≤ k2) (d : decode cc pc = .ok (.ireturn, 1)) : z_R p l e R s m args below meth c G lo nL cells slots (vx_MQ below (z_qn G lo oo) (z_qx G lo oo) args s k1 k2 (fun z : Nat => lo ≤ z)) pc lv [.int x] h nx := by
  intro H locs ls e1 e2 e3 e4
  refine W.widen hc hs (vx_ret ?_)
  exact W.zret C.1.1 C.1.2.1 C.2.1 (by rcases hx with rfl | rfl <;> rfl) (fun t ht hW => ⟨_, h, nx, hoo, rfl, by rw [ht]; exact e1, by rw [ht]; exact e2.moved hW.alike, e3.F ht⟩) e3.2.2 d C.2.2.1
theorem z_lret {x : Int64} (C : z_Cx p l s m args meth c cc nL own (some .long) G lo t0) (hoo : oo = .inr (some (.long x), h, nx)) (hc : cells ≤ k1) (hs : slots ≤ k2) (d : decode cc pc = .ok (.lreturn, 1)) : z_R p l e R s m args below meth c G lo nL cells slots (vx_MQ below (z_qn G lo oo) (z_qx G lo oo) args s k1 k2 (fun z : Nat => lo ≤ z)) pc lv [.long x] h nx := by
  intro H locs ls e1 e2 e3 e4
  refine W.widen hc hs (vx_ret ?_)
  exact W.lret C.1.1 C.1.2.1 C.2.1 (fun t ht hW => ⟨_, h, nx, hoo, rfl, by rw [ht]; exact e1, by rw [ht]; exact e2.moved hW.alike, e3.F ht⟩) e3.2.2 d C.2.2.1
theorem z_aret {rt : FieldType} {x : Nat} (C : z_Cx p l s m args meth c cc nL own (some rt) G lo t0) (hrt : (∃ n, rt = .object n) ∨ ∃ t, rt = .array t) (hoo : oo = .inr (some (.ref x), h, nx)) (hc : cells ≤ k1) (hs : slots ≤ k2) (d : decode cc pc = .ok (.areturn, 1)) : z_R p l e R s m args below meth c G lo nL cells slots (vx_MQ below (z_qn G lo oo) (z_qx G lo oo) args s k1 k2 (fun z : Nat => lo ≤ z)) pc lv [.ref x] h nx := by
  intro H locs ls e1 e2 e3 e4
  refine W.widen hc hs (vx_ret ?_)
  exact W.aret C.1.1 C.1.2.1 C.2.1 hrt (Or.inr ⟨_, rfl⟩) (fun t ht hW => ⟨_, h, nx, hoo, rfl, by rw [ht]; exact e1, by rw [ht]; exact e2.moved hW.alike, e3.F ht⟩) e3.2.2 d C.2.2.1
theorem z_vret (C : z_Cx p l s m args meth c cc nL own none G lo t0) (hoo : oo = .inr (none, h, nx)) (hc : cells ≤ k1) (hs : slots ≤ k2) (d : decode cc pc = .ok (.return_, 1)) : z_R p l e R s m args below meth c G lo nL cells slots (vx_MQ below (z_qn G lo oo) (z_qx G lo oo) args s k1 k2 (fun z : Nat => lo ≤ z)) pc lv [] h nx := by
  intro H locs ls e1 e2 e3 e4
  refine W.widen hc hs (vx_ret ?_)
  exact W.vret C.1.1 C.1.2.1 C.2.1 (fun t ht hW => ⟨_, h, nx, hoo, rfl, by rw [ht]; exact e1, by rw [ht]; exact e2.moved hW.alike, e3.F ht⟩) e3.2.2 d C.2.2.1
theorem z_throw {cls text : String} {names : List String} {ik is ic : Nat} {rest : List Value} {ret : Option FieldType} (C : z_Cx p l s m args meth c cc nL own ret G lo t0) (ho : own ≠ RL) (hl : l.stackTraces = false) (hcls : Bundle.fit cls = true) (hnames : ∀ n ∈ names, Bundle.fit n = true) (w1 : Cond.classLink own ik cls ∈ wsL_law) (w2 : Cond.initialized cls ∈ wsL_law) (hstr : (own, is, text) ∈ z_ss) (hg : ∀ w ∈ (vx_atS own ic cls names).filter goodWord, w ∈ wsL_law) (hb : ∀ w ∈ (vx_atS own ic cls names).filter (fun w => !goodWord w), w ∈ Cond.castable cls cls :: z_ds) (hca : Cond.castable cls cls ∈ z_ws)
    (hgood : ∀ w ∈ Cond.classLink own ik cls :: Cond.initialized cls :: vx_atS own ic cls names, vx_ot w = true)
    (d0 : decode cc pc = .ok (.new ik, 3)) (d3 : decode cc (pc + 3) = .ok (.dup, 1)) (d4 : decode cc (pc + 4) = .ok (.ldc is, 2)) (d6 : decode cc (pc + 6) = .ok (.invokespecial ic, 3)) (d9 : decode cc (pc + 9) = .ok (.athrow, 1))
    (hRf : names.length + 3 < R.frames) (hRl : (rest.map fun v => v.category).sum + (13 * (names.length + 1) + 43) ≤ R.locals) (hRc : cells + 1 ≤ R.cells) (hRs : slots + 6 ≤ R.slots) (hoo : oo = .inl (cls, h)) (hc : cells + 1 ≤ k1) (hs : slots + 6 ≤ k2) : z_R p l e R s m args below meth c G lo nL cells slots (vx_MQ below (z_qn G lo oo) (z_qx G lo oo) args s k1 k2 (fun z : Nat => lo ≤ z)) pc lv rest h nx := by
  intro H locs ls e1 e2 e3 e4
  have hts := C.1.2.2.2.2
  obtain ⟨sa, hsa⟩ := C.2.2.2.2.2.2.2.2.2.2.2.2.1 _ hstr
  have hcw : (Cond.castable cls cls).before args s = true := va_Nw.use (A := args) rfl (C.2.2.2.2.2.2.2.1 _ hca)
  refine vx_throwS C.1.1 C.1.2.1 hl C.1.2.2.2.1 hcls hnames (hts _ w1) (hts _ w2) hsa (vx_hat (B := Cond.castable cls cls :: z_ds) (fun w hw => hts w (hg w hw)) hb (vx_c hcw (fun w hw => by obtain ⟨y, rfl⟩ := z_ds_declares w hw; exact va_Nw.use (A := args) rfl (C.2.2.2.2.2.2.2.2.2.2.2.2.2 _ hw)))) hgood C.2.2.2.2.2.2.1.2.1 C.2.2.2.2.2.2.1.2.2 e3 (e4.1.trans C.1.2.2.1.symm) d0 d3 d4 d6 d9 (fun x hx => (C.2.2.2.1.elim (fun q => absurd q ho) (fun q => q x hx)).elim) hRf hRl hRc hRs C.2.2.1 (fun t hal hz hk => ⟨h, hoo, ?_, ?_⟩) e3.2.2 hc hs
  · intro q c hq
    refine ⟨fun e he => ⟨((e2 q c hq).1 e he).1, ((e2 q c hq).1 e he).2.kept (hk q ((e2 q c hq).1 e he).2.lt)⟩, fun w he => ?_⟩
    exact z_ou.moved hal (z_ou.kept ((e2 q c hq).2 w he) (fun b hb _ => hk b hb))
  · exact ⟨Nat.le_trans e3.1 hz, fun q h1 h2 => (hk q (Nat.lt_of_lt_of_le h1 e3.1)).trans (e3.2.1 q h1 h2)⟩
theorem z_throwW {cls text : String} {names : List String} {ik is ic : Nat} {rest : List Value} {ret : Option FieldType} (C : z_Cx p l s m args meth c cc nL own ret G lo t0) (ho : own ≠ RL) (hl : l.stackTraces = false) (hcls : Bundle.fit cls = true) (hnames : ∀ n ∈ names, Bundle.fit n = true) (w1 : Cond.classLink own ik cls ∈ wsL_law) (w2 : Cond.initialized cls ∈ wsL_law) (hstr : (own, is, text) ∈ z_ss) (hg : ∀ w ∈ (vx_atS own ic cls names).filter goodWord, w ∈ wsL_law) (hb : ∀ w ∈ (vx_atS own ic cls names).filter (fun w => !goodWord w), w ∈ Cond.castable cls cls :: z_ds) (hca : Cond.castable cls cls ∈ z_ws)
    (hgood : ∀ w ∈ Cond.classLink own ik cls :: Cond.initialized cls :: vx_atS own ic cls names, vx_ot w = true)
    (d0 : decode cc pc = .ok (.new ik, 3)) (d3 : decode cc (pc + 3) = .ok (.dup, 1)) (d4 : decode cc (pc + 4) = .ok (.ldc_w is, 3)) (d6 : decode cc (pc + 7) = .ok (.invokespecial ic, 3)) (d9 : decode cc (pc + 10) = .ok (.athrow, 1))
    (hRf : names.length + 3 < R.frames) (hRl : (rest.map fun v => v.category).sum + (13 * (names.length + 1) + 43) ≤ R.locals) (hRc : cells + 1 ≤ R.cells) (hRs : slots + 6 ≤ R.slots) (hoo : oo = .inl (cls, h)) (hc : cells + 1 ≤ k1) (hs : slots + 6 ≤ k2) : z_R p l e R s m args below meth c G lo nL cells slots (vx_MQ below (z_qn G lo oo) (z_qx G lo oo) args s k1 k2 (fun z : Nat => lo ≤ z)) pc lv rest h nx := by
  intro H locs ls e1 e2 e3 e4
  have hts := C.1.2.2.2.2
  obtain ⟨sa, hsa⟩ := C.2.2.2.2.2.2.2.2.2.2.2.2.1 _ hstr
  have hcw : (Cond.castable cls cls).before args s = true := va_Nw.use (A := args) rfl (C.2.2.2.2.2.2.2.1 _ hca)
  refine vx_throwSW C.1.1 C.1.2.1 hl C.1.2.2.2.1 hcls hnames (hts _ w1) (hts _ w2) hsa (vx_hat (B := Cond.castable cls cls :: z_ds) (fun w hw => hts w (hg w hw)) hb (vx_c hcw (fun w hw => by obtain ⟨y, rfl⟩ := z_ds_declares w hw; exact va_Nw.use (A := args) rfl (C.2.2.2.2.2.2.2.2.2.2.2.2.2 _ hw)))) hgood C.2.2.2.2.2.2.1.2.1 C.2.2.2.2.2.2.1.2.2 e3 (e4.1.trans C.1.2.2.1.symm) d0 d3 d4 d6 d9 (fun x hx => (C.2.2.2.1.elim (fun q => absurd q ho) (fun q => q x hx)).elim) hRf hRl hRc hRs C.2.2.1 (fun t hal hz hk => ⟨h, hoo, ?_, ?_⟩) e3.2.2 hc hs
  · intro q c hq
    refine ⟨fun e he => ⟨((e2 q c hq).1 e he).1, ((e2 q c hq).1 e he).2.kept (hk q ((e2 q c hq).1 e he).2.lt)⟩, fun w he => ?_⟩
    exact z_ou.moved hal (z_ou.kept ((e2 q c hq).2 w he) (fun b hb _ => hk b hb))
  · exact ⟨Nat.le_trans e3.1 hz, fun q h1 h2 => (hk q (Nat.lt_of_lt_of_le h1 e3.1)).trans (e3.2.1 q h1 h2)⟩
end ZRET
