/-! the law's helpers: they catch what the class throws -/
def z_N (U : State) : Prop := va_Nc sIO sIA U ∧ va_Nc sIS sIA U ∧ va_Nc sIS sIO U ∧ va_Nc sIA sIO U
theorem z_N.moved {u U : State} (hvm : u.vm.Alike U.vm) (h : z_N u) : z_N U := ⟨va_Nc.moved hvm h.1, va_Nc.moved hvm h.2.1, va_Nc.moved hvm h.2.2.1, va_Nc.moved hvm h.2.2.2⟩
def z_Hx (p : Program) (l : Launch) (s : State) (m : MethodId) (args : Array Value) (meth : Method) (c : Code) (cc : ByteArray) (nL : Nat) (own : String) (ret : Option FieldType) (hh : List (Nat × Nat × Nat × Nat)) (G : zG) (lo t0 : Nat) : Prop :=
  CallFix p m c cc nL s args wsL_law own ∧ meth.sig.returnType = ret ∧ meth.locks = false ∧ c.exceptionTable.toList = tableOf hh ∧ lo ≤ s.heap.size ∧ z_K G s ∧ z_Z lo t0 s s.heap ∧ z_T s ∧ z_N s
def z_qh (G : zG) (lo : Nat) (Rel : Int32 → zH → Nat → Prop) : Array Value → State → Outcome → State → Prop := fun _ st oc t => ∃ (v : Int32) (h1 : zH), Rel v h1 t.heap.size ∧ oc = .returned (some (.int v)) ∧ z_hp G lo t h1 t.heap ∧ va_F (fun z : Nat => lo ≤ z) st t
def z_xh : String → State → State → Prop := fun _ _ _ => False
def z_UN (G : zG) (lo t0 : Nat) (h : zH) (nx : Nat) (U : State) : Prop := z_U G lo t0 h nx U ∧ z_N U
theorem z_blindN {G : zG} {lo t0 : Nat} {h : zH} {nx : Nat} {av : List Value} : FrameBlind (va_Pc av (z_UN G lo t0 h nx)) := by
  intro a U g mk ⟨h0, h1, h2⟩
  have k := z_blind (G := G) (lo := lo) (t0 := t0) (h := h) (nx := nx) (av := av) a U g mk ⟨h0, h1⟩
  exact ⟨k.1, k.2, z_N.moved (u := U) (U := U.calling g mk a) (Vm.Alike.refl U.vm) h2⟩
/-- a helper's contract -/
def z_HM (l : Launch) (y : MethodName) (cc : ByteArray) (maxL : Nat) (hh : List (Nat × Nat × Nat × Nat)) (fr lc : Nat) (G : zG) (lo t0 : Nat) (av : List Value) (h : zH) (nx : Nat) (Rel : Int32 → zH → Nat → Prop) (mc ms : Nat) : Prop :=
  vx_Met l y (Cond.codeWith y cc maxL (some .int) hh :: wsL_law) (z_rm fr lc mc ms) (va_Pc av (z_UN G lo t0 h nx)) (z_qh G lo Rel) z_xh mc ms (fun z : Nat => lo ≤ z)
abbrev z_HQ (below : List Frame) (G : zG) (lo : Nat) (Rel : Int32 → zH → Nat → Prop) (av : List Value) (s : State) (mc ms : Nat) : State → Prop := vx_MQ below (z_qh G lo Rel) z_xh av.toArray s mc ms (fun z : Nat => lo ≤ z)
theorem zh_of {l : Launch} {y : MethodName} {cc : ByteArray} {maxL : Nat} {hh : List (Nat × Nat × Nat × Nat)} {fr lc : Nat} {G : zG} {lo t0 : Nat} {av : List Value} {h : zH} {nx : Nat} {Rel : Int32 → zH → Nat → Prop} {mc ms : Nat} (lv : List (Nat × Value)) (hy : plainName y.cls = true) (hn : (lg_sl av).length ≤ maxL) (hlv : lv_args 0 av = lv)
    (body : ∀ p e s m below meth c ls, z_Hx p l s m av.toArray meth c cc maxL y.cls (some .int) hh G lo t0 → s.heap.size = nx → z_hp G lo s h s.heap → lv_has ls maxL lv → W p l e (z_rm fr lc mc ms) s m av.toArray below meth c s.heap [] 0 0 (z_HQ below G lo Rel av s mc ms) (F0 m 0 ls [])) : z_HM l y cc maxL hh fr lc G lo t0 av h nx Rel mc ms := by
  subst hlv
  refine vx_ofWH (cc := cc) (maxL := maxL) (ret := some .int) (hh := hh) hy rfl ?_
  intro p e s m args below meth c s₁ B hml hv
  obtain ⟨rfl, ⟨hsz, hlo, hK, hZ, hT, hhp⟩, hN⟩ := hv
  have hts := atoms_spec (ws := Cond.codeWith y cc maxL (some .int) hh :: wsL_law) B.pre
  have hown : s.vm.findClass y.cls = some m.cls := findClass_of_methodNamed B.named
  have htab := vx_table (x := y) B (hts _ List.mem_cons_self)
  have hl := lv_entry av (n := maxL) hn
  rw [lg_entry_eq]
  exact body p e s m below meth c _ ⟨⟨B.exec, B.bytes, hml, hown, fun w hw => hts w (List.mem_cons_of_mem _ hw)⟩, B.returns, B.notSynchronized, htab, by rw [hsz]; exact hlo, hK, hZ, hT, hN⟩ hsz hhp hl
section ZH
variable {p : Program} {l : Launch} {e : Env} {R : Room} {s : State} {m : MethodId} {args : Array Value} {below : List Frame} {meth : Method} {c : Code} {G : zG} {lo t0 nL cells slots : Nat} {Q : State → Prop} {pc : Nat} {rest : List Value} {h : zH} {nx : Nat} {cc : ByteArray} {own : String} {ret : Option FieldType} {hh : List (Nat × Nat × Nat × Nat)}
variable {Cn : String} {T : u_T} {N ci ix n b maxL fr lc mc ms : Nat} {y : MethodName} {bytes : ByteArray} {rt : Option FieldType} {As : List Value} {oo : zV} {H : Heap} {locs : List Loc} {ls : Array Slot}
theorem zh_pre (C : z_Hx p l s m args meth c cc nL own ret hh G lo t0) (hz : H.size = nx) (hp : z_hp G lo s h H) (hS : va_S (fun z : Nat => lo ≤ z) s.heap H locs) : ∀ U : State, U.heap = H → s.WarmedH U.vm → z_U G lo t0 h nx U := by
  intro U hU hW
  obtain ⟨-, -, -, -, hlo, hK, hZ, hT, -⟩ := C
  refine ⟨by rw [hU]; exact hz, by rw [← hz]; exact Nat.le_trans hlo hS.1, va_K.moved hW.alike hK, ?_, z_T.warm hW hT, by rw [hU]; exact hp.moved hW.alike⟩
  rw [hU]
  exact z_Z.moved hW.alike (hZ.kept hS.2.1)
theorem zh_callV (C : z_Hx p l s m args meth c cc nL own ret hh G lo t0) (hM : z_Met l y bytes maxL rt fr lc G lo t0 (.ref b :: As) h nx oo mc ms) {u : Unit} (hq : z_ck h b ci = some u) (hc : vwCl[ci]? = some (Cn, T, N)) (w1 : Cond.methodLink own ix y ∈ wsL_law) (w2 : Cond.instanceMethod y ∈ wsL_law) (w3 : Cond.selects Cn y y ∈ wsL_law) (w4 : Cond.initialized Cn ∈ wsL_law) (w5 : Cond.code y bytes maxL rt ∈ wsL_law)
    (hd : y.cls = Cn ∧ y.cls ≠ "java/lang/invoke/MethodHandle" ∧ y.cls ≠ "java/lang/invoke/VarHandle" ∧ (parseMethodDescriptor y.desc).map (fun d => d.parameters.length) = some n) (hR : fr + 1 ≤ R.frames ∧ 8 + (maxL + 11) + lc ≤ R.locals) (hn : As.length = n) (hcat : (rest.map fun v => v.category).sum ≤ 8) (d : decode cc pc = .ok (.invokevirtual ix, 3)) (hf : cells + mc ≤ R.cells ∧ slots + ms ≤ R.slots)
    (e1 : H.size = nx) (e2 : z_hp G lo s h H) (e3 : va_S (fun z : Nat => lo ≤ z) s.heap H locs) (hls : ls.size = nL)
    (kN : ∀ v h1 n1 st', oo = .inr (v, h1, n1) → v.toList ++ rest = st' → ∀ H1 locs1, H1.size = n1 → z_hp G lo s h1 H1 → va_S (fun z : Nat => lo ≤ z) s.heap H1 locs1 → W p l e R s m args below meth c H1 locs1 (cells + mc) (slots + ms) Q (F0 m (pc + 3) ls st'))
    (kX : ∀ E h1, oo = .inl (E, h1) → ∀ H1 locs1 q ce, nx ≤ H1.size → z_hp G lo s h1 H1 → va_S (fun z : Nat => lo ≤ z) s.heap H1 locs1 → H1[q]? = some ce → ce.vm = .none → s.vm.findClass E = some ce.cls → vx_W p l e R s m args below meth c H1 locs1 (cells + mc) (slots + ms) Q (F0 m pc ls rest) q) :
    W p l e R s m args below meth c H locs cells slots Q (F0 m pc ls (As.reverse ++ .ref b :: rest)) := by
  intro T₀ hT X
  obtain ⟨fs, hb⟩ := z_ck_spec hq
  have hK : va_K G.1 vwCl (z_tys G) s := C.2.2.2.2.2.1
  have hts := C.1.2.2.2.2
  have hr := vx_runV (H := H) (locs := locs) (cells := cells) (slots := slots) (g := F0 m pc ls (As.reverse ++ .ref b :: rest)) (e := e) (below := below) (meth := meth) (R := R) C.1 hM (cwV n hts (WL_cons w1 (WL_cons w2 (WL_cons w3 (WL_cons w4 (WL_cons w5 WL_in))))) rfl rfl rfl hd hR) ⟨z_blind, va_recv hK (z_P1 ((e2 b _ hb).1 _ rfl).2) hc (q0 := 0) rfl, fun U hU hW => ⟨rfl, zh_pre C e1 e2 e3 U hU hW⟩⟩ rfl hn hls rfl (lv_room hcat) d hf
  rcases hr T₀ hT X with ⟨v', st₀, t, T', L, h0, X', hL, k1, k2, ⟨v9, h9, n9, q1, q2, q3, q4, hF⟩, go⟩ | ⟨q, st₀, t, T', L, E', ce, h0, X', hL, k1, k2, ⟨h9, q1, q2, hF⟩, hce, hcv, hcl, stp⟩
  · cases q2
    obtain ⟨-, -, k3⟩ := vx_keep h0 k1 e3 (fun _ _ h => h) (fun _ h => h) hL hF
    have hal : s.vm.Alike t.vm := by rw [← k2]; exact X'.warmed.alike
    obtain ⟨t2, a1, b1⟩ := kN v' h9 n9 _ q1 rfl T'.heap (locs ++ L) (by rw [k1]; exact q3) (by rw [k1]; exact q4.moved hal.symm) k3 T' rfl X'
    exact ⟨t2, go t2 a1, b1⟩
  · obtain ⟨k9, -, k3⟩ := vx_keep h0 k1 e3 (fun _ _ h => h) (fun _ h => h) hL hF
    have hal : s.vm.Alike t.vm := by rw [← k2]; exact X'.warmed.alike
    obtain ⟨t2, a1, b1⟩ := kX E' h9 q1 T'.heap (locs ++ L) q ce (by rw [← e1]; exact k9) (by rw [k1]; exact q2.moved hal.symm) k3 (by rw [k1]; exact hce) hcv hcl T' rfl X'
    exact ⟨t2, stp.trans a1, b1⟩
theorem zh_catch {E name : String} {ce : Cell} {q : Nat} (C : z_Hx p l s m args meth c cc nL own ret hh G lo t0) (pre : List ExceptionTableEntry) (x : ExceptionTableEntry) (suf : List ExceptionTableEntry) (hsplit : tableOf hh = pre ++ x :: suf)
    (hpass : ∀ z ∈ pre, z.catchType ≠ 0 ∧ ∃ nm : String, Cond.classLink own z.catchType nm ∈ wsL_law ∧ va_Nc E nm s) (hx : covers x pc = true) (h0 : x.catchType ≠ 0) (hlink : Cond.classLink own x.catchType name ∈ wsL_law) (hca : Cond.castable E name ∈ z_ws)
    (hcell : H[q]? = some ce) (hv : ce.vm = .none) (hcl : s.vm.findClass E = some ce.cls) (kk : W p l e R s m args below meth c H locs cells slots Q (F0 m x.handlerPc ls [.ref q])) : vx_W p l e R s m args below meth c H locs cells slots Q (F0 m pc ls rest) q := by
  have hts := C.1.2.2.2.2
  refine vx_catch (own := own) (name := name) C.1.2.2.2.1 pre x suf (C.2.2.2.1.trans hsplit) (fun z hz => .inr ?_) hx h0 (hts _ hlink) (va_Nw.use (A := args) rfl (C.2.2.2.2.2.2.2.1.1 _ hca)) hcell hv hcl kk
  obtain ⟨q1, nm, q2, q3⟩ := hpass z hz
  exact ⟨q1, nm, hts _ q2, q3⟩
theorem zh_ret {Rel : Int32 → zH → Nat → Prop} {av : List Value} {x : Int32} {h1 : zH} (C : z_Hx p l s m av.toArray meth c cc nL own (some .int) hh G lo t0) (hR : Rel x h1 H.size) (e2 : z_hp G lo s h1 H) (e3 : va_S (fun z : Nat => lo ≤ z) s.heap H locs) (hc : cells ≤ mc) (hs : slots ≤ ms) (d : decode cc pc = .ok (.ireturn, 1)) :
    W p l e R s m av.toArray below meth c H locs cells slots (z_HQ below G lo Rel av s mc ms) (F0 m pc ls [.int x]) := by
  refine W.widen hc hs (vx_ret ?_)
  exact W.iret C.1.1 C.1.2.1 C.2.1 (fun t ht hW => ⟨x, h1, by rw [ht]; exact hR, rfl, by rw [ht]; exact e2.moved hW.alike, e3.F ht⟩) e3.2.2 d C.2.2.1
theorem zh_last {a k : Nat} {f : Nat → Int64} {i : Int32} {x : Int64} (C : z_Hx p l s m args meth c cc nL own ret hh G lo t0) (e2 : z_hp G lo s h H) (e3 : va_S (fun z : Nat => lo ≤ z) s.heap H locs) (ha : h a = some (zL k f)) (hin : vp_in i k) (d : decode cc pc = .ok (.lastore, 1))
    (kk : ∀ H1 locs1, H1.size = H.size → z_hp G lo s (z_up h a (zL k (vp_updL f i.toNatClampNeg x))) H1 → va_S (fun z : Nat => lo ≤ z) s.heap H1 locs1 → W p l e R s m args below meth c H1 locs1 cells slots Q (F0 m (pc + 1) ls rest)) :
    W p l e R s m args below meth c H locs cells slots Q (F0 m pc ls (.long x :: .int i :: .ref a :: rest)) := by
  have hK : va_K G.1 vwCl (z_tys G) s := C.2.2.2.2.2.1
  have hat := (e2 a _ ha).1 _ rfl
  refine W.last C.1.1 C.1.2.1 (cell := vp_cell (G.2 2) (k, .inr (.inl f))) hat.2 ((hK.2 2 _ rfl).1 k (fun j => .long (f j))) (fun q => by cases q) (by show ¬ (i < 0 ∨ (arrV _ _ _).slots.size ≤ _); rw [arrV_size]; exact hin) rfl rfl d fun H1 w z oq => ?_
  refine kk H1 _ z (z_upd e2 ha rfl rfl ?_ oq) (e3.put z oq hat.1)
  show H1[a]? = some (vp_cell _ _)
  rw [w, vp_cell_l, vp_cell_l, arrV_store]
  congr 2
  funext q
  by_cases hq : q = i.toNatClampNeg
  · subst hq
    simp [updV, vp_updL]
  · simp [updV, vp_updL, hq]
end ZH
/-- what a helper answers: the class's answer in the row, 0; or the exception's number -/
def hRel (h : zH) (nx ao : Nat) (oo : zV) (val : Value → Int64) (code : String → Int32) : Int32 → zH → Nat → Prop := fun v h1 n1 =>
  (∃ w h' n' f, oo = .inr (some w, h', n') ∧ v = 0 ∧ h1 = z_up h' ao (zL 1 f) ∧ f 0 = val w ∧ n1 = n') ∨ ∃ E h', oo = .inl (E, h') ∧ v = code E ∧ h1 = h' ∧ nx ≤ n1
theorem vin_0 : vp_in (0 : Int32) 1 := by unfold vp_in; decide
theorem updL_0 (f : Nat → Int64) (x : Int64) : vp_updL f (0 : Int32).toNatClampNeg x 0 = x := if_pos (by decide)
theorem z_mo_le {X : Type} {o : String ⊕ X} {a b k : Nat} (h1 : a ≤ k) (h2 : b ≤ k) : 0 + z_mo o a b ≤ k := by
  rw [Nat.zero_add]
  cases o with
  | inl _ => exact h1
  | inr _ => exact h2
theorem zc_IA : Cond.castable sIA sIA ∈ z_ws := List.mem_of_getElem? (i := 2) rfl
theorem zc_IO : Cond.castable sIO sIO ∈ z_ws := List.mem_of_getElem? (i := 3) rfl
theorem zc_IS : Cond.castable sIS sIS ∈ z_ws := List.mem_of_getElem? (i := 4) rfl
def vI : Value → Int64 := fun v => match v with
  | .int x => x.toInt64
  | _ => 0
def vZ : Value → Int64 := fun v => match v with
  | .int x => if x = 0 then 0 else 1
  | _ => 0
