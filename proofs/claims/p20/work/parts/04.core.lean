/-! THE ABSTRACT HEAP: which cells of the machine's heap a walk speaks of, and what they hold -/
abbrev zC : Type := (Nat × vp_A) ⊕ ((Nat × List Value) ⊕ Option (Nat × (Nat → Int32)))
abbrev zH : Type := Nat → Option zC
abbrev zG : Type := va_G × (Nat → ClassId)
/-- how a method ends: thrown (the class, the heap), or returned (the answer, the heap, its size) -/
abbrev zV : Type := (String × zH) ⊕ (Option Value × zH × Nat)
def z_up (h : zH) (a : Nat) (c : zC) : zH := fun q => if q = a then some c else h q
abbrev zI (n : Nat) (f : Nat → Int32) : zC := .inl (0, n, .inl f)
abbrev zQ (n : Nat) (f : Nat → Option Nat) : zC := .inl (1, n, .inr (.inr (.inr (.inr f))))
/-- an array of int[] -/
abbrev zD (n : Nat) (f : Nat → Option Nat) : zC := .inl (2, n, .inr (.inr (.inr (.inr f))))
abbrev zO (ci : Nat) (fs : List Value) : zC := .inr (.inl (ci, fs))
abbrev zE : zC := .inr (.inr none)
/-- the script -/
abbrev zT (n : Nat) (f : Nat → Int32) : zC := .inr (.inr (some (n, f)))
/-- a cell of the world for the kit's rows -/
def z_tr (G : zG) : zC → Option va_E
  | .inl a => some (.inl (G.2 a.1, a.2))
  | .inr (.inl o) => some (.inr o)
  | .inr (.inr _) => none
/-- what stands outside: the JDK's empty array, the script -/
def z_ou (lo q : Nat) (U : State) (H : Heap) : Option (Nat × (Nat → Int32)) → Prop
  | none => va_T (.object "java/lang/Object") q 0 (fun _ => .null) (fun z : Nat => lo ≤ z) U H
  | some r => va_X q r.1 r.2 U H ∧ q < H.size ∧ ¬ lo ≤ q
def z_at (G : zG) (lo : Nat) (U : State) (H : Heap) (q : Nat) (c : zC) : Prop :=
  (∀ e, z_tr G c = some e → lo ≤ q ∧ va_at G.1 vwCl (q, e) H) ∧ (∀ w, c = .inr (.inr w) → z_ou lo q U H w)
theorem z_ou.moved {lo q : Nat} {u U : State} {H : Heap} {w : Option (Nat × (Nat → Int32))} (hvm : u.vm.Alike U.vm) (h : z_ou lo q u H w) : z_ou lo q U H w := by
  cases w with
  | none => exact va_T.moved hvm h
  | some r => exact ⟨va_X.moved hvm h.1, h.2⟩
theorem z_ou.kept {lo q : Nat} {U : State} {H H1 : Heap} {w : Option (Nat × (Nat → Int32))} (h : z_ou lo q U H w) (hq : ∀ a : Nat, a < H.size → ¬ lo ≤ a → H1[a]? = H[a]?) : z_ou lo q U H1 w := by
  cases w with
  | none => exact va_T.kept h hq
  | some r =>
    have e := hq q h.2.1 h.2.2
    refine ⟨va_X.kept h.1 e, ?_, h.2.2⟩
    obtain ⟨scr, h1, -⟩ := h.1
    rw [← e] at h1
    exact (Array.getElem?_eq_some_iff.mp h1).1
def z_hp (G : zG) (lo : Nat) (U : State) (h : zH) (H : Heap) : Prop := ∀ (q : Nat) (c : zC), h q = some c → z_at G lo U H q c
abbrev z_tys (G : zG) : List (ClassId × FieldType) := [(G.2 0, .int), (G.2 1, .object "java/lang/Object"), (G.2 2, .array .int)]
def z_K (G : zG) (U : State) : Prop := va_K G.1 vwCl (z_tys G) U
def z_Z (lo t0 : Nat) (U : State) (H : Heap) : Prop :=
  va_Z "java/util/ArrayList" "DEFAULTCAPACITY_EMPTY_ELEMENTDATA" "[Ljava/lang/Object;" (.ref t0) (fun z : Nat => lo ≤ z) U H ∧
  vx_Zq Bundle.tN "UNASSIGNED_STACK" Bundle.steD (fun z : Nat => lo ≤ z) U H ∧ vx_Zq Bundle.tN "SUPPRESSED_SENTINEL" Bundle.listD (fun z : Nat => lo ≤ z) U H
/-- words that are not among the good ones: casts -/
abbrev z_ws : List Cond := [.castable RX0 "java/lang/Object", .castable RX3 "java/lang/Object",
  .castable "java/lang/IllegalArgumentException" "java/lang/IllegalArgumentException", .castable "java/lang/IndexOutOfBoundsException" "java/lang/IndexOutOfBoundsException", .castable "java/lang/IllegalStateException" "java/lang/IllegalStateException"]
/-- the texts of the class's exceptions -/
abbrev z_ss : List (String × Nat × String) := [(RX4, 115, "there are 8 stalls"), (RX4, 121, "a stall is there"), (RX4, 180, "column is not 0 to 23"), (RX4, 255, "there is no such stall"), (RX4, 267, "x or y is not 0 to 23"), (RX4, 269, "w or h is not 1 to 24"), (RX4, 271, "some cell of it is not in the square"), (RX4, 273, "drops is not 1 to 20"), (RX4, 275, "there is no such what"), (RX4, 52, "level is not 1 to 9"), (RX4, 57, "side is not 0 to 3"), (RX4, 69, "there are 10 awnings"), (RX1, 48, "there is no such awning")]
/-- .. and what the exceptions' constructors are declared to be -/
abbrev z_ds : List Cond := [.declares ⟨"java/lang/RuntimeException", "<init>", "(Ljava/lang/String;)V"⟩, .declares ⟨"java/lang/Exception", "<init>", "(Ljava/lang/String;)V"⟩, .declares ⟨"java/lang/Throwable", "<init>", "(Ljava/lang/String;)V"⟩]
def z_T (U : State) : Prop :=
  (∀ w ∈ z_ws, va_Nw w U) ∧ va_Nw (.methodLinkNest RX1 85 yX4_isCell RX4) U ∧ va_Nw (.methodLinkNest RX2 40 yX4_isCell RX4) U ∧ (va_Nw (.methodLinkNest RL 63 yX5_init RL) U ∧ (Cond.arrayOver (.array .int)).before #[] U = true) ∧ va_AO "java/lang/Object" U ∧ (∀ q ∈ z_ss, ∃ a, vk_R q.1 q.2.1 q.2.2 a U) ∧ ∀ w ∈ z_ds, va_Nw w U
theorem z_ws_castable : ∀ w ∈ z_ws, ∃ C T, w = .castable C T := by
  intro w hw
  simp only [z_ws, List.mem_cons, List.not_mem_nil, or_false] at hw
  rcases hw with rfl | rfl | rfl | rfl | rfl <;> exact ⟨_, _, rfl⟩
theorem z_ds_declares : ∀ w ∈ z_ds, ∃ y, w = .declares y := by
  intro w hw
  simp only [z_ds, List.mem_cons, List.not_mem_nil, or_false] at hw
  rcases hw with rfl | rfl | rfl <;> exact ⟨_, rfl⟩
theorem z_T.warm {s U : State} (hW : s.WarmedH U.vm) (h : z_T s) : z_T U := by
  obtain ⟨h1, h2, h3, ⟨h7, h8⟩, h4, h5, h6⟩ := h
  refine ⟨fun w hw => ?_, va_Nw.warmM hW h2, va_Nw.warmM hW h3, ⟨va_Nw.warmM hW h7, over_moved hW.alike h8⟩, va_AO.moved hW.alike h4, fun q hq => ?_, fun w hw => ?_⟩
  · obtain ⟨C, T, rfl⟩ := z_ws_castable w hw
    exact va_Nw.warmC hW (h1 _ hw)
  · obtain ⟨a, ha⟩ := h5 q hq
    exact ⟨a, vk_R.warm hW ha⟩
  · obtain ⟨y, rfl⟩ := z_ds_declares w hw
    exact va_Nw.warmD hW (h6 _ hw)
theorem z_T.same {s U : State} (hv : s.vm = U.vm) (h : z_T s) : z_T U := by
  obtain ⟨h1, h2, h3, ⟨h7, h8⟩, h4, h5, h6⟩ := h
  refine ⟨fun w hw => ?_, va_Nw.same rfl hv h2, va_Nw.same rfl hv h3, ⟨va_Nw.same rfl hv h7, over_moved (by rw [← hv]; exact Vm.Alike.refl _) h8⟩, ?_, fun q hq => ?_, fun w hw => ?_⟩
  · obtain ⟨C, T, rfl⟩ := z_ws_castable w hw
    exact va_Nw.same rfl hv (h1 _ hw)
  · exact va_AO.moved (by rw [← hv]; exact Vm.Alike.refl _) h4
  · obtain ⟨a, ha⟩ := h5 q hq
    exact ⟨a, vk_R.same hv.symm ha⟩
  · obtain ⟨y, rfl⟩ := z_ds_declares w hw
    exact va_Nw.same rfl hv (h6 _ hw)
theorem z_Z.moved {lo t0 : Nat} {u U : State} {H : Heap} (hvm : u.vm.Alike U.vm) (h : z_Z lo t0 u H) : z_Z lo t0 U H := ⟨va_Z.moved hvm h.1, vx_Zq.moved hvm h.2.1, vx_Zq.moved hvm h.2.2⟩
theorem z_Z.kept {lo t0 : Nat} {U : State} {H H1 : Heap} (h : z_Z lo t0 U H) (hq : ∀ a : Nat, a < H.size → ¬ lo ≤ a → H1[a]? = H[a]?) : z_Z lo t0 U H1 := ⟨va_Z.kept h.1 hq, vx_Zq.kept h.2.1 hq, vx_Zq.kept h.2.2 hq⟩
theorem z_at.moved {G : zG} {lo : Nat} {u U : State} {H : Heap} {q : Nat} {c : zC} (hvm : u.vm.Alike U.vm) (h : z_at G lo u H q c) : z_at G lo U H q c := ⟨h.1, fun w e => (h.2 w e).moved hvm⟩
theorem z_hp.moved {G : zG} {lo : Nat} {u U : State} {h : zH} {H : Heap} (hvm : u.vm.Alike U.vm) (hh : z_hp G lo u h H) : z_hp G lo U h H := fun q c hq => (hh q c hq).moved hvm
def z_U (G : zG) (lo t0 : Nat) (h : zH) (nx : Nat) (U : State) : Prop := U.heap.size = nx ∧ lo ≤ nx ∧ z_K G U ∧ z_Z lo t0 U U.heap ∧ z_T U ∧ z_hp G lo U h U.heap
theorem z_blind {G : zG} {lo t0 : Nat} {h : zH} {nx : Nat} {av : List Value} : FrameBlind (va_Pc av (z_U G lo t0 h nx)) := by
  intro a U g mk ⟨h0, h1, h2, h3, h4, h5, h6⟩
  exact ⟨h0, h1, h2, va_K.moved (u := U) (U := U.calling g mk a) (Vm.Alike.refl U.vm) h3, z_Z.moved (u := U) (U := U.calling g mk a) (Vm.Alike.refl U.vm) h4, z_T.same (s := U) (U := U.calling g mk a) rfl h5, z_hp.moved (u := U) (U := U.calling g mk a) (Vm.Alike.refl U.vm) h6⟩
def z_qn (G : zG) (lo : Nat) (oo : zV) : Array Value → State → Outcome → State → Prop := fun _ st oc t => ∃ (v : Option Value) (h1 : zH) (n1 : Nat), oo = .inr (v, h1, n1) ∧ oc = .returned v ∧ t.heap.size = n1 ∧ z_hp G lo t h1 t.heap ∧ va_F (fun z : Nat => lo ≤ z) st t
def z_qx (G : zG) (lo : Nat) (oo : zV) : String → State → State → Prop := fun E st t => ∃ h1 : zH, oo = .inl (E, h1) ∧ z_hp G lo t h1 t.heap ∧ va_F (fun z : Nat => lo ≤ z) st t
abbrev z_rm (fr lc mc ms : Nat) : Room := { frames := fr, cells := mc, slots := ms, locals := lc }
/-- A METHOD'S CONTRACT: from every heap that holds h, at size nx: it ends as oo says -/
def z_Met (l : Launch) (y : MethodName) (cc : ByteArray) (maxL : Nat) (ret : Option FieldType) (fr lc : Nat) (G : zG) (lo t0 : Nat) (av : List Value) (h : zH) (nx : Nat) (oo : zV) (mc ms : Nat) : Prop :=
  vx_Met l y (Cond.code y cc maxL ret :: wsL_law) (z_rm fr lc mc ms) (va_Pc av (z_U G lo t0 h nx)) (z_qn G lo oo) (z_qx G lo oo) mc ms (fun z : Nat => lo ≤ z)
/-- what a walk of a method has at hand all along -/
def z_Cx (p : Program) (l : Launch) (s : State) (m : MethodId) (args : Array Value) (meth : Method) (c : Code) (cc : ByteArray) (nL : Nat) (own : String) (ret : Option FieldType) (G : zG) (lo t0 : Nat) : Prop :=
  CallFix p m c cc nL s args wsL_law own ∧ meth.sig.returnType = ret ∧ meth.locks = false ∧ (own = RL ∨ ∀ x ∈ c.exceptionTable.toList, False) ∧ lo ≤ s.heap.size ∧ z_K G s ∧ z_Z lo t0 s s.heap ∧ z_T s
/-- a point of a walk: the machine at pc, with these locals, this stack, over any heap that holds h -/
def z_R (p : Program) (l : Launch) (e : Env) (R : Room) (s : State) (m : MethodId) (args : Array Value) (below : List Frame) (meth : Method) (c : Code) (G : zG) (lo nL cells slots : Nat) (Q : State → Prop) (pc : Nat) (lv : List (Nat × Value)) (st : List Value) (h : zH) (nx : Nat) : Prop :=
  ∀ (H : Heap) (locs : List Loc) (ls : Array Slot), H.size = nx → z_hp G lo s h H → va_S (fun z : Nat => lo ≤ z) s.heap H locs → lv_has ls nL lv → W p l e R s m args below meth c H locs cells slots Q (F0 m pc ls st)
theorem z_of {l : Launch} {y : MethodName} {cc : ByteArray} {maxL : Nat} {ret : Option FieldType} {fr lc : Nat} {G : zG} {lo t0 : Nat} {av : List Value} {h : zH} {nx : Nat} {oo : zV} {mc ms : Nat} (lv : List (Nat × Value)) (hy : plainName y.cls = true) (hn : (lg_sl av).length ≤ maxL) (hlv : lv_args 0 av = lv)
    (body : ∀ p e s m below meth c, z_Cx p l s m av.toArray meth c cc maxL y.cls ret G lo t0 → meth.name = y.name → z_R p l e (z_rm fr lc mc ms) s m av.toArray below meth c G lo maxL 0 0 (vx_MQ below (z_qn G lo oo) (z_qx G lo oo) av.toArray s mc ms (fun z : Nat => lo ≤ z)) 0 lv [] h nx) : z_Met l y cc maxL ret fr lc G lo t0 av h nx oo mc ms := by
  subst hlv
  refine vx_ofW (cc := cc) (maxL := maxL) (ret := ret) hy rfl ?_
  intro p e s m args below meth c s₁ B hml htab hv
  obtain ⟨rfl, hsz, hlo, hK, hZ, hT, hh⟩ := hv
  have hts := atoms_spec (ws := Cond.code y cc maxL ret :: wsL_law) B.pre
  have hown : s.vm.findClass y.cls = some m.cls := findClass_of_methodNamed B.named
  have hl := lv_entry av (n := maxL) hn
  rw [lg_entry_eq]
  exact body p e s m below meth c ⟨⟨B.exec, B.bytes, hml, hown, fun w hw => hts w (List.mem_cons_of_mem _ hw)⟩, B.returns, B.notSynchronized, .inr htab, by rw [hsz]; exact hlo, hK, hZ, hT⟩ (name_of_methodNamed B.named B.method).1 s.heap [] _ hsz hh va_S.rf hl
/-- from a point of a walk, what a callee asks -/
theorem z_pre {p : Program} {l : Launch} {s : State} {m : MethodId} {args : Array Value} {meth : Method} {c : Code} {cc : ByteArray} {nL : Nat} {own : String} {ret : Option FieldType} {G : zG} {lo t0 : Nat} (C : z_Cx p l s m args meth c cc nL own ret G lo t0) {h : zH} {nx : Nat} {H : Heap} {locs : List Loc} (hz : H.size = nx) (hh : z_hp G lo s h H) (hS : va_S (fun z : Nat => lo ≤ z) s.heap H locs) : ∀ U : State, U.heap = H → s.WarmedH U.vm → z_U G lo t0 h nx U := by
  intro U hU hW
  obtain ⟨-, -, -, -, hlo, hK, hZ, hT⟩ := C
  refine ⟨by rw [hU]; exact hz, by rw [← hz]; exact Nat.le_trans hlo hS.1, va_K.moved hW.alike hK, ?_, z_T.warm hW hT, by rw [hU]; exact hh.moved hW.alike⟩
  rw [hU]
  exact z_Z.moved hW.alike (hZ.kept hS.2.1)
