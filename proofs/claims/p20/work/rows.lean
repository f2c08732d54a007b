section
/-! a new array of arrays of int -/
section MNA
variable {p : Program} {l : Launch} {e : Env} {R : Room} {s : State} {m : MethodId} {args : Array Value} {below : List Frame} {meth : Method} {c : Code} {H : Heap} {locs : List Loc} {cells slots : Nat} {Q : State → Prop}
theorem z_outer0 (cA : ClassId) (N h0 : Nat) : ∀ i, Jvm.Free.Multi.outerC cA N h0 i = arrV cA N (fun j => if j < i then .ref (h0 + 1 + j) else .null)
  | 0 => by
    show ({ cls := cA, slots := Array.replicate N .null, vm := .none } : Cell) = _
    rw [arrV_new]
    congr 1
  | i + 1 => by
    show (Jvm.Free.Multi.outerC cA N h0 i).setSlot i (.ref (h0 + 1 + i)) = _
    rw [z_outer0 cA N h0 i, arrV_store]
    congr 1
    funext j
    unfold updV
    dsimp only
    by_cases h1 : j = i
    · rw [if_pos h1, if_pos (by omega), h1]
    · rw [if_neg h1]
      by_cases h2 : j < i
      · rw [if_pos h2, if_pos (by omega)]
      · rw [if_neg h2, if_neg (by omega)]
theorem z_arrVc {cA : ClassId} {N : Nat} {f g : Nat → Value} (h : ∀ j, j < N → f j = g j) : arrV cA N f = arrV cA N g := by
  show ({ cls := cA, slots := Array.ofFn (n := N) fun j => f j.val, vm := .none } : Cell) = { cls := cA, slots := Array.ofFn (n := N) fun j => g j.val, vm := .none }
  congr 2
  funext j
  exact h _ j.isLt
theorem z_outer (cA : ClassId) (N h0 : Nat) : Jvm.Free.Multi.outerC cA N h0 N = arrV cA N (fun j => .ref (h0 + 1 + j)) := by
  rw [z_outer0]
  exact z_arrVc fun j hj => if_pos hj
theorem W_mna {cc : ByteArray} (hexec : p.tables.exec = Jvm.exec) (hb : c.code = cc) {own : String} {index : Nat} (hown : s.vm.findClass own = some m.cls) (hclink : (Cond.classLink own index "[[I").before args s = true) (hover : (Cond.arrayOver (.array .int)).before args s = true) (harr : (Cond.arrayClass .int).before args s = true)
    {g : JFrame} (hg : g.method = m) (hdg : decode cc g.pc = .ok (.multianewarray index 2, 4)) {n k : Int32} {N K : Nat} {rest : List Value} (hstack : g.stack = .int k :: .int n :: rest) (hn : ¬ n < 0) (hk : ¬ k < 0) (hN : n.toNatClampNeg = N) (hK : k.toNatClampNeg = K) (hb1 : N * 4 ≤ 536870912) (hb2 : K * 4 ≤ 536870912)
    (hcells : cells + (1 + N) ≤ R.cells) (hslots : slots + (N + N * K) ≤ R.slots)
    (kk : ∀ (cA cI : ClassId) (H1 : Heap), s.vm.findClass "[[I" = some cA → s.vm.findClass "[I" = some cI → H1.size = H.size + 1 + N → (∀ q, q < H.size → H1[q]? = H[q]?) → H1[H.size]? = some (arrV cA N fun j => .ref (H.size + 1 + j)) → (∀ j, j < N → H1[H.size + 1 + j]? = some (arrV cI K fun _ => .int 0)) →
      W p l e R s m args below meth c H1 locs (cells + (1 + N)) (slots + (N + N * K)) Q { g with pc := g.pc + 4, stack := .ref H.size :: rest }) : W p l e R s m args below meth c H locs cells slots Q g := by
  intro T hT X
  subst hT hb hN hK
  obtain ⟨vm₁, cA, comp, hW, hfA, hfC, hO, hI, X1, st⟩ := X.multianewarray2F hexec (ty := .int) hown hclink hover harr hg hdg hstack hn hk hb1 hb2 (by omega) rfl rfl hcells hslots
  have hz : (T.setVm vm₁).heap.size = T.heap.size := rfl
  obtain ⟨f1, f2, -, -⟩ := Jvm.Free.Multi.fill_facts (T.setVm vm₁) cA comp n.toNatClampNeg k.toNatClampNeg (defaultValue .int) n.toNatClampNeg
  have fo := fun (a : Addr) (ha : a < T.heap.size) => Jvm.Free.Multi.fill_old (T.setVm vm₁) cA comp n.toNatClampNeg k.toNatClampNeg (defaultValue .int) (a := a) ha n.toNatClampNeg
  have fi := fun (j : Nat) (hj : j < n.toNatClampNeg) => Jvm.Free.Multi.fill_inner (T.setVm vm₁) cA comp n.toNatClampNeg k.toNatClampNeg (defaultValue .int) n.toNatClampNeg j hj
  rw [Nat.add_assoc cells 1, Nat.add_assoc slots] at X1
  generalize hT2 : Jvm.Free.Multi.fill (T.setVm vm₁) cA comp n.toNatClampNeg k.toNatClampNeg (defaultValue .int) n.toNatClampNeg = T2 at *
  obtain ⟨t, a1, b1⟩ := kk cA comp T2.heap hfA hfC f1 fo (by rw [← z_outer]; exact f2) (fun j hj => by rw [← arrV_new]; exact fi j hj) T2 rfl X1
  exact ⟨t, st t a1, b1⟩
end MNA
end
section
-- ===== PART A: goes FIRST, ahead of the names: the tables' words, and 'selects' of the private methods out of them =====
/-- a private method of a class that the tables say can be made, by its rows of tables_1 -/
def lw_okq (q : MethodName × Nat) : Prop := (q.1.cls ≠ "java/lang/invoke/MethodHandle" ∧ q.1.cls ≠ "java/lang/invoke/VarHandle") ∧ Cond.instantiable q.1.cls q.2 ∈ tables_1 ∧ Cond.privateMethod q.1 ∈ tables_1 ∧ Cond.instanceMethod q.1 ∈ tables_1
theorem lw_p0 : lw_okq (⟨"java/lang/Throwable", "fillInStackTrace", "(I)Ljava/lang/Throwable;"⟩, 6) := ⟨⟨by decide +kernel, by decide +kernel⟩, List.mem_of_getElem? (i := 178) (by decide +kernel), List.mem_of_getElem? (i := 176) (by decide +kernel), List.mem_of_getElem? (i := 177) (by decide +kernel)⟩
theorem lw_p1 : lw_okq (⟨"MarketAwnings$Canopy", "layOver", "(LMarketAwnings$Awning;)V"⟩, 5) := ⟨⟨by decide +kernel, by decide +kernel⟩, List.mem_of_getElem? (i := 31) (by decide +kernel), List.mem_of_getElem? (i := 230) (by decide +kernel), List.mem_of_getElem? (i := 231) (by decide +kernel)⟩
theorem lw_p2 : lw_okq (⟨"MarketAwnings$Shower", "dry", "()V"⟩, 5) := ⟨⟨by decide +kernel, by decide +kernel⟩, List.mem_of_getElem? (i := 80) (by decide +kernel), List.mem_of_getElem? (i := 264) (by decide +kernel), List.mem_of_getElem? (i := 265) (by decide +kernel)⟩
theorem lw_p3 : lw_okq (⟨"MarketAwnings$Shower", "land", "(IIII)V"⟩, 5) := ⟨⟨by decide +kernel, by decide +kernel⟩, List.mem_of_getElem? (i := 80) (by decide +kernel), List.mem_of_getElem? (i := 269) (by decide +kernel), List.mem_of_getElem? (i := 270) (by decide +kernel)⟩
theorem lw_p4 : lw_okq (⟨"MarketAwnings$Shower", "dripFromLevel", "(I)V"⟩, 5) := ⟨⟨by decide +kernel, by decide +kernel⟩, List.mem_of_getElem? (i := 80) (by decide +kernel), List.mem_of_getElem? (i := 282) (by decide +kernel), List.mem_of_getElem? (i := 283) (by decide +kernel)⟩
theorem lw_p5 : lw_okq (⟨"MarketAwnings$Shower", "drip", "(LMarketAwnings$Awning;I)V"⟩, 5) := ⟨⟨by decide +kernel, by decide +kernel⟩, List.mem_of_getElem? (i := 80) (by decide +kernel), List.mem_of_getElem? (i := 295) (by decide +kernel), List.mem_of_getElem? (i := 296) (by decide +kernel)⟩
theorem lw_p6 : lw_okq (⟨"MarketAwnings", "groundAt", "(II)I"⟩, 7) := ⟨⟨by decide +kernel, by decide +kernel⟩, List.mem_of_getElem? (i := 23) (by decide +kernel), List.mem_of_getElem? (i := 350) (by decide +kernel), List.mem_of_getElem? (i := 351) (by decide +kernel)⟩
theorem lw_p7 : lw_okq (⟨"MarketAwnings", "numberedStall", "(I)LMarketAwnings$Stall;"⟩, 7) := ⟨⟨by decide +kernel, by decide +kernel⟩, List.mem_of_getElem? (i := 23) (by decide +kernel), List.mem_of_getElem? (i := 382) (by decide +kernel), List.mem_of_getElem? (i := 383) (by decide +kernel)⟩
theorem lw_p8 : lw_okq (⟨"MarketAwnings", "gotBy", "(LMarketAwnings$Stall;)I"⟩, 7) := ⟨⟨by decide +kernel, by decide +kernel⟩, List.mem_of_getElem? (i := 23) (by decide +kernel), List.mem_of_getElem? (i := 390) (by decide +kernel), List.mem_of_getElem? (i := 391) (by decide +kernel)⟩
theorem lw_p9 : lw_okq (⟨"MarketAwnings$Canopy", "openSides", "(II)I"⟩, 5) := ⟨⟨by decide +kernel, by decide +kernel⟩, List.mem_of_getElem? (i := 31) (by decide +kernel), List.mem_of_getElem? (i := 422) (by decide +kernel), List.mem_of_getElem? (i := 423) (by decide +kernel)⟩
theorem lw_p10 : lw_okq (⟨"MarketAwnings$Canopy", "openAt", "(II)I"⟩, 5) := ⟨⟨by decide +kernel, by decide +kernel⟩, List.mem_of_getElem? (i := 31) (by decide +kernel), List.mem_of_getElem? (i := 426) (by decide +kernel), List.mem_of_getElem? (i := 427) (by decide +kernel)⟩
theorem lw_p11 : lw_okq (⟨"MarketAwnings$Canopy", "reach", "(II)V"⟩, 5) := ⟨⟨by decide +kernel, by decide +kernel⟩, List.mem_of_getElem? (i := 31) (by decide +kernel), List.mem_of_getElem? (i := 434) (by decide +kernel), List.mem_of_getElem? (i := 435) (by decide +kernel)⟩
theorem lw_p12 : lw_okq (⟨"MarketAwnings$Canopy", "reachAllFromQueue", "()V"⟩, 5) := ⟨⟨by decide +kernel, by decide +kernel⟩, List.mem_of_getElem? (i := 31) (by decide +kernel), List.mem_of_getElem? (i := 438) (by decide +kernel), List.mem_of_getElem? (i := 439) (by decide +kernel)⟩
theorem lw_p13 : lw_okq (⟨"MarketAwnings", "stallsNotCovered", "()I"⟩, 7) := ⟨⟨by decide +kernel, by decide +kernel⟩, List.mem_of_getElem? (i := 23) (by decide +kernel), List.mem_of_getElem? (i := 443) (by decide +kernel), List.mem_of_getElem? (i := 444) (by decide +kernel)⟩
theorem lw_p14 : lw_okq (⟨"MarketAwnings", "digestOfColumn", "(JI)J"⟩, 7) := ⟨⟨by decide +kernel, by decide +kernel⟩, List.mem_of_getElem? (i := 23) (by decide +kernel), List.mem_of_getElem? (i := 460) (by decide +kernel), List.mem_of_getElem? (i := 461) (by decide +kernel)⟩
theorem lw_p15 : lw_okq (⟨"java/util/ArrayList", "add", "(Ljava/lang/Object;[Ljava/lang/Object;I)V"⟩, 3) := ⟨⟨by decide +kernel, by decide +kernel⟩, List.mem_of_getElem? (i := 37) (by decide +kernel), List.mem_of_getElem? (i := 628) (by decide +kernel), List.mem_of_getElem? (i := 629) (by decide +kernel)⟩
def lw_privs_1 : List (MethodName × Nat) := [(⟨"java/lang/Throwable", "fillInStackTrace", "(I)Ljava/lang/Throwable;"⟩, 6), (⟨"MarketAwnings$Canopy", "layOver", "(LMarketAwnings$Awning;)V"⟩, 5), (⟨"MarketAwnings$Shower", "dry", "()V"⟩, 5), (⟨"MarketAwnings$Shower", "land", "(IIII)V"⟩, 5), (⟨"MarketAwnings$Shower", "dripFromLevel", "(I)V"⟩, 5), (⟨"MarketAwnings$Shower", "drip", "(LMarketAwnings$Awning;I)V"⟩, 5), (⟨"MarketAwnings", "groundAt", "(II)I"⟩, 7), (⟨"MarketAwnings", "numberedStall", "(I)LMarketAwnings$Stall;"⟩, 7), (⟨"MarketAwnings", "gotBy", "(LMarketAwnings$Stall;)I"⟩, 7), (⟨"MarketAwnings$Canopy", "openSides", "(II)I"⟩, 5), (⟨"MarketAwnings$Canopy", "openAt", "(II)I"⟩, 5), (⟨"MarketAwnings$Canopy", "reach", "(II)V"⟩, 5), (⟨"MarketAwnings$Canopy", "reachAllFromQueue", "()V"⟩, 5), (⟨"MarketAwnings", "stallsNotCovered", "()I"⟩, 7), (⟨"MarketAwnings", "digestOfColumn", "(JI)J"⟩, 7), (⟨"java/util/ArrayList", "add", "(Ljava/lang/Object;[Ljava/lang/Object;I)V"⟩, 3)]
theorem lw_r1 : ∀ q ∈ lw_privs_1, lw_okq q := List.forall_mem_cons.mpr ⟨lw_p0, List.forall_mem_cons.mpr ⟨lw_p1, List.forall_mem_cons.mpr ⟨lw_p2, List.forall_mem_cons.mpr ⟨lw_p3, List.forall_mem_cons.mpr ⟨lw_p4, List.forall_mem_cons.mpr ⟨lw_p5, List.forall_mem_cons.mpr ⟨lw_p6, List.forall_mem_cons.mpr ⟨lw_p7, List.forall_mem_cons.mpr ⟨lw_p8, List.forall_mem_cons.mpr ⟨lw_p9, List.forall_mem_cons.mpr ⟨lw_p10, List.forall_mem_cons.mpr ⟨lw_p11, List.forall_mem_cons.mpr ⟨lw_p12, List.forall_mem_cons.mpr ⟨lw_p13, List.forall_mem_cons.mpr ⟨lw_p14, List.forall_mem_cons.mpr ⟨lw_p15, fun _ h => absurd h List.not_mem_nil⟩⟩⟩⟩⟩⟩⟩⟩⟩⟩⟩⟩⟩⟩⟩⟩
theorem lw_p16 : lw_okq (⟨"java/util/ArrayList", "grow", "()[Ljava/lang/Object;"⟩, 3) := ⟨⟨by decide +kernel, by decide +kernel⟩, List.mem_of_getElem? (i := 37) (by decide +kernel), List.mem_of_getElem? (i := 632) (by decide +kernel), List.mem_of_getElem? (i := 633) (by decide +kernel)⟩
theorem lw_p17 : lw_okq (⟨"java/util/ArrayList", "grow", "(I)[Ljava/lang/Object;"⟩, 3) := ⟨⟨by decide +kernel, by decide +kernel⟩, List.mem_of_getElem? (i := 37) (by decide +kernel), List.mem_of_getElem? (i := 636) (by decide +kernel), List.mem_of_getElem? (i := 637) (by decide +kernel)⟩
theorem lw_p18 : lw_okq (⟨"java/util/ArrayList", "fastRemove", "([Ljava/lang/Object;I)V"⟩, 3) := ⟨⟨by decide +kernel, by decide +kernel⟩, List.mem_of_getElem? (i := 37) (by decide +kernel), List.mem_of_getElem? (i := 698) (by decide +kernel), List.mem_of_getElem? (i := 699) (by decide +kernel)⟩
theorem lw_p19 : lw_okq (⟨"MarketAwnings", "hasStallAt", "(II)Z"⟩, 7) := ⟨⟨by decide +kernel, by decide +kernel⟩, List.mem_of_getElem? (i := 23) (by decide +kernel), List.mem_of_getElem? (i := 708) (by decide +kernel), List.mem_of_getElem? (i := 709) (by decide +kernel)⟩
def lw_privs_2 : List (MethodName × Nat) := [(⟨"java/util/ArrayList", "grow", "()[Ljava/lang/Object;"⟩, 3), (⟨"java/util/ArrayList", "grow", "(I)[Ljava/lang/Object;"⟩, 3), (⟨"java/util/ArrayList", "fastRemove", "([Ljava/lang/Object;I)V"⟩, 3), (⟨"MarketAwnings", "hasStallAt", "(II)Z"⟩, 7)]
theorem lw_r2 : ∀ q ∈ lw_privs_2, lw_okq q := List.forall_mem_cons.mpr ⟨lw_p16, List.forall_mem_cons.mpr ⟨lw_p17, List.forall_mem_cons.mpr ⟨lw_p18, List.forall_mem_cons.mpr ⟨lw_p19, fun _ h => absurd h List.not_mem_nil⟩⟩⟩⟩
def lw_privs : List (MethodName × Nat) := lw_privs_1 ++ (lw_privs_2)
def lw_tbl : List Cond := k2_sels lw_privs ++ tables_1
theorem lw_privs_ok : ∀ q ∈ lw_privs, lw_okq q := by
  show ∀ q ∈ lw_privs_1 ++ (lw_privs_2), lw_okq q
  exact List.forall_mem_append.mpr ⟨lw_r1, lw_r2⟩
/-- the streams that the claim lets the run draw from -/
abbrev lw_cs : List Choice := [Jvm.Choice.named "NaN.bits"]
theorem lw_bits : nanBits ∈ lw_cs := by first | decide | exact List.mem_cons_self | simp [lw_cs, nanBits]
/-! ===== BEGIN words of one list among another's, by their places ===== -/
theorem goodIn_r {big : List Cond} (ws : List Cond) (ps : List Nat) (hp : ws = ps.filterMap (fun i => big[i]?)) (h : ws.all goodWord = true) : GoodIn big ws := by
  intro w hw
  have h1 := List.all_eq_true.mp h w hw
  rw [hp] at hw
  obtain ⟨i, -, hi⟩ := List.mem_filterMap.mp hw
  have hm : w ∈ big := by first | exact List.mem_of_getElem? hi | exact List.getElem?_mem hi
  exact ⟨hm, good_of_word h1⟩
theorem goodIn_app {big a b : List Cond} (ha : GoodIn big a) (hb : GoodIn big b) : GoodIn big (a ++ b) := fun w h => (List.mem_append.mp h).elim (ha w) (hb w)
theorem goodIn_ca {big a b : List Cond} {c : Cond} (ha : GoodIn big (c :: a)) (hb : GoodIn big b) : GoodIn big (c :: (a ++ b)) := fun w h => (List.mem_cons.mp h).elim (fun e => ha w (List.mem_cons.mpr (Or.inl e))) (fun h => (List.mem_append.mp h).elim (fun h => ha w (List.mem_cons.mpr (Or.inr h))) (hb w))
theorem goodIn_sub {big ws : List Cond} (hm : ∀ w ∈ ws, w ∈ big) (h : ws.all goodWord = true) : GoodIn big ws := fun w hw => ⟨hm w hw, good_of_word (List.all_eq_true.mp h w hw)⟩
/-! ===== END ===== -/



/-! ===== BEGIN exceptions that leave a method, and their catching by the caller (launches without stack traces) ===== -/
section VXA
/-! The laws vx_back, vx_callV, vx_callS, vx_callSW, vx_throw0, vx_throwS follow proofs of the library, with one case more: JvmDerived/Free/Laws.lean (Back.of_free), Shelf42/LK1.lean (callV, callS), Shelf/KitTraced.lean (throwNew0V, throwNewS). -/
/-- where a method has thrown q: the class by its name, the cell, what was written, the world -/
def vx_T (XC : String → State → State → Prop) (st : State) (q : Addr) (t : State) (mc ms : Nat) (free : Addr → Prop) : Prop :=
  ∃ (E : String) (ce : Cell) (L : List Loc), XC E st t ∧ t.heap[q]? = some ce ∧ ce.vm = .none ∧ st.vm.findClass E = some ce.cls ∧ st.WarmedH t.vm ∧ st.sameButNew ({ t with vm := st.vm } : State) L mc ms ∧ ∀ z ∈ L, free z.base
def vx_Q (Qc : Array Value → State → Outcome → State → Prop) (XC : String → State → State → Prop) (mc ms : Nat) (free : Addr → Prop) : Array Value → State → Outcome → State → Prop := fun a st o t =>
  (Qc a st o t ∧ ∃ L, FrameEnd st o t L mc ms ∧ ∀ q ∈ L, free q.base) ∨ ∃ q, o = .threw q ∧ vx_T XC st q t mc ms free
/-- a callee that returns or throws -/
def vx_Met (l : Launch) (y : MethodName) (ws : List Cond) (rm : Room) (Pc : Array Value → State → Prop) (Qc : Array Value → State → Outcome → State → Prop) (XC : String → State → State → Prop) (mc ms : Nat) (free : Addr → Prop) : Prop :=
  MetFree l y (headSpec ws rm) Pc (fun _ _ _ _ _ => True) (vx_Q Qc XC mc ms free)
def vx_Post (XC : String → State → State → Prop) (mc ms : Nat) (free : Addr → Prop) : Pt → Array Value → Addr → Pt → Prop := fun A a q B =>
  ∃ (g : JFrame) (mk : MethodId) (t : State) (L : List Loc) (E : String) (ce : Cell), B.U.heap = t.heap ∧ B.U.vm = t.vm ∧ XC E (A.U.calling g mk a) t ∧ t.heap[q]? = some ce ∧ ce.vm = .none ∧ A.U.vm.findClass E = some ce.cls ∧ B.locs = A.locs ++ L ∧ (∀ z ∈ L, free z.base) ∧ B.cells = A.cells + mc ∧ B.slots = A.slots + ms
def vx_Back (l : Launch) (R : Room) (p : Program) (e : Env) (below : List Frame) (s : State) (sargs : Array Value) (y : MethodName) (len W9 : Nat)
    (Pre : Pt → Array Value → Prop) (Post : Pt → Array Value → Option Value → Pt → Prop) (PostX : Pt → Array Value → Addr → Pt → Prop) : Prop :=
  ∀ (m : MethodId) (meth : Method) (c : Code) (A : Pt) (g : JFrame) (ig : Instr) (mk : MethodId) (a : Array Value),
    Stand p l e R s m sargs below meth c A.U A.locs A.cells A.slots → g.method = m → g.locals.size = c.maxLocals → decode c.code g.pc = .ok (ig, len) →
    2 * g.monitorRoom + (g.stack.map fun v => v.category).sum ≤ W9 → A.U.methodNamed? y = some mk → Pre A a →
    (∃ (v : Option Value) (B : Pt), Stand p l e R s m sargs below meth c B.U B.locs B.cells B.slots ∧ Post A a v B ∧
      Steps p.tables e below (doInvoke e (A.U.setTop g) [] mk a).1 (B.U.setTop { g with pc := g.pc + len, stack := v.toList ++ g.stack })) ∨
    (∃ (q : Addr) (B : Pt), Stand p l e R s m sargs below meth c B.U B.locs B.cells B.slots ∧ PostX A a q B ∧
      Steps p.tables e below (doInvoke e (A.U.setTop g) [] mk a).1 ((B.U.setTop g).pushFrame (.throwing q)))
section Payer
variable {l : Launch} {R : Room} {p : Program} {e : Env} {below : List Frame} {s : State} {sargs : Array Value} {y : MethodName} {len W9 : Nat}
theorem vx_back {ws : List Cond} {rm : Room} {Pc : Array Value → State → Prop} {Qc : Array Value → State → Outcome → State → Prop} {XC : String → State → State → Prop} {mc ms : Nat} {free : Addr → Prop} {bytes : ByteArray} {maxL : Nat} {ret : Option FieldType}
    (hM : vx_Met l y ws rm Pc Qc XC mc ms free) (hblind : FrameBlind Pc) (hrc : rm.cells = mc) (hrs : rm.slots = ms)
    (hframes : rm.frames + 1 ≤ R.frames) (hlocals : W9 + (maxL + 11) + rm.locals ≤ R.locals)
    (hws : ∀ w ∈ ws, ∀ a' U, s.WarmedH U.vm → w.before a' U = true) (hcode : Cond.code y bytes maxL ret ∈ ws) (hinit : ∀ a' U, s.WarmedH U.vm → (Cond.initialized y.cls).before a' U = true) :
    vx_Back l R p e below s sargs y len W9 (PreOf R mc ms Pc) (PostOf Qc mc ms free) (vx_Post XC mc ms free) := by
  intro m meth c A g ig mk a X hg hsize hdg hW hn hp
  have h1 : (headSpec ws rm).pre.before a A.U = true := atoms_intro fun w hw => hws w hw _ _ X.warmed
  have h2 : (Cond.code y bytes maxL ret).before a A.U = true := hws _ hcode _ _ X.warmed
  have h3 : (Cond.initialized y.cls).before a A.U = true := hinit _ _ X.warmed
  have h4 : A.cells + (headSpec ws rm).room.cells ≤ R.cells := by rw [show (headSpec ws rm).room.cells = mc from hrc]; exact hp.1
  have h5 : A.slots + (headSpec ws rm).room.slots ≤ R.slots := by rw [show (headSpec ws rm).room.slots = ms from hrs]; exact hp.2.1
  have hPc : Pc a (A.U.calling g mk a) := hblind _ _ _ _ hp.2.2
  obtain ⟨U, Ls, c0, s0⟩ := A
  dsimp only [Pt.U, Pt.locs, Pt.cells, Pt.slots] at h1 h2 h3 h4 h5 X hn hPc ⊢
  obtain ⟨methY, cY, hmY, hcY, -, hlY, -, -, -, -⟩ := Cond.code_spec hn h2
  obtain ⟨kY, hkY, -⟩ := className_of_methodNamed hn
  have hinitY : kY.init = .initialized := Cond.initialized_spec (findClass_of_methodNamed hn) hkY h3
  have h : At U g.method c below := by rw [hg]; exact X.here
  have hlocals9 : W9 + (maxL + 11) + (headSpec ws rm).room.locals ≤ R.locals := hlocals
  have happ : (headSpec ws rm).appliesLoose y e.platform (U.calling g mk a) = true :=
    Spec.appliesLoose_calling (g := g) h hdg hn hkY hinitY
      (X.room_calling (g := g) (R' := (headSpec ws rm).room) hsize hmY hcY hframes (by rw [hlY]; omega) h4 h5) h1
  obtain ⟨mid, hmid⟩ := h.above
  have hfr : (U.setTop g).frames = (.java g :: mid) ++ below := by rw [State.frames_setTop' g h.top, hmid]; rfl
  obtain ⟨o, s₂, hsteps, -, hend, hq⟩ := Steps.callFree hM p X.admits X.cas X.clock (acts := []) hfr happ hPc trivial
  have hq' : vx_Q Qc XC mc ms free a (U.calling g mk a) o s₂ := hq
  rw [State.frames_setTop' g h.top] at hend
  obtain ⟨g₀, hg0⟩ := Option.isSome_iff_exists.mp h.top
  obtain ⟨r, hr⟩ := State.topJava?_eq_some.mp hg0
  have hr' : (({ U with heap := s₂.heap, slotsUsed := s₂.slotsUsed } : State).setVm s₂.vm).frames = .java g₀ :: r := hr
  rcases hq' with ⟨hqc, L, hfe, hL⟩ | ⟨q, rfl, E, ce, L, hx, hce, hcv, hcl, hW₂, hsm, hL⟩
  · obtain ⟨⟨v, rfl⟩, hW₂, e2, q2, q3, q4, q5, q6⟩ := id hfe
    have e3 : s₂ = ({ (U.calling g mk a).setFrames s₂.frames with heap := s₂.heap, slotsUsed := s₂.slotsUsed } : State).setVm s₂.vm := by
      have : s₂ = ({ s₂ with vm := (U.calling g mk a).vm } : State).setVm s₂.vm := rfl
      rw [e2] at this
      exact this
    obtain ⟨c₂, i₂, len₂, hc₂, hd₂, hf₂⟩ := hend
    have hW' : U.WarmedH s₂.vm := hW₂
    have hcc : c₂ = c := by
      have h1 : s₂.code? g.method = U.code? g.method := by
        rw [State.code?_eq, State.code?_eq, hW'.alike.method?]
      exact Option.some.inj (hc₂.symm.trans (h1.trans h.code))
    subst hcc
    have hlen : len₂ = len := by rw [hdg] at hd₂; cases hd₂; rfl
    subst hlen
    have hs₂ : s₂ = (({ U with heap := s₂.heap, slotsUsed := s₂.slotsUsed } : State).setVm s₂.vm).setTop { g with pc := g.pc + len₂, stack := v.toList ++ g.stack } := by
      refine e3.trans ?_
      rw [hf₂, State.calling_eq h.top, State.setFrames_setFrames, State.setTop_of_frames _ hr', hr]
      rfl
    have hsame : U.sameButNew ({ U with heap := s₂.heap, slotsUsed := s₂.slotsUsed } : State) L mc ms := by
      refine ⟨?_, q2, q3, q4, q5, q6⟩
      obtain ⟨t, ht, -⟩ := State.frames_cons hr
      show ({ U with heap := s₂.heap, slotsUsed := s₂.slotsUsed } : State) = { U.setFrames U.frames with heap := s₂.heap, slotsUsed := s₂.slotsUsed }
      rw [State.setFrames_self ht]
    subst hg
    refine Or.inl ⟨v, ⟨(({ U with heap := s₂.heap, slotsUsed := s₂.slotsUsed } : State).setVm s₂.vm), Ls ++ L, c0 + mc, s0 + ms⟩,
      ⟨X.admits, X.cas, X.clock, X.frames, X.room, X.hears, X.method, X.code, (X.here.setHeapUsed s₂.heap s₂.slotsUsed).setVm hW'.alike, X.tail, State.WarmedH.trans X.warmed hW', X.limits, X.bytes, X.same.trans (hsame.setVm s.vm)⟩,
      ⟨g, mk, s₂, L, rfl, rfl, hqc, rfl, hL, rfl, rfl⟩, ?_⟩
    show Steps p.tables e below _ ((({ U with heap := s₂.heap, slotsUsed := s₂.slotsUsed } : State).setVm s₂.vm).setTop { g with pc := g.pc + len₂, stack := v.toList ++ g.stack })
    rw [← hs₂]
    exact hsteps
  · obtain ⟨e2, q2, q3, q4, q5, q6⟩ := id hsm
    have e3 : s₂ = ({ (U.calling g mk a).setFrames s₂.frames with heap := s₂.heap, slotsUsed := s₂.slotsUsed } : State).setVm s₂.vm := by
      have : s₂ = ({ s₂ with vm := (U.calling g mk a).vm } : State).setVm s₂.vm := rfl
      rw [e2] at this
      exact this
    have hf₂ : s₂.frames = .throwing q :: .java g :: U.frames.tail := hend
    have hW' : U.WarmedH s₂.vm := hW₂
    have hs₂ : s₂ = ((({ U with heap := s₂.heap, slotsUsed := s₂.slotsUsed } : State).setVm s₂.vm).setTop g).pushFrame (.throwing q) := by
      refine e3.trans ?_
      rw [hf₂, State.calling_eq h.top, State.setFrames_setFrames, State.pushFrame, State.frames_setTop _ hr', State.setTop_of_frames _ hr', State.setFrames_setFrames, hr]
      rfl
    have hsame : U.sameButNew ({ U with heap := s₂.heap, slotsUsed := s₂.slotsUsed } : State) L mc ms := by
      refine ⟨?_, q2, q3, q4, q5, q6⟩
      obtain ⟨t, ht, -⟩ := State.frames_cons hr
      show ({ U with heap := s₂.heap, slotsUsed := s₂.slotsUsed } : State) = { U.setFrames U.frames with heap := s₂.heap, slotsUsed := s₂.slotsUsed }
      rw [State.setFrames_self ht]
    subst hg
    refine Or.inr ⟨q, ⟨(({ U with heap := s₂.heap, slotsUsed := s₂.slotsUsed } : State).setVm s₂.vm), Ls ++ L, c0 + mc, s0 + ms⟩,
      ⟨X.admits, X.cas, X.clock, X.frames, X.room, X.hears, X.method, X.code, (X.here.setHeapUsed s₂.heap s₂.slotsUsed).setVm hW'.alike, X.tail, State.WarmedH.trans X.warmed hW', X.limits, X.bytes, X.same.trans (hsame.setVm s.vm)⟩,
      ⟨g, mk, s₂, L, E, ce, rfl, rfl, hx, hce, hcv, hcl, rfl, hL, rfl, rfl⟩, ?_⟩
    show Steps p.tables e below _ (((({ U with heap := s₂.heap, slotsUsed := s₂.slotsUsed } : State).setVm s₂.vm).setTop g).pushFrame (.throwing q))
    rw [← hs₂]
    exact hsteps
end Payer
section Calls
variable {p : Program} {l : Launch} {e : Env} {R : Room} {s : State} {m : MethodId} {args : Array Value} {below : List Frame} {meth : Method} {c : Code} {T : State} {locs : List Loc} {cells slots : Nat}
theorem vx_callV (X : Stand p l e R s m args below meth c T locs cells slots) (hexec : p.tables.exec = Jvm.exec) {own C : String} {index : Nat} {y : MethodName} {bytes : ByteArray} {maxL : Nat} {ret : Option FieldType}
    (hown : s.vm.findClass own = some m.cls) (hlink : (Cond.methodLink own index y).before args s = true) (hinst : (Cond.instanceMethod y).before args s = true) (hsel : (Cond.selects C y y).before args s = true)
    (hcode : (Cond.code y bytes maxL ret).before args s = true) (hy : y.cls ≠ "java/lang/invoke/MethodHandle" ∧ y.cls ≠ "java/lang/invoke/VarHandle")
    {W9 : Nat} {Pre : Pt → Array Value → Prop} {Post : Pt → Array Value → Option Value → Pt → Prop} {PostX : Pt → Array Value → Addr → Pt → Prop} (hK : vx_Back l R p e below s args y 3 W9 Pre Post PostX)
    {b : Addr} {cellB : Cell} (hcell : T.heap[b]? = some cellB) (hobj : cellB.vm.isStatics = false) (hcls : s.vm.findClass C = some cellB.cls)
    {g : JFrame} (hg : g.method = m) (hsize : g.locals.size = c.maxLocals) {argsL rest : List Value} (hlen : ∀ sig, parseMethodDescriptor y.desc = some sig → argsL.length = sig.parameters.length)
    (hstack : g.stack = argsL.reverse ++ .ref b :: rest) (hW : 2 * g.monitorRoom + (rest.map fun v => v.category).sum ≤ W9) (hdg : decode c.code g.pc = .ok (.invokevirtual index, 3))
    (hpre : ∀ vm₁, s.WarmedH vm₁ → Pre ⟨T.setVm vm₁, locs, cells, slots⟩ (Value.ref b :: argsL).toArray) :
    (∃ (v : Option Value) (vm₁ : Vm) (B : Pt), s.WarmedH vm₁ ∧ Stand p l e R s m args below meth c B.U B.locs B.cells B.slots ∧ Post ⟨T.setVm vm₁, locs, cells, slots⟩ (Value.ref b :: argsL).toArray v B ∧
      ∀ target, Steps p.tables e below (B.U.setTop { g with pc := g.pc + 3, stack := v.toList ++ rest }) target → Steps p.tables e below (T.setTop g) target) ∨
    (∃ (q : Addr) (vm₁ : Vm) (B : Pt), s.WarmedH vm₁ ∧ Stand p l e R s m args below meth c B.U B.locs B.cells B.slots ∧ PostX ⟨T.setVm vm₁, locs, cells, slots⟩ (Value.ref b :: argsL).toArray q B ∧
      Steps p.tables e below (T.setTop g) ((B.U.setTop { g with stack := rest }).pushFrame (.throwing q))) := by
  obtain ⟨mk, methM, hnamed, hmethM, hstM, habM⟩ := Cond.instanceMethod_spec hinst
  obtain ⟨methM', cM, hmethM', -, -, -, -, -, -, hsigM⟩ := Cond.code_spec hnamed hcode
  cases hmethM.symm.trans hmethM'
  obtain ⟨c2, r2, m2, q1, q2, q3, q4, kP, hkP, hkPi⟩ := Cond.selects_spec hsel
  cases hcls.symm.trans q1
  cases (State.methodFound?_of_named hnamed hy).symm.trans q2
  cases hnamed.symm.trans q3
  have hselP : selectMethod e.platform s.vm cellB.cls mk = .method mk := by rw [Launch.admits_selectMethod X.admits]; exact q4
  obtain ⟨vm₁, X₁, hstep₁⟩ := X.invokevirtual hexec hown hlink hnamed hmethM hstM hkP hkPi hy (a := b) (cell := cellB) hcell
    (fun z h => by rw [h] at hobj; cases hobj) hselP hmethM habM hkP hkPi (g := g) hg (argsL := argsL) (rest := rest) (hlen _ hsigM) hstack hdg
  rcases hK m meth c ⟨T.setVm vm₁, locs, cells, slots⟩ { g with stack := rest } (.invokevirtual index) mk (Value.ref b :: argsL).toArray X₁ hg hsize hdg hW (X₁.named hnamed) (hpre vm₁ X₁.warmed) with ⟨v, B, X', hpost, hsteps⟩ | ⟨q, B, X', hpost, hsteps⟩
  · exact Or.inl ⟨v, vm₁, B, X₁.warmed, X', hpost, fun target h => hstep₁ _ fun acts => by rw [doInvoke_state]; exact hsteps.trans h⟩
  · exact Or.inr ⟨q, vm₁, B, X₁.warmed, X', hpost, hstep₁ _ fun acts => by rw [doInvoke_state]; exact hsteps⟩
theorem vx_callS (X : Stand p l e R s m args below meth c T locs cells slots) (hexec : p.tables.exec = Jvm.exec) {own : String} {index : Nat} {y : MethodName} {bytes : ByteArray} {maxL : Nat} {ret : Option FieldType}
    (hown : s.vm.findClass own = some m.cls) (hlink : (Cond.methodLink own index y).before args s = true) (hstat : (Cond.static y).before args s = true) (hinit : (Cond.initialized y.cls).before args s = true)
    (hcode : (Cond.code y bytes maxL ret).before args s = true) (hy : y.cls ≠ "java/lang/invoke/MethodHandle" ∧ y.cls ≠ "java/lang/invoke/VarHandle")
    {W9 : Nat} {Pre : Pt → Array Value → Prop} {Post : Pt → Array Value → Option Value → Pt → Prop} {PostX : Pt → Array Value → Addr → Pt → Prop} (hK : vx_Back l R p e below s args y 3 W9 Pre Post PostX)
    {g : JFrame} (hg : g.method = m) (hsize : g.locals.size = c.maxLocals) {argsL rest : List Value} (hlen : ∀ sig, parseMethodDescriptor y.desc = some sig → argsL.length = sig.parameters.length)
    (hstack : g.stack = argsL.reverse ++ rest) (hW : 2 * g.monitorRoom + (rest.map fun v => v.category).sum ≤ W9) (hdg : decode c.code g.pc = .ok (.invokestatic index, 3))
    (hpre : ∀ vm₁, s.WarmedH vm₁ → Pre ⟨T.setVm vm₁, locs, cells, slots⟩ argsL.toArray) :
    (∃ (v : Option Value) (vm₁ : Vm) (B : Pt), s.WarmedH vm₁ ∧ Stand p l e R s m args below meth c B.U B.locs B.cells B.slots ∧ Post ⟨T.setVm vm₁, locs, cells, slots⟩ argsL.toArray v B ∧
      ∀ target, Steps p.tables e below (B.U.setTop { g with pc := g.pc + 3, stack := v.toList ++ rest }) target → Steps p.tables e below (T.setTop g) target) ∨
    (∃ (q : Addr) (vm₁ : Vm) (B : Pt), s.WarmedH vm₁ ∧ Stand p l e R s m args below meth c B.U B.locs B.cells B.slots ∧ PostX ⟨T.setVm vm₁, locs, cells, slots⟩ argsL.toArray q B ∧
      Steps p.tables e below (T.setTop g) ((B.U.setTop { g with stack := rest }).pushFrame (.throwing q))) := by
  obtain ⟨mk, hnamed⟩ := Cond.code_named hcode
  obtain ⟨methM, cM, hmethM, -, -, -, -, -, -, hsigM⟩ := Cond.code_spec hnamed hcode
  have hstatic : methM.isStatic = true := Cond.static_spec hnamed hmethM hstat
  obtain ⟨kP, hkP, -⟩ := className_of_methodNamed hnamed
  have hinitP : kP.init = .initialized := Cond.initialized_spec (findClass_of_methodNamed hnamed) hkP hinit
  obtain ⟨vm₁, X₁, hstep₁⟩ := X.invokestatic hexec hown hlink hnamed hmethM hstatic hkP hinitP hy (g := g) hg (argsL := argsL) (rest := rest) (hlen _ hsigM) hstack hdg
  rcases hK m meth c ⟨T.setVm vm₁, locs, cells, slots⟩ { g with stack := rest } (.invokestatic index) mk argsL.toArray X₁ hg hsize hdg hW (X₁.named hnamed) (hpre vm₁ X₁.warmed) with ⟨v, B, X', hpost, hsteps⟩ | ⟨q, B, X', hpost, hsteps⟩
  · exact Or.inl ⟨v, vm₁, B, X₁.warmed, X', hpost, fun target h => hstep₁ _ fun acts => by rw [doInvoke_state]; exact hsteps.trans h⟩
  · exact Or.inr ⟨q, vm₁, B, X₁.warmed, X', hpost, hstep₁ _ fun acts => by rw [doInvoke_state]; exact hsteps⟩
end Calls
theorem vx_cls {s : State} {T : State} {vm₁ : Vm} {E : String} {k : ClassId} (hW : s.WarmedH vm₁) (h : (T.setVm vm₁).vm.findClass E = some k) : s.vm.findClass E = some k := by
  have h1 : vm₁.findClass E = some k := h
  rw [hW.alike.findClass] at h1
  exact h1
/-- the method's frame g, with q thrown over it -/
def vx_W (p : Program) (l : Launch) (e : Env) (R : Room) (s : State) (m : MethodId) (args : Array Value) (below : List Frame) (meth : Method) (c : Code) (H : Heap) (locs : List Loc) (cells slots : Nat) (Q : State → Prop) (g : JFrame) (q : Addr) : Prop :=
  ∀ T : State, T.heap = H → Stand p l e R s m args below meth c T locs cells slots → ∃ t, Steps p.tables e below ((T.setTop g).pushFrame (.throwing q)) t ∧ Q t
def vx_Run (p : Program) (l : Launch) (e : Env) (R : Room) (s : State) (m : MethodId) (args : Array Value) (below : List Frame) (meth : Method) (c : Code) (H : Heap) (locs : List Loc) (cells slots mc ms : Nat) (g : JFrame) (rest : List Value) (Qa : State → Outcome → State → Prop) (XC : String → State → State → Prop) (free : Addr → Prop) : Prop :=
  ∀ T : State, T.heap = H → Stand p l e R s m args below meth c T locs cells slots →
    (∃ (v : Option Value) (st₀ t T' : State) (L : List Loc), st₀.heap = H ∧ Stand p l e R s m args below meth c T' (locs ++ L) (cells + mc) (slots + ms) ∧ (∀ q ∈ L, free q.base) ∧ T'.heap = t.heap ∧ T'.vm = t.vm ∧ Qa st₀ (.returned v) t ∧
      Goes p e below T g T' { g with pc := g.pc + 3, stack := v.toList ++ rest }) ∨
    (∃ (q : Addr) (st₀ t T' : State) (L : List Loc) (E : String) (ce : Cell), st₀.heap = H ∧ Stand p l e R s m args below meth c T' (locs ++ L) (cells + mc) (slots + ms) ∧ (∀ z ∈ L, free z.base) ∧ T'.heap = t.heap ∧ T'.vm = t.vm ∧ XC E st₀ t ∧ t.heap[q]? = some ce ∧ ce.vm = .none ∧ s.vm.findClass E = some ce.cls ∧
      Steps p.tables e below (T.setTop g) ((T'.setTop { g with stack := rest }).pushFrame (.throwing q)))
def vx_X {S : Type} (px : S → Prop) (B : String → S → State → Prop) (A : Nat → Prop) : String → State → State → Prop := fun E st t => ∃ u : S, px u ∧ B E u t ∧ va_F A st t
section Runs
variable {p : Program} {l : Launch} {e : Env} {R : Room} {s : State} {m : MethodId} {args : Array Value} {below : List Frame} {meth : Method} {c : Code} {H : Heap} {locs : List Loc} {cells slots : Nat}
variable {y : MethodName} {bytes cc : ByteArray} {maxL nL mc ms n index : Nat} {ret : Option FieldType} {ws : List Cond} {rm : Room} {Pc : Array Value → State → Prop} {Qc : Array Value → State → Outcome → State → Prop} {XC : String → State → State → Prop} {free : Addr → Prop} {Ts : List Cond} {own C : String} {b : Addr} {As rest : List Value} {g : JFrame}
theorem vx_callBack (cb : CallB R s args own index y bytes maxL ret ws rm mc ms n) (hM : vx_Met l y ws rm Pc Qc XC mc ms free) (hbl : FrameBlind Pc) : vx_Back l R p e below s args y 3 8 (PreOf R mc ms Pc) (PostOf Qc mc ms free) (vx_Post XC mc ms free) := by
  obtain ⟨hrc, hrs, hfr, hlo, hws, hcw, -, hini, -⟩ := cb
  exact vx_back (bytes := bytes) (maxL := maxL) (ret := ret) hM hbl hrc hrs hfr hlo hws hcw (fun a' U hW => word_at hW (Or.inl (by first | rfl | simp [Cond.onTables, Cond.keeps, Cond.steady])) hini)
theorem vx_runV (S : CallFix p m c cc nL s args Ts own) (hM : vx_Met l y ws rm Pc Qc XC mc ms free) (cw : CallW R s args own C index y bytes maxL ret ws rm mc ms n) (hp : PreV s H C b Pc As)
    (hg : g.method = m) (hn : As.length = n) (hsize : g.locals.size = nL) (hstack : g.stack = As.reverse ++ .ref b :: rest) (hW : 2 * g.monitorRoom + (rest.map fun v => v.category).sum ≤ 8) (hdg : decode cc g.pc = .ok (.invokevirtual index, 3)) (hf : cells + mc ≤ R.cells ∧ slots + ms ≤ R.slots) :
    vx_Run p l e R s m args below meth c H locs cells slots mc ms g rest (Qc (Value.ref b :: As).toArray) XC free := by
  have hK : vx_Back l R p e below s args y 3 8 (PreOf R mc ms Pc) (PostOf Qc mc ms free) (vx_Post XC mc ms free) := vx_callBack cw.1 hM hp.1
  obtain ⟨⟨-, -, -, -, -, -, hcode, -, hy, hlen, hl⟩, hin, hse⟩ := cw
  obtain ⟨hx, hb, hml, ho, -⟩ := S
  obtain ⟨-, ⟨cellB, hcB, hoB, hclB⟩, hPc⟩ := hp
  intro T hT X
  rcases vx_callV X hx (C := C) (bytes := bytes) (maxL := maxL) (ret := ret) ho hl hin hse hcode hy hK (by rw [hT]; exact hcB) hoB hclB hg (hsize.trans hml.symm) (argsL := As) (rest := rest) (fun sig h => hn.trans (hlen sig h)) hstack hW (by rw [hb]; exact hdg)
    (fun vm₁ hW₁ => ⟨hf.1, hf.2, hPc (T.setVm vm₁) hT hW₁⟩) with ⟨v, vm₁, ⟨U', l2, c2, s2⟩, hW₁, X', ⟨g', mk, t, L, e1, e2, hq, h1, hL, h2, h3⟩, st⟩ | ⟨q, vm₁, ⟨U', l2, c2, s2⟩, hW₁, X', ⟨g', mk, t, L, E, ce, e1, e2, hq, hce, hcv, hcl, h1, hL, h2, h3⟩, st⟩
  · dsimp only [Pt.U, Pt.locs, Pt.cells, Pt.slots] at X' e1 e2 h1 h2 h3 st
    subst h1; subst h2; subst h3
    exact Or.inl ⟨v, (T.setVm vm₁).calling g' mk (Value.ref b :: As).toArray, t, U', L, hT, X', hL, e1, e2, hq, st⟩
  · dsimp only [Pt.U, Pt.locs, Pt.cells, Pt.slots] at X' e1 e2 h1 h2 h3 st hcl
    subst h1; subst h2; subst h3
    exact Or.inr ⟨q, (T.setVm vm₁).calling g' mk (Value.ref b :: As).toArray, t, U', L, E, ce, hT, X', hL, e1, e2, hq, hce, hcv, vx_cls hW₁ hcl, st⟩
theorem vx_runS (S : CallFix p m c cc nL s args Ts own) (hM : vx_Met l y ws rm Pc Qc XC mc ms free) (cw : CallB R s args own index y bytes maxL ret ws rm mc ms n ∧ (Cond.static y).before args s = true) (hp : PreS s H Pc As)
    (hg : g.method = m) (hn : As.length = n) (hsize : g.locals.size = nL) (hstack : g.stack = As.reverse ++ rest) (hW : 2 * g.monitorRoom + (rest.map fun v => v.category).sum ≤ 8) (hdg : decode cc g.pc = .ok (.invokestatic index, 3)) (hf : cells + mc ≤ R.cells ∧ slots + ms ≤ R.slots) :
    vx_Run p l e R s m args below meth c H locs cells slots mc ms g rest (Qc As.toArray) XC free := by
  have hK : vx_Back l R p e below s args y 3 8 (PreOf R mc ms Pc) (PostOf Qc mc ms free) (vx_Post XC mc ms free) := vx_callBack cw.1 hM hp.1
  obtain ⟨⟨-, -, -, -, -, -, hcode, hini, hy, hlen, hl⟩, hstt⟩ := cw
  obtain ⟨hx, hb, hml, ho, -⟩ := S
  intro T hT X
  rcases vx_callS X hx (bytes := bytes) (maxL := maxL) (ret := ret) ho hl hstt hini hcode hy hK hg (hsize.trans hml.symm) (argsL := As) (rest := rest) (fun sig h => hn.trans (hlen sig h)) hstack hW (by rw [hb]; exact hdg)
    (fun vm₁ hW₁ => ⟨hf.1, hf.2, hp.2 (T.setVm vm₁) hT hW₁⟩) with ⟨v, vm₁, ⟨U', l2, c2, s2⟩, hW₁, X', ⟨g', mk, t, L, e1, e2, hq, h1, hL, h2, h3⟩, st⟩ | ⟨q, vm₁, ⟨U', l2, c2, s2⟩, hW₁, X', ⟨g', mk, t, L, E, ce, e1, e2, hq, hce, hcv, hcl, h1, hL, h2, h3⟩, st⟩
  · dsimp only [Pt.U, Pt.locs, Pt.cells, Pt.slots] at X' e1 e2 h1 h2 h3 st
    subst h1; subst h2; subst h3
    exact Or.inl ⟨v, (T.setVm vm₁).calling g' mk As.toArray, t, U', L, hT, X', hL, e1, e2, hq, st⟩
  · dsimp only [Pt.U, Pt.locs, Pt.cells, Pt.slots] at X' e1 e2 h1 h2 h3 st hcl
    subst h1; subst h2; subst h3
    exact Or.inr ⟨q, (T.setVm vm₁).calling g' mk As.toArray, t, U', L, E, ce, hT, X', hL, e1, e2, hq, hce, hcv, vx_cls hW₁ hcl, st⟩
end Runs
section Rows
variable {p : Program} {l : Launch} {e : Env} {R : Room} {s : State} {m : MethodId} {args : Array Value} {below : List Frame} {meth : Method} {c : Code} {H : Heap} {locs : List Loc} {cells slots : Nat} {Q : State → Prop}
variable {mc ms : Nat} {free : Addr → Prop} {A0 A1 : Nat → Prop} {H0 : Heap} {a : Array Value} {pc : Nat} {ls : Array Slot} {st0 rest : List Value}
theorem vx_keep {st₀ t T' : State} {L : List Loc} (h0 : st₀.heap = H) (e1 : T'.heap = t.heap) (hS : va_S A0 H0 H locs) (hA : ∀ q, q < H.size → A1 q → A0 q) (hf : ∀ q, free q → A0 q) (hL : ∀ q ∈ L, free q.base) (hF : va_F A1 st₀ t) :
    H.size ≤ T'.heap.size ∧ (∀ q : Nat, q < H.size → ¬ A1 q → T'.heap[q]? = H[q]?) ∧ va_S A0 H0 T'.heap (locs ++ L) := by
  obtain ⟨hz, hk⟩ := hF
  rw [h0] at hz hk
  exact ⟨by rw [e1]; exact hz, fun q h1 h2 => by rw [e1]; exact hk q h1 h2,
    ⟨Nat.le_trans hS.1 (by rw [e1]; exact hz), fun q h1 h2 => by rw [e1, hk q (Nat.lt_of_lt_of_le h1 hS.1) (fun z => h2 (hA q (Nat.lt_of_lt_of_le h1 hS.1) z))]; exact hS.2.1 q h1 h2, fun q hq => by
      rcases List.mem_append.mp hq with h | h
      · exact hS.2.2 q h
      · exact hf _ (hL q h)⟩⟩
theorem vx_calli {S SX : Type} {post : Int32 → S → Prop} {px : SX → Prop} {B : S → State → Prop} {BX : String → SX → State → Prop} {AX : Nat → Prop} (hr : vx_Run p l e R s m args below meth c H locs cells slots mc ms (F0 m pc ls st0) rest (va_Qi post B A1 a) (vx_X px BX AX) free) (hS : va_S A0 H0 H locs) (hA : ∀ q, q < H.size → A1 q → A0 q) (hf : ∀ q, free q → A0 q) (hAX : ∀ q, q < H.size → AX q → A0 q)
    (kx : ∀ (E : String) (ce : Cell) (q9 : Addr) (u : SX) (t : State) (H1 : Heap) (locs1 : List Loc), t.heap = H1 → s.vm.Alike t.vm → px u → BX E u t → H.size ≤ H1.size → (∀ q : Nat, q < H.size → ¬ AX q → H1[q]? = H[q]?) → va_S A0 H0 H1 locs1 → H1[q9]? = some ce → ce.vm = .none → s.vm.findClass E = some ce.cls → vx_W p l e R s m args below meth c H1 locs1 (cells + mc) (slots + ms) Q (F0 m pc ls rest) q9)
    (kk : ∀ (r : Int32) (u : S) (t : State) (H1 : Heap) (locs1 : List Loc), t.heap = H1 → s.vm.Alike t.vm → post r u → B u t → H.size ≤ H1.size → (∀ q : Nat, q < H.size → ¬ A1 q → H1[q]? = H[q]?) → va_S A0 H0 H1 locs1 → W p l e R s m args below meth c H1 locs1 (cells + mc) (slots + ms) Q (F0 m (pc + 3) ls (.int r :: rest))) : W p l e R s m args below meth c H locs cells slots Q (F0 m pc ls st0) := by
  intro T hT X
  rcases hr T hT X with ⟨v, st₀, t, T', L, h0, X', hL, e1, e2, ⟨⟨r, u, hv, hp, hb⟩, hF⟩, st⟩ | ⟨q, st₀, t, T', L, E, ce, h0, X', hL, e1, e2, ⟨u, hp, hb, hF⟩, hce, hcv, hcl, st⟩
  · cases hv
    obtain ⟨k1, k2, k3⟩ := vx_keep h0 e1 hS hA hf hL hF
    obtain ⟨t2, a1, b1⟩ := kk r u t T'.heap (locs ++ L) e1.symm (by rw [← e2]; exact X'.warmed.alike) hp hb k1 k2 k3 T' rfl X'
    exact ⟨t2, st t2 a1, b1⟩
  · obtain ⟨k1, k2, k3⟩ := vx_keep h0 e1 hS hAX hf hL hF
    obtain ⟨t2, a1, b1⟩ := kx E ce q u t T'.heap (locs ++ L) e1.symm (by rw [← e2]; exact X'.warmed.alike) hp hb k1 k2 k3 (by rw [e1]; exact hce) hcv hcl T' rfl X'
    exact ⟨t2, st.trans a1, b1⟩
theorem vx_calll {S SX : Type} {post : Int64 → S → Prop} {px : SX → Prop} {B : S → State → Prop} {BX : String → SX → State → Prop} {AX : Nat → Prop} (hr : vx_Run p l e R s m args below meth c H locs cells slots mc ms (F0 m pc ls st0) rest (va_Ql post B A1 a) (vx_X px BX AX) free) (hS : va_S A0 H0 H locs) (hA : ∀ q, q < H.size → A1 q → A0 q) (hf : ∀ q, free q → A0 q) (hAX : ∀ q, q < H.size → AX q → A0 q)
    (kx : ∀ (E : String) (ce : Cell) (q9 : Addr) (u : SX) (t : State) (H1 : Heap) (locs1 : List Loc), t.heap = H1 → s.vm.Alike t.vm → px u → BX E u t → H.size ≤ H1.size → (∀ q : Nat, q < H.size → ¬ AX q → H1[q]? = H[q]?) → va_S A0 H0 H1 locs1 → H1[q9]? = some ce → ce.vm = .none → s.vm.findClass E = some ce.cls → vx_W p l e R s m args below meth c H1 locs1 (cells + mc) (slots + ms) Q (F0 m pc ls rest) q9)
    (kk : ∀ (r : Int64) (u : S) (t : State) (H1 : Heap) (locs1 : List Loc), t.heap = H1 → s.vm.Alike t.vm → post r u → B u t → H.size ≤ H1.size → (∀ q : Nat, q < H.size → ¬ A1 q → H1[q]? = H[q]?) → va_S A0 H0 H1 locs1 → W p l e R s m args below meth c H1 locs1 (cells + mc) (slots + ms) Q (F0 m (pc + 3) ls (.long r :: rest))) : W p l e R s m args below meth c H locs cells slots Q (F0 m pc ls st0) := by
  intro T hT X
  rcases hr T hT X with ⟨v, st₀, t, T', L, h0, X', hL, e1, e2, ⟨⟨r, u, hv, hp, hb⟩, hF⟩, st⟩ | ⟨q, st₀, t, T', L, E, ce, h0, X', hL, e1, e2, ⟨u, hp, hb, hF⟩, hce, hcv, hcl, st⟩
  · cases hv
    obtain ⟨k1, k2, k3⟩ := vx_keep h0 e1 hS hA hf hL hF
    obtain ⟨t2, a1, b1⟩ := kk r u t T'.heap (locs ++ L) e1.symm (by rw [← e2]; exact X'.warmed.alike) hp hb k1 k2 k3 T' rfl X'
    exact ⟨t2, st t2 a1, b1⟩
  · obtain ⟨k1, k2, k3⟩ := vx_keep h0 e1 hS hAX hf hL hF
    obtain ⟨t2, a1, b1⟩ := kx E ce q u t T'.heap (locs ++ L) e1.symm (by rw [← e2]; exact X'.warmed.alike) hp hb k1 k2 k3 (by rw [e1]; exact hce) hcv hcl T' rfl X'
    exact ⟨t2, st.trans a1, b1⟩
theorem vx_callf {S SX : Type} {post : UInt32 → S → Prop} {px : SX → Prop} {B : S → State → Prop} {BX : String → SX → State → Prop} {AX : Nat → Prop} (hr : vx_Run p l e R s m args below meth c H locs cells slots mc ms (F0 m pc ls st0) rest (va_Qf post B A1 a) (vx_X px BX AX) free) (hS : va_S A0 H0 H locs) (hA : ∀ q, q < H.size → A1 q → A0 q) (hf : ∀ q, free q → A0 q) (hAX : ∀ q, q < H.size → AX q → A0 q)
    (kx : ∀ (E : String) (ce : Cell) (q9 : Addr) (u : SX) (t : State) (H1 : Heap) (locs1 : List Loc), t.heap = H1 → s.vm.Alike t.vm → px u → BX E u t → H.size ≤ H1.size → (∀ q : Nat, q < H.size → ¬ AX q → H1[q]? = H[q]?) → va_S A0 H0 H1 locs1 → H1[q9]? = some ce → ce.vm = .none → s.vm.findClass E = some ce.cls → vx_W p l e R s m args below meth c H1 locs1 (cells + mc) (slots + ms) Q (F0 m pc ls rest) q9)
    (kk : ∀ (r : UInt32) (u : S) (t : State) (H1 : Heap) (locs1 : List Loc), t.heap = H1 → s.vm.Alike t.vm → post r u → B u t → H.size ≤ H1.size → (∀ q : Nat, q < H.size → ¬ A1 q → H1[q]? = H[q]?) → va_S A0 H0 H1 locs1 → W p l e R s m args below meth c H1 locs1 (cells + mc) (slots + ms) Q (F0 m (pc + 3) ls (.float r :: rest))) : W p l e R s m args below meth c H locs cells slots Q (F0 m pc ls st0) := by
  intro T hT X
  rcases hr T hT X with ⟨v, st₀, t, T', L, h0, X', hL, e1, e2, ⟨⟨r, u, hv, hp, hb⟩, hF⟩, st⟩ | ⟨q, st₀, t, T', L, E, ce, h0, X', hL, e1, e2, ⟨u, hp, hb, hF⟩, hce, hcv, hcl, st⟩
  · cases hv
    obtain ⟨k1, k2, k3⟩ := vx_keep h0 e1 hS hA hf hL hF
    obtain ⟨t2, a1, b1⟩ := kk r u t T'.heap (locs ++ L) e1.symm (by rw [← e2]; exact X'.warmed.alike) hp hb k1 k2 k3 T' rfl X'
    exact ⟨t2, st t2 a1, b1⟩
  · obtain ⟨k1, k2, k3⟩ := vx_keep h0 e1 hS hAX hf hL hF
    obtain ⟨t2, a1, b1⟩ := kx E ce q u t T'.heap (locs ++ L) e1.symm (by rw [← e2]; exact X'.warmed.alike) hp hb k1 k2 k3 (by rw [e1]; exact hce) hcv hcl T' rfl X'
    exact ⟨t2, st.trans a1, b1⟩
theorem vx_calld {S SX : Type} {post : UInt64 → S → Prop} {px : SX → Prop} {B : S → State → Prop} {BX : String → SX → State → Prop} {AX : Nat → Prop} (hr : vx_Run p l e R s m args below meth c H locs cells slots mc ms (F0 m pc ls st0) rest (va_Qd post B A1 a) (vx_X px BX AX) free) (hS : va_S A0 H0 H locs) (hA : ∀ q, q < H.size → A1 q → A0 q) (hf : ∀ q, free q → A0 q) (hAX : ∀ q, q < H.size → AX q → A0 q)
    (kx : ∀ (E : String) (ce : Cell) (q9 : Addr) (u : SX) (t : State) (H1 : Heap) (locs1 : List Loc), t.heap = H1 → s.vm.Alike t.vm → px u → BX E u t → H.size ≤ H1.size → (∀ q : Nat, q < H.size → ¬ AX q → H1[q]? = H[q]?) → va_S A0 H0 H1 locs1 → H1[q9]? = some ce → ce.vm = .none → s.vm.findClass E = some ce.cls → vx_W p l e R s m args below meth c H1 locs1 (cells + mc) (slots + ms) Q (F0 m pc ls rest) q9)
    (kk : ∀ (r : UInt64) (u : S) (t : State) (H1 : Heap) (locs1 : List Loc), t.heap = H1 → s.vm.Alike t.vm → post r u → B u t → H.size ≤ H1.size → (∀ q : Nat, q < H.size → ¬ A1 q → H1[q]? = H[q]?) → va_S A0 H0 H1 locs1 → W p l e R s m args below meth c H1 locs1 (cells + mc) (slots + ms) Q (F0 m (pc + 3) ls (.double r :: rest))) : W p l e R s m args below meth c H locs cells slots Q (F0 m pc ls st0) := by
  intro T hT X
  rcases hr T hT X with ⟨v, st₀, t, T', L, h0, X', hL, e1, e2, ⟨⟨r, u, hv, hp, hb⟩, hF⟩, st⟩ | ⟨q, st₀, t, T', L, E, ce, h0, X', hL, e1, e2, ⟨u, hp, hb, hF⟩, hce, hcv, hcl, st⟩
  · cases hv
    obtain ⟨k1, k2, k3⟩ := vx_keep h0 e1 hS hA hf hL hF
    obtain ⟨t2, a1, b1⟩ := kk r u t T'.heap (locs ++ L) e1.symm (by rw [← e2]; exact X'.warmed.alike) hp hb k1 k2 k3 T' rfl X'
    exact ⟨t2, st t2 a1, b1⟩
  · obtain ⟨k1, k2, k3⟩ := vx_keep h0 e1 hS hAX hf hL hF
    obtain ⟨t2, a1, b1⟩ := kx E ce q u t T'.heap (locs ++ L) e1.symm (by rw [← e2]; exact X'.warmed.alike) hp hb k1 k2 k3 (by rw [e1]; exact hce) hcv hcl T' rfl X'
    exact ⟨t2, st.trans a1, b1⟩
theorem vx_callv {S SX : Type} {post : S → Prop} {px : SX → Prop} {B : S → State → Prop} {BX : String → SX → State → Prop} {AX : Nat → Prop} (hr : vx_Run p l e R s m args below meth c H locs cells slots mc ms (F0 m pc ls st0) rest (va_Qv post B A1 a) (vx_X px BX AX) free) (hS : va_S A0 H0 H locs) (hA : ∀ q, q < H.size → A1 q → A0 q) (hf : ∀ q, free q → A0 q) (hAX : ∀ q, q < H.size → AX q → A0 q)
    (kx : ∀ (E : String) (ce : Cell) (q9 : Addr) (u : SX) (t : State) (H1 : Heap) (locs1 : List Loc), t.heap = H1 → s.vm.Alike t.vm → px u → BX E u t → H.size ≤ H1.size → (∀ q : Nat, q < H.size → ¬ AX q → H1[q]? = H[q]?) → va_S A0 H0 H1 locs1 → H1[q9]? = some ce → ce.vm = .none → s.vm.findClass E = some ce.cls → vx_W p l e R s m args below meth c H1 locs1 (cells + mc) (slots + ms) Q (F0 m pc ls rest) q9)
    (kk : ∀ (u : S) (t : State) (H1 : Heap) (locs1 : List Loc), t.heap = H1 → s.vm.Alike t.vm → post u → B u t → H.size ≤ H1.size → (∀ q : Nat, q < H.size → ¬ A1 q → H1[q]? = H[q]?) → va_S A0 H0 H1 locs1 → W p l e R s m args below meth c H1 locs1 (cells + mc) (slots + ms) Q (F0 m (pc + 3) ls (rest))) : W p l e R s m args below meth c H locs cells slots Q (F0 m pc ls st0) := by
  intro T hT X
  rcases hr T hT X with ⟨v, st₀, t, T', L, h0, X', hL, e1, e2, ⟨⟨u, hv, hp, hb⟩, hF⟩, st⟩ | ⟨q, st₀, t, T', L, E, ce, h0, X', hL, e1, e2, ⟨u, hp, hb, hF⟩, hce, hcv, hcl, st⟩
  · cases hv
    obtain ⟨k1, k2, k3⟩ := vx_keep h0 e1 hS hA hf hL hF
    obtain ⟨t2, a1, b1⟩ := kk u t T'.heap (locs ++ L) e1.symm (by rw [← e2]; exact X'.warmed.alike) hp hb k1 k2 k3 T' rfl X'
    exact ⟨t2, st t2 a1, b1⟩
  · obtain ⟨k1, k2, k3⟩ := vx_keep h0 e1 hS hAX hf hL hF
    obtain ⟨t2, a1, b1⟩ := kx E ce q u t T'.heap (locs ++ L) e1.symm (by rw [← e2]; exact X'.warmed.alike) hp hb k1 k2 k3 (by rw [e1]; exact hce) hcv hcl T' rfl X'
    exact ⟨t2, st.trans a1, b1⟩
/-- caught by the row x of this method's table; the rows ahead don't take it -/
theorem vx_catch {own name : String} {E : String} {ce : Cell} {q : Addr} (hown : s.vm.findClass own = some m.cls) (pre : List ExceptionTableEntry) (x : ExceptionTableEntry) (suf : List ExceptionTableEntry) (hsplit : c.exceptionTable.toList = pre ++ x :: suf)
    (hpass : ∀ z ∈ pre, covers z pc = false ∨ (z.catchType ≠ 0 ∧ ∃ nm : String, (Cond.classLink own z.catchType nm).before args s = true ∧ va_Nc E nm s)) (hx : covers x pc = true) (h0 : x.catchType ≠ 0)
    (hlink : (Cond.classLink own x.catchType name).before args s = true) (hcast : (Cond.castable E name).before args s = true) (hcell : H[q]? = some ce) (hv : ce.vm = .none) (hcl : s.vm.findClass E = some ce.cls)
    (kk : W p l e R s m args below meth c H locs cells slots Q (F0 m x.handlerPc ls [.ref q])) : vx_W p l e R s m args below meth c H locs cells slots Q (F0 m pc ls rest) q := by
  intro T hT X
  have hpl : e.platform.magicAccessors = ({} : Platform).magicAccessors := by rw [X.admits.platform]
  obtain ⟨c3, c4, hc3, hc4, hasg⟩ := Cond.castable_spec hcast
  cases Option.some.inj (hc3.symm.trans hcl)
  obtain ⟨c5, hc5, hcl5⟩ := Cond.classLink_spec hown hlink e.platform hpl
  cases Option.some.inj (hc4.symm.trans hc5)
  obtain ⟨vm', X', st⟩ := X.thenCaughtThrough q (g := F0 m pc ls rest) rfl (Steps.refl _) (by rw [hT]; exact hcell) (by rw [hv]; rfl) (by obtain ⟨k9, h9, -⟩ := Vm.findClass_spec hcl; exact ⟨k9, h9⟩) pre x suf hsplit
    (fun z hz => by
      rcases hpass z hz with h | ⟨hz0, nm, hl1, hn1⟩
      · exact Or.inl h
      · obtain ⟨c6, hc6, hcl6⟩ := Cond.classLink_spec hown hl1 e.platform hpl
        obtain ⟨a8, b8, h1, h2, h3⟩ := hn1
        cases Option.some.inj (h1.symm.trans hcl)
        cases Option.some.inj (h2.symm.trans hc6)
        exact Or.inr ⟨hz0, _, hcl6, h3⟩) hx (Or.inr ⟨h0, c4, hcl5, hasg⟩)
  obtain ⟨t, a1, b1⟩ := kk (T.setVm vm') hT X'
  exact ⟨t, st.trans a1, b1⟩
end Rows
section Ends
variable {p : Program} {l : Launch} {e : Env} {R : Room} {s : State} {m : MethodId} {args : Array Value} {below : List Frame} {meth : Method} {c : Code} {H : Heap} {locs : List Loc} {cells slots : Nat} {Q : State → Prop}
variable {mc ms : Nat} {free : Addr → Prop} {A0 A1 : Nat → Prop} {H0 : Heap} {a : Array Value} {ls : Array Slot} {st0 rest : List Value}
variable {Qc : Array Value → State → Outcome → State → Prop} {XC : String → State → State → Prop}
/-- what a body that may throw owes at its end -/
def vx_MQ (below : List Frame) (Qc : Array Value → State → Outcome → State → Prop) (XC : String → State → State → Prop) (a : Array Value) (s : State) (mc ms : Nat) (free : Addr → Prop) : State → Prop := fun t =>
  ∃ o, t.status = .running ∧ Ended t below o ∧ vx_Q Qc XC mc ms free a s o t
theorem vx_ret {g : JFrame} {mc ms : Nat} (k : W p l e R s m args below meth c H locs cells slots (MQ below Qc args s mc ms free) g) : W p l e R s m args below meth c H locs cells slots (vx_MQ below Qc XC args s mc ms free) g := by
  intro T hT X
  obtain ⟨t, a1, o, b1, b2, b3, b4⟩ := k T hT X
  exact ⟨t, a1, o, b1, b2, Or.inl ⟨b3, b4⟩⟩
/-- not caught here: it goes on to the caller -/
theorem vx_widen {g : JFrame} {q : Addr} {k n : Nat} (h1 : cells ≤ k) (h2 : slots ≤ n) (kk : vx_W p l e R s m args below meth c H locs k n Q g q) : vx_W p l e R s m args below meth c H locs cells slots Q g q := fun T hT X => kk T hT (stand_widen X h1 h2)
theorem vx_out {pc : Nat} {E : String} {ce : Cell} {q : Addr} {mc ms : Nat} (hout : ∀ x ∈ c.exceptionTable.toList, covers x pc = false) (hlocks : meth.locks = false) (hcell : H[q]? = some ce) (hv : ce.vm = .none) (hcl : s.vm.findClass E = some ce.cls)
    (hx : ∀ t : State, t.heap = H → s.vm.Alike t.vm → XC E s t) (hf : ∀ z ∈ locs, free z.base) (hc : cells ≤ mc) (hs : slots ≤ ms) :
    vx_W p l e R s m args below meth c H locs cells slots (vx_MQ below Qc XC args s mc ms free) (F0 m pc ls rest) q := by
  intro T hT X
  obtain ⟨st1, hrun, hend, hW, hsm⟩ := X.leaveThrown q (g := F0 m pc ls rest) rfl rfl rfl hout hlocks
  have hcell9 : (T.setFrames (.throwing q :: below)).heap[q]? = some ce := by
    show T.heap[q]? = some ce
    rw [hT]; exact hcell
  exact ⟨_, st1, .threw q, hrun, hend, Or.inr ⟨q, rfl, E, ce, locs, hx _ hT hW.alike, hcell9, hv, hcl, hW, hsm.mono hc hs, hf⟩⟩
theorem vx_frame {U : State} {k n : Nat} (h : s.sameButNew ({ U with vm := s.vm } : State) locs k n) : s.heap.size ≤ U.heap.size ∧ ∀ q : Nat, q < s.heap.size → (∀ z ∈ locs, z.base ≠ q) → U.heap[q]? = s.heap[q]? := by
  obtain ⟨-, h2, -, -, -, h6⟩ := h
  refine ⟨h2, fun q hq hz => ?_⟩
  obtain ⟨c9, e1, e2, e3, e4⟩ := h6 q _ (Array.getElem?_eq_getElem hq)
  have hs : c9.slots = (s.heap[q]).slots := Array.ext_getElem? fun i => e4 i fun hm => hz _ hm rfl
  have h9 : c9 = s.heap[q] := by
    rw [hs] at e2
    exact e2
  have e5 : U.heap[q]? = some c9 := e1
  rw [e5, h9, Array.getElem?_eq_getElem hq]
/-- the words of a throw but the four that speak of the heap -/
def vx_no (w : Cond) : Bool := decide (w ≠ .isRef (.static Bundle.tN "UNASSIGNED_STACK" Bundle.steD)) && decide (w ≠ .isRef (.static Bundle.tN "SUPPRESSED_SENTINEL" Bundle.listD)) && decide (w ≠ .laysStatic Bundle.tN "UNASSIGNED_STACK" Bundle.steD) && decide (w ≠ .laysStatic Bundle.tN "SUPPRESSED_SENTINEL" Bundle.listD)
def vx_at0 (own : String) (ic : Nat) (X : String) (names : List String) : List Cond := (Bundle.ownAtoms0 own ic X names).filter vx_no
def vx_atS (own : String) (ic : Nat) (X : String) (names : List String) : List Cond := (Bundle.ownAtoms own ic X names).filter vx_no
/-- a word that the tables alone decide, or a good one -/
def vx_ot (w : Cond) : Bool := w.onTables || goodWord w
theorem vx_ot_at {args a' : Array Value} {s U : State} {w : Cond} (hW : s.WarmedH U.vm) (hvm : s.vm = U.vm) (hg : vx_ot w = true) (h : w.before args s = true) : w.before a' U = true := by
  simp only [vx_ot, Bool.or_eq_true] at hg
  rcases hg with hg | hg
  · exact va_tabs hg hvm h
  · exact word_at hW (good_of_word hg) h
/-- a list's words: the good ones out of the method's own list, the others by premises of their own -/
theorem vx_hat {args : Array Value} {s : State} {L B : List Cond} (h1 : ∀ w ∈ L.filter goodWord, w.before args s = true) (h2 : ∀ w ∈ L.filter (fun w => !goodWord w), w ∈ B) (h3 : ∀ w ∈ B, w.before args s = true) : ∀ w ∈ L, w.before args s = true := by
  intro w hw
  by_cases g : goodWord w = true
  · exact h1 w (List.mem_filter.mpr ⟨hw, g⟩)
  · refine h3 w (h2 w (List.mem_filter.mpr ⟨hw, ?_⟩))
    show (!goodWord w) = true
    cases hgw : goodWord w
    · rfl
    · exact absurd hgw g
theorem vx_c {args : Array Value} {s : State} {w : Cond} {B : List Cond} (h : w.before args s = true) (t : ∀ w ∈ B, w.before args s = true) : ∀ w' ∈ w :: B, w'.before args s = true := fun w' h' => (List.mem_cons.mp h').elim (fun e => by rw [e]; exact h) (t w')
theorem vx_n {args : Array Value} {s : State} : ∀ w ∈ ([] : List Cond), w.before args s = true := fun _ h => nomatch h
theorem vx_own {args : Array Value} {s : State} {L : List Cond} (h1 : ∀ w ∈ L.filter vx_no, w.before args s = true)
    (hU : (Cond.isRef (.static Bundle.tN "UNASSIGNED_STACK" Bundle.steD)).before args s = true) (hN : (Cond.isRef (.static Bundle.tN "SUPPRESSED_SENTINEL" Bundle.listD)).before args s = true)
    (lU : (Cond.laysStatic Bundle.tN "UNASSIGNED_STACK" Bundle.steD).before args s = true) (lN : (Cond.laysStatic Bundle.tN "SUPPRESSED_SENTINEL" Bundle.listD).before args s = true) : ∀ w ∈ L, w.before args s = true := by
  intro w hw
  by_cases e1 : w = .isRef (.static Bundle.tN "UNASSIGNED_STACK" Bundle.steD)
  · rw [e1]; exact hU
  · by_cases e2 : w = .isRef (.static Bundle.tN "SUPPRESSED_SENTINEL" Bundle.listD)
    · rw [e2]; exact hN
    · by_cases e3 : w = .laysStatic Bundle.tN "UNASSIGNED_STACK" Bundle.steD
      · rw [e3]; exact lU
      · by_cases e4 : w = .laysStatic Bundle.tN "SUPPRESSED_SENTINEL" Bundle.listD
        · rw [e4]; exact lN
        · exact h1 w (List.mem_filter.mpr ⟨hw, by unfold vx_no; rw [decide_eq_true e1, decide_eq_true e2, decide_eq_true e3, decide_eq_true e4]; rfl⟩)
/-- where a static field lies, its class's statics cell in H -/
def vx_L (C n d : String) (A : Nat → Prop) (U : State) (H : Heap) : Prop := ∃ (c : ClassId) (k : Class) (i : Nat) (f : Field) (a : Nat) (cell : Cell), U.vm.findClass C = some c ∧ U.fieldFound? C n d = some (c, k, i, f) ∧ f.isStatic = true ∧ k.statics = some a ∧ H[a]? = some cell ∧ cell.vm.isStatics = true ∧ cell.cls = c ∧ f.slot < cell.slots.size ∧ k.staticTypes[f.slot]? = some f.type ∧ ¬ A a
theorem vx_L.moved {C n d : String} {A : Nat → Prop} {u U : State} {H : Heap} (hvm : u.vm.Alike U.vm) (h : vx_L C n d A u H) : vx_L C n d A U H := by
  obtain ⟨c, k, i, f, a, cell, h1, h2, h3, h4, h5, h6, h7, h8, h9, h10⟩ := h
  obtain ⟨k', hi', he⟩ := State.fieldFound?_setVm hvm h2
  exact ⟨c, k', i, f, a, cell, by rw [hvm.findClass]; exact h1, hi', h3, by rw [he]; exact h4, h5, h6, h7, h8, by rw [he]; exact h9, h10⟩
theorem vx_L.kept {C n d : String} {A : Nat → Prop} {U : State} {H H1 : Heap} (h : vx_L C n d A U H) (hq : ∀ a : Nat, a < H.size → ¬ A a → H1[a]? = H[a]?) : vx_L C n d A U H1 := by
  obtain ⟨c, k, i, f, a, cell, h1, h2, h3, h4, h5, h6, h7, h8, h9, h10⟩ := h
  exact ⟨c, k, i, f, a, cell, h1, h2, h3, h4, by rw [hq a (Array.getElem?_eq_some_iff.mp h5).1 h10]; exact h5, h6, h7, h8, h9, h10⟩
theorem vx_L.narrow {C n d : String} {A B : Nat → Prop} {U : State} {H : Heap} (h : vx_L C n d A U H) (hAB : ∀ q, B q → A q) : vx_L C n d B U H := by
  obtain ⟨c, k, i, f, a, cell, h1, h2, h3, h4, h5, h6, h7, h8, h9, h10⟩ := h
  exact ⟨c, k, i, f, a, cell, h1, h2, h3, h4, h5, h6, h7, h8, h9, fun z => h10 (hAB _ z)⟩
theorem vx_L.word {C n d : String} {A : Nat → Prop} {s : State} {args : Array Value} (h : vx_L C n d A s s.heap) : (Cond.laysStatic C n d).before args s = true := by
  obtain ⟨c, k, i, f, a, cell, h1, h2, h3, h4, h5, h6, h7, h8, h9, -⟩ := h
  show (Cond.laysStatic C n d).holds args s none s [] = true
  exact Cond.laysStatic_of h1 h2 h3 h4 h5 h6 h7 h8 h9
/-- .. and what it holds: null or some reference -/
def vx_Zq (C n d : String) (A : Nat → Prop) (U : State) (H : Heap) : Prop := va_Zq C n d A U H ∧ vx_L C n d A U H
theorem vx_Zq.moved {C n d : String} {A : Nat → Prop} {u U : State} {H : Heap} (hvm : u.vm.Alike U.vm) (h : vx_Zq C n d A u H) : vx_Zq C n d A U H := ⟨va_Zq.moved hvm h.1, vx_L.moved hvm h.2⟩
theorem vx_Zq.kept {C n d : String} {A : Nat → Prop} {U : State} {H H1 : Heap} (h : vx_Zq C n d A U H) (hq : ∀ a : Nat, a < H.size → ¬ A a → H1[a]? = H[a]?) : vx_Zq C n d A U H1 := ⟨va_Zq.kept h.1 hq, vx_L.kept h.2 hq⟩
theorem vx_Zq.narrow {C n d : String} {A B : Nat → Prop} {U : State} {H : Heap} (h : vx_Zq C n d A U H) (hAB : ∀ q, B q → A q) : vx_Zq C n d B U H := ⟨va_Zq.narrow h.1 hAB, vx_L.narrow h.2 hAB⟩
theorem vx_Zqof {args : Array Value} {s : State} {C n d : String} {A : Nat → Prop} (hl : (Cond.laysStatic C n d).before args s = true) (hini : (Cond.initialized C).before args s = true) (h : (Cond.isRef (.static C n d)).before args s = true) (hA : ∀ a : Nat, a < s.heap.size → ¬ A a) : vx_Zq C n d A s s.heap := by
  refine ⟨va_Zqof hl hini h hA, ?_⟩
  obtain ⟨c, k, i, f, a, cell, h1, h2, h3, h4, h5, h6, h7, h8, h9⟩ := Cond.laysStatic_spec hl
  exact ⟨c, k, i, f, a, cell, h1, h2, h3, h4, h5, h6, h7, h8, h9, hA a (Array.getElem?_eq_some_iff.mp h5).1⟩
theorem vx_isRef {C n d : String} {v : Value} {A : Nat → Prop} {s : State} {args : Array Value} (h : va_Z C n d v A s s.heap) (hv : v.isRef = true) : (Cond.isRef (.static C n d)).before args s = true := by
  obtain ⟨cf, kf, fi, f, a, cell, h1, h2, h3, h4, h5, h6, h7, -⟩ := h
  have he : (Term.static C n d).eval args s none [] s = some v := by
    simp [Term.eval, State.fieldNamed?, h1, h2, h4, h5, h6, h7]
  simp only [Cond.before, Cond.holds, Cond.value, he]
  cases v <;> simp_all [Value.isRef]
theorem vx_isRefq {C n d : String} {A : Nat → Prop} {s : State} {args : Array Value} (h : va_Zq C n d A s s.heap) : (Cond.isRef (.static C n d)).before args s = true := by
  rcases h with h | ⟨t, h⟩
  · exact vx_isRef h rfl
  · exact vx_isRef h rfl
/-- the same frame, seen from here: as if the method were called anew in this heap -/
theorem vx_rebase {T : State} (X : Stand p l e R s m args below meth c T locs cells slots) {R' : Room} (hf : R'.frames ≤ R.frames) (hl : R'.locals ≤ R.locals) (hc : cells + R'.cells ≤ R.cells) (hs : slots + R'.slots ≤ R.slots) :
    Stand p l e R' ((T.setVm s.vm).setFrames (.invoking m args :: below)) m args below meth c T [] 0 0 := by
  have htop : (T.setVm s.vm).topJava?.isSome := X.here.top
  have hF : ((T.setVm s.vm).setFrames (.invoking m args :: below)).frames = .invoking m args :: below := State.frames_setFrames _ (State.cur_lt_of_top htop)
  obtain ⟨g₀, hg0⟩ := Option.isSome_iff_exists.mp htop
  obtain ⟨r, hr⟩ := State.topJava?_eq_some.mp hg0
  have hl9 : e.platform.stackLimits (T.setVm s.vm).me = e.platform.stackLimits s.me := X.limits
  have hb9 : (T.setVm s.vm).me.stackBytes = s.me.stackBytes := X.bytes
  refine ⟨X.admits, X.cas, X.clock, hF, ?_, X.hears, X.method, X.code, X.here, X.tail, X.warmed, ?_, ?_, ?_⟩
  · have h := X.room
    have hU : ((T.setVm s.vm).setFrames (.invoking m args :: below)).localsInUse = s.localsInUse := by
      rw [State.localsInUse_invoking hF (meth := meth) (c := c) X.method X.code, State.localsInUse_invoking X.frames X.method X.code]
    simp only [State.hasRoom, Bool.and_eq_true, decide_eq_true_eq] at h ⊢
    obtain ⟨⟨⟨⟨h1, h2, h3, h4, h5, h6⟩, h7⟩, h8⟩, h9⟩ := h
    rw [X.frames, List.length_cons] at h2 h3
    have q1 := X.heapSize
    have q2 := X.used
    simp only [hF, hU, List.length_cons, State.stackLimits_setFrames, State.stackBytes_setFrames, hl9, hb9]
    refine ⟨⟨⟨⟨by omega, by omega, by omega, by omega, by omega, h6⟩, ?_⟩, ?_⟩, X.book⟩
    · show T.heap.size + R'.cells ≤ e.platform.maxCells
      omega
    · show T.slotsUsed + R'.slots ≤ e.platform.maxSlots
      omega
  · rw [State.stackLimits_setFrames]; rfl
  · rw [State.stackBytes_setFrames]; rfl
  · refine ⟨?_, Nat.le_refl _, Nat.le_refl _, ?_, ?_, fun a c9 h9 => ⟨c9, h9, rfl, rfl, fun _ _ => rfl⟩⟩
    · obtain ⟨t, ht, -⟩ := State.frames_cons hr
      show T.setVm s.vm = { ((T.setVm s.vm).setFrames (.invoking m args :: below)).setFrames (T.setVm s.vm).frames with heap := T.heap, slotsUsed := T.slotsUsed }
      rw [State.setFrames_setFrames, State.setFrames_self ht]
      rfl
    · show T.slotsUsed = T.slotsUsed + ((T.heap.toList.drop T.heap.size).map (·.slots.size)).sum
      rw [List.drop_eq_nil_of_le (Nat.le_of_eq Array.length_toList)]
      rfl
    · show ((T.heap.toList.drop T.heap.size).map (·.slots.size)).sum ≤ 0
      rw [List.drop_eq_nil_of_le (Nat.le_of_eq Array.length_toList)]
      exact Nat.le_refl _
/-- 'throw new E()': new; dup; invokespecial; athrow -/
theorem vx_throw0 {cc : ByteArray} {pc : Nat} (hexec : p.tables.exec = Jvm.exec) (hb : c.code = cc) (hl : l.stackTraces = false) {own cls : String} {names : List String} {ik ic mc ms : Nat} {A : Nat → Prop}
    (hown : s.vm.findClass own = some m.cls) (hcls : Bundle.fit cls = true) (hnames : ∀ n ∈ names, Bundle.fit n = true)
    (hk : (Cond.classLink own ik cls).before args s = true) (hini : (Cond.initialized cls).before args s = true) (hat : ∀ w ∈ vx_at0 own ic cls names, w.before args s = true)
    (hgood : ∀ w ∈ Cond.classLink own ik cls :: Cond.initialized cls :: vx_at0 own ic cls names, vx_ot w = true)
    (hU : vx_Zq Bundle.tN "UNASSIGNED_STACK" Bundle.steD A s s.heap) (hN : vx_Zq Bundle.tN "SUPPRESSED_SENTINEL" Bundle.listD A s s.heap) (hS : va_S A s.heap H locs) (hsize : ls.size = c.maxLocals)
    (d0 : decode cc pc = .ok (.new ik, 3)) (d3 : decode cc (pc + 3) = .ok (.dup, 1)) (d4 : decode cc (pc + 4) = .ok (.invokespecial ic, 3)) (d7 : decode cc (pc + 7) = .ok (.athrow, 1))
    (hout : ∀ x ∈ c.exceptionTable.toList, covers x (pc + 7) = false)
    (hRframes : names.length + 3 < R.frames) (hRlocals : (rest.map fun v => v.category).sum + (13 * (names.length + 1) + 42) ≤ R.locals) (hRcells : cells + 1 ≤ R.cells) (hRslots : slots + 6 ≤ R.slots) (hlocks : meth.locks = false)
    (hx : ∀ t : State, s.vm.Alike t.vm → H.size ≤ t.heap.size → (∀ q : Nat, q < H.size → t.heap[q]? = H[q]?) → XC cls s t)
    (hf : ∀ z ∈ locs, free z.base) (hc : cells + 1 ≤ mc) (hs : slots + 6 ≤ ms) :
    W p l e R s m args below meth c H locs cells slots (vx_MQ below Qc XC args s mc ms free) (F0 m pc ls rest) := by
  intro T hT X
  have htr : e.platform.stackTraces = false := (show e.platform.stackTraces = l.stackTraces by rw [X.admits.platform]).trans hl
  have Y := vx_rebase X (R' := { frames := R.frames, locals := R.locals, cells := 1, slots := 6 }) (Nat.le_refl _) (Nat.le_refl _) hRcells hRslots
  obtain ⟨s', hA⟩ : ∃ z, z = (T.setVm s.vm).setFrames (.invoking m args :: below) := ⟨_, rfl⟩
  rw [← hA] at Y
  have hvm : s'.vm = s.vm := by rw [hA]; rfl
  have hhp : s'.heap = H := by rw [hA]; exact hT
  have hW0 : s.WarmedH s'.vm := by rw [hvm]; exact State.WarmedH.refl s
  have hat' : ∀ w ∈ vx_at0 own ic cls names, w.before args s' = true := fun w hw => vx_ot_at hW0 hvm.symm (hgood w (List.mem_cons_of_mem _ (List.mem_cons_of_mem _ hw))) (hat w hw)
  have hk' : (Cond.classLink own ik cls).before args s' = true := vx_ot_at hW0 hvm.symm (hgood _ List.mem_cons_self) hk
  have hini' : (Cond.initialized cls).before args s' = true := vx_ot_at hW0 hvm.symm (hgood _ (List.mem_cons_of_mem _ List.mem_cons_self)) hini
  have hU' : vx_Zq Bundle.tN "UNASSIGNED_STACK" Bundle.steD A s' s'.heap := by rw [hhp]; exact vx_Zq.moved hW0.alike (hU.kept hS.2.1)
  have hN' : vx_Zq Bundle.tN "SUPPRESSED_SENTINEL" Bundle.listD A s' s'.heap := by rw [hhp]; exact vx_Zq.moved hW0.alike (hN.kept hS.2.1)
  have h : ∀ w ∈ Bundle.ownAtoms0 own ic cls names, w.before args s' = true := vx_own hat' (vx_isRefq hU'.1) (vx_isRefq hN'.1) hU'.2.word hN'.2.word
  have hown' : s'.vm.findClass own = some m.cls := by rw [hvm]; exact hown
  have hins : (Cond.instantiable cls 6).before args s' = true := h _ (by simp [Bundle.ownAtoms0])
  obtain ⟨vm₁, cX, kX, hfX, hkX, -, -, X₁, st1⟩ := Y.newCold hexec (own := own) (C := cls) (index := ik) (n := 6) hown' hk' hins hini'
    (g := F0 m pc ls rest) rfl (by rw [hb]; exact d0) (Nat.le_refl _) (Nat.le_refl _)
  generalize hT1 : (T.setVm vm₁).pushCell { cls := cX, slots := kX.instanceTypes.map defaultValue, vm := .none } = T1 at X₁ st1
  have hcat : (Value.ref T.heap.size).category = 1 := rfl
  have hcellA : T1.heap[T.heap.size]? = some (freshCell cX kX) := by rw [← hT1]; exact State.heap_pushCell_size _ _
  have d3' : decode c.code (pc + 3) = .ok (.dup, 1) := by rw [hb]; exact d3
  obtain ⟨U, hsteps, hrun, hend, hW, hsame, ce, hce, hO⟩ := X₁.ctorThrow0 hexec htr (own := own) (cls := cls) (names := names) (ic := ic) hown' hcls hnames h (fun x hx => nomatch hx) hfX hkX hcellA (by rw [hhp, hT]; exact Nat.le_refl _)
    (g := { method := m, pc := pc + 4, locals := ls, stack := .ref T.heap.size :: .ref T.heap.size :: rest, locked := none }) rfl hsize rfl rfl (rest := rest) rfl
    (by rw [hb]; exact d4) (by rw [hb]; exact d7) hout hRframes (by simp only [List.map_cons, List.sum_cons, hcat]; omega) hlocks
  obtain ⟨f1, f2⟩ := vx_frame hsame
  rw [hhp] at f1 f2
  have hWs : s.WarmedH U.vm := State.WarmedH.trans hW0 hW
  have hcl : s.vm.findClass cls = some ce.cls := by
    have h9 := hO.cls
    rw [hvm] at h9
    exact h9
  have hall : s.sameButNew ({ U with vm := s.vm } : State) locs mc ms := by
    subst hA
    obtain ⟨e1, e2⟩ := hsame
    rw [State.setFrames_setFrames] at e1
    have h2 : (T.setVm s.vm).sameButNew ({ U with vm := s.vm } : State) [] (0 + 1) (0 + 6) := ⟨e1, e2⟩
    have h3 := X.same.trans h2
    rw [List.append_nil] at h3
    exact h3.mono hc hs
  refine ⟨U, ?_, .threw T.heap.size, hrun, hend, Or.inr ⟨T.heap.size, rfl, cls, ce, locs, hx U hWs.alike f1 (fun q hq => f2 q hq (fun z hz => nomatch hz)), hce, hO.vm, hcl, hWs, hall, hf⟩⟩
  refine st1 _ ?_
  show Steps p.tables e below (T1.setTop { method := m, pc := pc + 3, locals := ls, stack := .ref T.heap.size :: rest, locked := none }) _
  jvm_step X₁.here [X₁.here.top, hexec, d3', Value.category]
  exact hsteps
/-- 'throw new E("text")': new; dup; ldc; invokespecial; athrow -/
theorem vx_throwS {cc : ByteArray} {pc : Nat} (hexec : p.tables.exec = Jvm.exec) (hb : c.code = cc) (hl : l.stackTraces = false) {own cls text : String} {names : List String} {ik is ic mc ms sa : Nat} {A : Nat → Prop}
    (hown : s.vm.findClass own = some m.cls) (hcls : Bundle.fit cls = true) (hnames : ∀ n ∈ names, Bundle.fit n = true)
    (hk : (Cond.classLink own ik cls).before args s = true) (hini : (Cond.initialized cls).before args s = true) (hstr : vk_R own is text sa s) (hat : ∀ w ∈ vx_atS own ic cls names, w.before args s = true)
    (hgood : ∀ w ∈ Cond.classLink own ik cls :: Cond.initialized cls :: vx_atS own ic cls names, vx_ot w = true)
    (hU : vx_Zq Bundle.tN "UNASSIGNED_STACK" Bundle.steD A s s.heap) (hN : vx_Zq Bundle.tN "SUPPRESSED_SENTINEL" Bundle.listD A s s.heap) (hS : va_S A s.heap H locs) (hsize : ls.size = c.maxLocals)
    (d0 : decode cc pc = .ok (.new ik, 3)) (d3 : decode cc (pc + 3) = .ok (.dup, 1)) (d4 : decode cc (pc + 4) = .ok (.ldc is, 2)) (d6 : decode cc (pc + 6) = .ok (.invokespecial ic, 3)) (d9 : decode cc (pc + 9) = .ok (.athrow, 1))
    (hout : ∀ x ∈ c.exceptionTable.toList, covers x (pc + 9) = false)
    (hRframes : names.length + 3 < R.frames) (hRlocals : (rest.map fun v => v.category).sum + (13 * (names.length + 1) + 43) ≤ R.locals) (hRcells : cells + 1 ≤ R.cells) (hRslots : slots + 6 ≤ R.slots) (hlocks : meth.locks = false)
    (hx : ∀ t : State, s.vm.Alike t.vm → H.size ≤ t.heap.size → (∀ q : Nat, q < H.size → t.heap[q]? = H[q]?) → XC cls s t)
    (hf : ∀ z ∈ locs, free z.base) (hc : cells + 1 ≤ mc) (hs : slots + 6 ≤ ms) :
    W p l e R s m args below meth c H locs cells slots (vx_MQ below Qc XC args s mc ms free) (F0 m pc ls rest) := by
  intro T hT X
  have htr : e.platform.stackTraces = false := (show e.platform.stackTraces = l.stackTraces by rw [X.admits.platform]).trans hl
  have Y := vx_rebase X (R' := { frames := R.frames, locals := R.locals, cells := 1, slots := 6 }) (Nat.le_refl _) (Nat.le_refl _) hRcells hRslots
  obtain ⟨s', hA⟩ : ∃ z, z = (T.setVm s.vm).setFrames (.invoking m args :: below) := ⟨_, rfl⟩
  rw [← hA] at Y
  have hvm : s'.vm = s.vm := by rw [hA]; rfl
  have hhp : s'.heap = H := by rw [hA]; exact hT
  have hW0 : s.WarmedH s'.vm := by rw [hvm]; exact State.WarmedH.refl s
  have hat' : ∀ w ∈ vx_atS own ic cls names, w.before args s' = true := fun w hw => vx_ot_at hW0 hvm.symm (hgood w (List.mem_cons_of_mem _ (List.mem_cons_of_mem _ hw))) (hat w hw)
  have hk' : (Cond.classLink own ik cls).before args s' = true := vx_ot_at hW0 hvm.symm (hgood _ List.mem_cons_self) hk
  have hini' : (Cond.initialized cls).before args s' = true := vx_ot_at hW0 hvm.symm (hgood _ (List.mem_cons_of_mem _ List.mem_cons_self)) hini
  have hU' : vx_Zq Bundle.tN "UNASSIGNED_STACK" Bundle.steD A s' s'.heap := by rw [hhp]; exact vx_Zq.moved hW0.alike (hU.kept hS.2.1)
  have hN' : vx_Zq Bundle.tN "SUPPRESSED_SENTINEL" Bundle.listD A s' s'.heap := by rw [hhp]; exact vx_Zq.moved hW0.alike (hN.kept hS.2.1)
  have h : ∀ w ∈ Bundle.ownAtoms own ic cls names, w.before args s' = true := vx_own hat' (vx_isRefq hU'.1) (vx_isRefq hN'.1) hU'.2.word hN'.2.word
  have hown' : s'.vm.findClass own = some m.cls := by rw [hvm]; exact hown
  have hins : (Cond.instantiable cls 6).before args s' = true := h _ (by simp [Bundle.ownAtoms])
  obtain ⟨vm₁, cX, kX, hfX, hkX, -, -, X₁, st1⟩ := Y.newCold hexec (own := own) (C := cls) (index := ik) (n := 6) hown' hk' hins hini'
    (g := F0 m pc ls rest) rfl (by rw [hb]; exact d0) (Nat.le_refl _) (Nat.le_refl _)
  generalize hT1 : (T.setVm vm₁).pushCell { cls := cX, slots := kX.instanceTypes.map defaultValue, vm := .none } = T1 at X₁ st1
  have hcat : (Value.ref T.heap.size).category = 1 := rfl
  have hcellA : T1.heap[T.heap.size]? = some (freshCell cX kX) := by rw [← hT1]; exact State.heap_pushCell_size _ _
  have d3' : decode c.code (pc + 3) = .ok (.dup, 1) := by rw [hb]; exact d3
  have d4' : decode c.code (pc + 4) = .ok (.ldc is, 2) := by rw [hb]; exact d4
  have hstr' : vk_R own is text sa s' := vk_R.warm hW0 hstr
  obtain ⟨U, hsteps, hrun, hend, hW, hsame, ce, hce, hO⟩ := X₁.ctorThrowS hexec htr (own := own) (cls := cls) (names := names) (ic := ic) hown' hcls hnames h (fun x hx => nomatch hx) hfX hkX hcellA (by rw [hhp, hT]; exact Nat.le_refl _) (msg := .ref sa) rfl
    (g := { method := m, pc := pc + 6, locals := ls, stack := .ref sa :: .ref T.heap.size :: .ref T.heap.size :: rest, locked := none }) rfl hsize rfl rfl (rest := rest) rfl
    (by rw [hb]; exact d6) (by rw [hb]; exact d9) hout hRframes (by simp only [List.map_cons, List.sum_cons, hcat]; omega) hlocks
  obtain ⟨f1, f2⟩ := vx_frame hsame
  rw [hhp] at f1 f2
  have hWs : s.WarmedH U.vm := State.WarmedH.trans hW0 hW
  have hcl : s.vm.findClass cls = some ce.cls := by
    have h9 := hO.cls
    rw [hvm] at h9
    exact h9
  have hall : s.sameButNew ({ U with vm := s.vm } : State) locs mc ms := by
    subst hA
    obtain ⟨e1, e2⟩ := hsame
    rw [State.setFrames_setFrames] at e1
    have h2 : (T.setVm s.vm).sameButNew ({ U with vm := s.vm } : State) [] (0 + 1) (0 + 6) := ⟨e1, e2⟩
    have h3 := X.same.trans h2
    rw [List.append_nil] at h3
    exact h3.mono hc hs
  refine ⟨U, ?_, .threw T.heap.size, hrun, hend, Or.inr ⟨T.heap.size, rfl, cls, ce, locs, hx U hWs.alike f1 (fun q hq => f2 q hq (fun z hz => nomatch hz)), hce, hO.vm, hcl, hWs, hall, hf⟩⟩
  refine st1 _ ?_
  show Steps p.tables e below (T1.setTop { method := m, pc := pc + 3, locals := ls, stack := .ref T.heap.size :: rest, locked := none }) _
  jvm_step X₁.here [X₁.here.top, hexec, d3', Value.category]
  exact X₁.ldcString hexec (own := own) (text := text) (index := is) (a := sa) hown' hstr'.1 hstr'.2
    (g := { method := m, pc := pc + 4, locals := ls, stack := .ref T.heap.size :: .ref T.heap.size :: rest, locked := none }) rfl d4' _ hsteps
/-- 'throw new E("text")', the text by a wide index -/
theorem vx_throwSW {cc : ByteArray} {pc : Nat} (hexec : p.tables.exec = Jvm.exec) (hb : c.code = cc) (hl : l.stackTraces = false) {own cls text : String} {names : List String} {ik is ic mc ms sa : Nat} {A : Nat → Prop}
    (hown : s.vm.findClass own = some m.cls) (hcls : Bundle.fit cls = true) (hnames : ∀ n ∈ names, Bundle.fit n = true)
    (hk : (Cond.classLink own ik cls).before args s = true) (hini : (Cond.initialized cls).before args s = true) (hstr : vk_R own is text sa s) (hat : ∀ w ∈ vx_atS own ic cls names, w.before args s = true)
    (hgood : ∀ w ∈ Cond.classLink own ik cls :: Cond.initialized cls :: vx_atS own ic cls names, vx_ot w = true)
    (hU : vx_Zq Bundle.tN "UNASSIGNED_STACK" Bundle.steD A s s.heap) (hN : vx_Zq Bundle.tN "SUPPRESSED_SENTINEL" Bundle.listD A s s.heap) (hS : va_S A s.heap H locs) (hsize : ls.size = c.maxLocals)
    (d0 : decode cc pc = .ok (.new ik, 3)) (d3 : decode cc (pc + 3) = .ok (.dup, 1)) (d4 : decode cc (pc + 4) = .ok (.ldc_w is, 3)) (d7 : decode cc (pc + 7) = .ok (.invokespecial ic, 3)) (d10 : decode cc (pc + 10) = .ok (.athrow, 1))
    (hout : ∀ x ∈ c.exceptionTable.toList, covers x (pc + 10) = false)
    (hRframes : names.length + 3 < R.frames) (hRlocals : (rest.map fun v => v.category).sum + (13 * (names.length + 1) + 43) ≤ R.locals) (hRcells : cells + 1 ≤ R.cells) (hRslots : slots + 6 ≤ R.slots) (hlocks : meth.locks = false)
    (hx : ∀ t : State, s.vm.Alike t.vm → H.size ≤ t.heap.size → (∀ q : Nat, q < H.size → t.heap[q]? = H[q]?) → XC cls s t)
    (hf : ∀ z ∈ locs, free z.base) (hc : cells + 1 ≤ mc) (hs : slots + 6 ≤ ms) :
    W p l e R s m args below meth c H locs cells slots (vx_MQ below Qc XC args s mc ms free) (F0 m pc ls rest) := by
  intro T hT X
  have htr : e.platform.stackTraces = false := (show e.platform.stackTraces = l.stackTraces by rw [X.admits.platform]).trans hl
  have Y := vx_rebase X (R' := { frames := R.frames, locals := R.locals, cells := 1, slots := 6 }) (Nat.le_refl _) (Nat.le_refl _) hRcells hRslots
  obtain ⟨s', hA⟩ : ∃ z, z = (T.setVm s.vm).setFrames (.invoking m args :: below) := ⟨_, rfl⟩
  rw [← hA] at Y
  have hvm : s'.vm = s.vm := by rw [hA]; rfl
  have hhp : s'.heap = H := by rw [hA]; exact hT
  have hW0 : s.WarmedH s'.vm := by rw [hvm]; exact State.WarmedH.refl s
  have hat' : ∀ w ∈ vx_atS own ic cls names, w.before args s' = true := fun w hw => vx_ot_at hW0 hvm.symm (hgood w (List.mem_cons_of_mem _ (List.mem_cons_of_mem _ hw))) (hat w hw)
  have hk' : (Cond.classLink own ik cls).before args s' = true := vx_ot_at hW0 hvm.symm (hgood _ List.mem_cons_self) hk
  have hini' : (Cond.initialized cls).before args s' = true := vx_ot_at hW0 hvm.symm (hgood _ (List.mem_cons_of_mem _ List.mem_cons_self)) hini
  have hU' : vx_Zq Bundle.tN "UNASSIGNED_STACK" Bundle.steD A s' s'.heap := by rw [hhp]; exact vx_Zq.moved hW0.alike (hU.kept hS.2.1)
  have hN' : vx_Zq Bundle.tN "SUPPRESSED_SENTINEL" Bundle.listD A s' s'.heap := by rw [hhp]; exact vx_Zq.moved hW0.alike (hN.kept hS.2.1)
  have h : ∀ w ∈ Bundle.ownAtoms own ic cls names, w.before args s' = true := vx_own hat' (vx_isRefq hU'.1) (vx_isRefq hN'.1) hU'.2.word hN'.2.word
  have hown' : s'.vm.findClass own = some m.cls := by rw [hvm]; exact hown
  have hins : (Cond.instantiable cls 6).before args s' = true := h _ (by simp [Bundle.ownAtoms])
  obtain ⟨vm₁, cX, kX, hfX, hkX, -, -, X₁, st1⟩ := Y.newCold hexec (own := own) (C := cls) (index := ik) (n := 6) hown' hk' hins hini'
    (g := F0 m pc ls rest) rfl (by rw [hb]; exact d0) (Nat.le_refl _) (Nat.le_refl _)
  generalize hT1 : (T.setVm vm₁).pushCell { cls := cX, slots := kX.instanceTypes.map defaultValue, vm := .none } = T1 at X₁ st1
  have hcat : (Value.ref T.heap.size).category = 1 := rfl
  have hcellA : T1.heap[T.heap.size]? = some (freshCell cX kX) := by rw [← hT1]; exact State.heap_pushCell_size _ _
  have d3' : decode c.code (pc + 3) = .ok (.dup, 1) := by rw [hb]; exact d3
  have d4' : decode c.code (pc + 4) = .ok (.ldc_w is, 3) := by rw [hb]; exact d4
  have hstr' : vk_R own is text sa s' := vk_R.warm hW0 hstr
  obtain ⟨U, hsteps, hrun, hend, hW, hsame, ce, hce, hO⟩ := X₁.ctorThrowS hexec htr (own := own) (cls := cls) (names := names) (ic := ic) hown' hcls hnames h (fun x hx => nomatch hx) hfX hkX hcellA (by rw [hhp, hT]; exact Nat.le_refl _) (msg := .ref sa) rfl
    (g := { method := m, pc := pc + 7, locals := ls, stack := .ref sa :: .ref T.heap.size :: .ref T.heap.size :: rest, locked := none }) rfl hsize rfl rfl (rest := rest) rfl
    (by rw [hb]; exact d7) (by rw [hb]; exact d10) hout hRframes (by simp only [List.map_cons, List.sum_cons, hcat]; omega) hlocks
  obtain ⟨f1, f2⟩ := vx_frame hsame
  rw [hhp] at f1 f2
  have hWs : s.WarmedH U.vm := State.WarmedH.trans hW0 hW
  have hcl : s.vm.findClass cls = some ce.cls := by
    have h9 := hO.cls
    rw [hvm] at h9
    exact h9
  have hall : s.sameButNew ({ U with vm := s.vm } : State) locs mc ms := by
    subst hA
    obtain ⟨e1, e2⟩ := hsame
    rw [State.setFrames_setFrames] at e1
    have h2 : (T.setVm s.vm).sameButNew ({ U with vm := s.vm } : State) [] (0 + 1) (0 + 6) := ⟨e1, e2⟩
    have h3 := X.same.trans h2
    rw [List.append_nil] at h3
    exact h3.mono hc hs
  refine ⟨U, ?_, .threw T.heap.size, hrun, hend, Or.inr ⟨T.heap.size, rfl, cls, ce, locs, hx U hWs.alike f1 (fun q hq => f2 q hq (fun z hz => nomatch hz)), hce, hO.vm, hcl, hWs, hall, hf⟩⟩
  refine st1 _ ?_
  show Steps p.tables e below (T1.setTop { method := m, pc := pc + 3, locals := ls, stack := .ref T.heap.size :: rest, locked := none }) _
  jvm_step X₁.here [X₁.here.top, hexec, d3', Value.category]
  exact X₁.ldcStringW hexec (own := own) (text := text) (index := is) (a := sa) hown' hstr'.1 hstr'.2
    (g := { method := m, pc := pc + 4, locals := ls, stack := .ref T.heap.size :: .ref T.heap.size :: rest, locked := none }) rfl d4' _ hsteps
end Ends
section Bodies
variable {l : Launch}
theorem vx_ofW {y : MethodName} {ws ws' : List Cond} {rm : Room} {Pc : Array Value → State → Prop} {Qc : Array Value → State → Outcome → State → Prop} {XC : String → State → State → Prop} {mc ms : Nat} {free : Addr → Prop} {cc : ByteArray} {maxL : Nat} {ret : Option FieldType}
    (hy : plainName y.cls = true) (hw : ws = Cond.code y cc maxL ret :: ws')
    (body : ∀ p e s m args below meth c s₁, BodyLoose p l y (headSpec ws rm) cc maxL ret e s m args below meth c s₁ → c.maxLocals = maxL → (∀ x ∈ c.exceptionTable.toList, False) → Pc args s →
      W p l e (headSpec ws rm).room s m args below meth c s.heap [] 0 0 (vx_MQ below Qc XC args s mc ms free) (entryFrame m args maxL)) : vx_Met l y ws rm Pc Qc XC mc ms free := by
  refine MetFree.of_bodyS (code := cc) (maxLocals := maxL) (ret := ret) hy ?_ ?_
  · intro args s m h hn
    obtain ⟨meth, c, h1, h2, h3, h4, h5, h6, -, -⟩ := Cond.code_spec hn (atoms_spec (ws := ws) h _ (by rw [hw]; exact List.mem_cons_self))
    exact ⟨meth, c, h1, h2, h3, h4, h5, h6⟩
  · intro p e s m args below meth c s₁ B hml hP _
    have hh0 : s₁.heap = s.heap := by rw [B.state]; rfl
    have ht : ∀ x ∈ c.exceptionTable.toList, False := by
      obtain ⟨meth9, c9, h1, h2, -, -, -, -, h7, -⟩ := Cond.code_spec B.named (atoms_spec (ws := ws) B.pre _ (by rw [hw]; exact List.mem_cons_self))
      cases Option.some.inj (h1.symm.trans B.method)
      cases Option.some.inj (h2.symm.trans (Stand.of_body B).code)
      intro x hx
      rw [Array.isEmpty_iff.mp h7] at hx
      cases hx
    obtain ⟨t, a1, o, b1, b2, b3⟩ := body p e s m args below meth c s₁ B hml ht hP s₁ hh0 (Stand.of_body B)
    exact ⟨t, o, a1, b1, b2, b3⟩
/-- the table of a body with handlers -/
theorem vx_table {p : Program} {x y : MethodName} {S : Spec} {cc bytes : ByteArray} {maxL maxL' : Nat} {ret ret' : Option FieldType} {e : Env} {s s₁ : State} {m : MethodId} {args : Array Value} {below : List Frame} {meth : Method} {c : Code} {hh : List (Nat × Nat × Nat × Nat)}
    (B : BodyLoose p l y S cc maxL ret e s m args below meth c s₁) (h : (Cond.codeWith y bytes maxL' ret' hh).before args s = true) : c.exceptionTable.toList = tableOf hh := by
  obtain ⟨m9, meth9, c9, hn9, h1, h2, -, -, h6, -⟩ := Cond.codeWith_spec h
  cases Option.some.inj (hn9.symm.trans B.named)
  cases Option.some.inj (h1.symm.trans B.method)
  cases Option.some.inj (h2.symm.trans (Stand.of_body B).code)
  rw [← h6, table_eq]
end Bodies
end VXA
/-! ===== END ===== -/
/-! ===== BEGIN a static call of a method with an exception table ===== -/
section VXS
variable {p : Program} {l : Launch} {e : Env} {R : Room} {s : State} {m : MethodId} {args : Array Value} {below : List Frame} {meth : Method} {c : Code} {T : State} {H : Heap} {locs : List Loc} {cells slots : Nat}
abbrev vx_CSW (R : Room) (s : State) (args : Array Value) (own : String) (index : Nat) (y : MethodName) (bytes : ByteArray) (maxL : Nat) (ret : Option FieldType) (hh : List (Nat × Nat × Nat × Nat)) (ws : List Cond) (rm : Room) (mc ms n : Nat) : Prop :=
  (rm.cells = mc ∧ rm.slots = ms ∧ rm.frames + 1 ≤ R.frames ∧ 8 + (maxL + 11) + rm.locals ≤ R.locals ∧ (∀ w ∈ ws, ∀ (a' : Array Value) (U : State), s.WarmedH U.vm → w.before a' U = true) ∧ Cond.codeWith y bytes maxL ret hh ∈ ws) ∧
  (Cond.codeWith y bytes maxL ret hh).before args s = true ∧ (Cond.initialized y.cls).before args s = true ∧ (y.cls ≠ "java/lang/invoke/MethodHandle" ∧ y.cls ≠ "java/lang/invoke/VarHandle") ∧
  (∀ sig, parseMethodDescriptor y.desc = some sig → n = sig.parameters.length) ∧ (Cond.methodLink own index y).before args s = true ∧ (Cond.static y).before args s = true
theorem vx_cwSW {own : String} {index maxL mc ms : Nat} {y : MethodName} {bytes : ByteArray} {ret : Option FieldType} {hh : List (Nat × Nat × Nat × Nat)} {Ts ws ws' : List Cond} {rm : Room} (n : Nat) (ht : ∀ w ∈ Ts, w.before args s = true) (hT : GoodIn Ts (va_wsS own index y ws)) (hw : ws = Cond.codeWith y bytes maxL ret hh :: ws') (hrc : rm.cells = mc) (hrs : rm.slots = ms)
    (hd : y.cls ≠ "java/lang/invoke/MethodHandle" ∧ y.cls ≠ "java/lang/invoke/VarHandle" ∧ (parseMethodDescriptor y.desc).map (fun d => d.parameters.length) = some n) (hR : rm.frames + 1 ≤ R.frames ∧ 8 + (maxL + 11) + rm.locals ≤ R.locals) :
    vx_CSW R s args own index y bytes maxL ret hh ws rm mc ms n := by
  have ok : ∀ w ∈ va_wsS own index y ws, w.before args s = true := fun w h => ht w (hT w h).1
  have hG : GoodIn Ts ws := fun w h => hT w (by unfold va_wsS; exact List.mem_append_right _ h)
  have hc : Cond.codeWith y bytes maxL ret hh ∈ ws := by rw [hw]; exact List.mem_cons_self
  refine ⟨⟨hrc, hrs, hR.1, hR.2, pay_in ht hG, hc⟩, ht _ (hG _ hc).1, ok _ (by simp [va_wsS]), ⟨hd.1, hd.2.1⟩, fun sig h => ?_, ok _ (by simp [va_wsS]), ok _ (by simp [va_wsS])⟩
  have h2 := hd.2.2
  rw [h] at h2
  exact (Option.some.inj h2).symm
theorem vx_callSW (X : Stand p l e R s m args below meth c T locs cells slots) (hexec : p.tables.exec = Jvm.exec) {own : String} {index : Nat} {y : MethodName} {bytes : ByteArray} {maxL : Nat} {ret : Option FieldType} {hh : List (Nat × Nat × Nat × Nat)}
    (hown : s.vm.findClass own = some m.cls) (hlink : (Cond.methodLink own index y).before args s = true) (hstat : (Cond.static y).before args s = true) (hinit : (Cond.initialized y.cls).before args s = true)
    (hcode : (Cond.codeWith y bytes maxL ret hh).before args s = true) (hy : y.cls ≠ "java/lang/invoke/MethodHandle" ∧ y.cls ≠ "java/lang/invoke/VarHandle")
    {W9 : Nat} {Pre : Pt → Array Value → Prop} {Post : Pt → Array Value → Option Value → Pt → Prop} (hK : Back l R p e below s args y 3 W9 Pre Post)
    {g : JFrame} (hg : g.method = m) (hsize : g.locals.size = c.maxLocals) {argsL rest : List Value} (hlen : ∀ sig, parseMethodDescriptor y.desc = some sig → argsL.length = sig.parameters.length)
    (hstack : g.stack = argsL.reverse ++ rest) (hW : 2 * g.monitorRoom + (rest.map fun v => v.category).sum ≤ W9) (hdg : decode c.code g.pc = .ok (.invokestatic index, 3))
    (hpre : ∀ vm₁, s.WarmedH vm₁ → Pre ⟨T.setVm vm₁, locs, cells, slots⟩ argsL.toArray) :
    ∃ (v : Option Value) (vm₁ : Vm) (B : Pt), s.WarmedH vm₁ ∧ Stand p l e R s m args below meth c B.U B.locs B.cells B.slots ∧ Post ⟨T.setVm vm₁, locs, cells, slots⟩ argsL.toArray v B ∧
      ∀ target, Steps p.tables e below (B.U.setTop { g with pc := g.pc + 3, stack := v.toList ++ rest }) target → Steps p.tables e below (T.setTop g) target := by
  obtain ⟨mk, methM, cM, hnamed, hmethM, -, -, -, -, -, -, hsigM⟩ := Cond.codeWith_spec hcode
  have hstatic : methM.isStatic = true := Cond.static_spec hnamed hmethM hstat
  obtain ⟨kP, hkP, -⟩ := className_of_methodNamed hnamed
  have hinitP : kP.init = .initialized := Cond.initialized_spec (findClass_of_methodNamed hnamed) hkP hinit
  obtain ⟨vm₁, X₁, hstep₁⟩ := X.invokestatic hexec hown hlink hnamed hmethM hstatic hkP hinitP hy (g := g) hg (argsL := argsL) (rest := rest) (hlen _ hsigM) hstack hdg
  obtain ⟨v, B, X', hpost, hsteps⟩ := hK m meth c ⟨T.setVm vm₁, locs, cells, slots⟩ { g with stack := rest } (.invokestatic index) mk argsL.toArray X₁ hg hsize hdg hW (X₁.named hnamed) (hpre vm₁ X₁.warmed)
  exact ⟨v, vm₁, B, X₁.warmed, X', hpost, fun target h => hstep₁ _ fun acts => by rw [doInvoke_state]; exact hsteps.trans h⟩
theorem vx_runSW {y : MethodName} {bytes cc : ByteArray} {maxL nL mc ms n index : Nat} {ret : Option FieldType} {hh : List (Nat × Nat × Nat × Nat)} {ws : List Cond} {rm : Room} {Pc : Array Value → State → Prop} {Qc : Array Value → State → Outcome → State → Prop} {free : Addr → Prop} {Ts : List Cond} {own : String} {As rest : List Value} {g : JFrame}
    (S : CallFix p m c cc nL s args Ts own) (hM : Met l y ws rm Pc Qc mc ms free) (cw : vx_CSW R s args own index y bytes maxL ret hh ws rm mc ms n) (hp : PreS s H Pc As)
    (hg : g.method = m) (hn : As.length = n) (hsize : g.locals.size = nL) (hstack : g.stack = As.reverse ++ rest) (hW : 2 * g.monitorRoom + (rest.map fun v => v.category).sum ≤ 8) (hdg : decode cc g.pc = .ok (.invokestatic index, 3)) (hf : cells + mc ≤ R.cells ∧ slots + ms ≤ R.slots) :
    va_Run p l e R s m args below meth c H locs cells slots mc ms g rest (Qc As.toArray) (free) := by
  obtain ⟨⟨hrc, hrs, hfr, hlo, hws, hcw⟩, hcode, hini, hy, hlen, hl, hstt⟩ := cw
  have hK : Back l R p e below s args y 3 8 (PreOf R mc ms Pc) (PostOf Qc mc ms free) := va_backW (hh := hh) (bytes := bytes) (maxL := maxL) (ret := ret) hM hp.1 hrc hrs hfr hlo hws hcw (fun a' U hW => word_at hW (Or.inl (by first | rfl | simp [Cond.onTables, Cond.keeps, Cond.steady])) hini)
  obtain ⟨hx, hb, hml, ho, -⟩ := S
  intro T hT X
  obtain ⟨v, vm₁, ⟨U', l2, c2, s2⟩, hW₁, X', ⟨g', mk, t, L, e1, e2, hq, h1, hL, h2, h3⟩, st⟩ := vx_callSW X hx (hh := hh) (bytes := bytes) (maxL := maxL) (ret := ret) ho hl hstt hini hcode hy hK hg (hsize.trans hml.symm) (argsL := As) (rest := rest) (fun sig h => hn.trans (hlen sig h)) hstack hW (by rw [hb]; exact hdg)
    (fun vm₁ hW₁ => ⟨hf.1, hf.2, hp.2 (T.setVm vm₁) hT hW₁⟩)
  dsimp only [Pt.U, Pt.locs, Pt.cells, Pt.slots] at X' e1 e2 h1 h2 h3 st
  subst h1; subst h2; subst h3
  exact ⟨v, (T.setVm vm₁).calling g' mk As.toArray, t, U', L, hT, X', hL, e1, e2, hq, st⟩
/-- not caught here, past rows that name other classes: it goes on to the caller -/
theorem vx_outP {p : Program} {l : Launch} {e : Env} {R : Room} {s : State} {m : MethodId} {args : Array Value} {below : List Frame} {meth : Method} {c : Code} {H : Heap} {locs : List Loc} {cells slots : Nat} {free : Addr → Prop} {ls : Array Slot} {rest : List Value} {Qc : Array Value → State → Outcome → State → Prop} {XC : String → State → State → Prop}
    {pc : Nat} {own E : String} {ce : Cell} {q : Addr} {mc ms : Nat} (hown : s.vm.findClass own = some m.cls) (hlocks : meth.locks = false)
    (hpass : ∀ z ∈ c.exceptionTable.toList, covers z pc = false ∨ (z.catchType ≠ 0 ∧ ∃ nm : String, (Cond.classLink own z.catchType nm).before args s = true ∧ va_Nc E nm s)) (hcell : H[q]? = some ce) (hv : ce.vm = .none) (hcl : s.vm.findClass E = some ce.cls)
    (hx : ∀ t : State, t.heap = H → s.vm.Alike t.vm → XC E s t) (hf : ∀ z ∈ locs, free z.base) (hc : cells ≤ mc) (hs : slots ≤ ms) :
    vx_W p l e R s m args below meth c H locs cells slots (vx_MQ below Qc XC args s mc ms free) (F0 m pc ls rest) q := by
  intro T hT X
  have hpl : e.platform.magicAccessors = ({} : Platform).magicAccessors := by rw [X.admits.platform]
  obtain ⟨vm', hW', X', st⟩ := X.outThrough hlocks q (g := F0 m pc ls rest) rfl rfl rfl (cell := ce) (by rw [hT]; exact hcell) (by rw [hv]; rfl)
    (by obtain ⟨k9, h9, -⟩ := Vm.findClass_spec hcl; exact ⟨k9, h9⟩) (fun z hz => by
      rcases hpass z hz with h | ⟨hz0, nm, hl1, hn1⟩
      · exact Or.inl h
      · obtain ⟨c6, hc6, hcl6⟩ := Cond.classLink_spec hown hl1 e.platform hpl
        obtain ⟨a8, b8, h1, h2, h3⟩ := hn1
        cases Option.some.inj (h1.symm.trans hcl)
        cases Option.some.inj (h2.symm.trans hc6)
        exact Or.inr ⟨hz0, _, hcl6, h3⟩)
  obtain ⟨g₀, hfr⟩ := X'.frames_eq
  have hcell9 : ((T.setVm vm').setFrames (.throwing q :: below)).heap[q]? = some ce := by
    show T.heap[q]? = some ce
    rw [hT]; exact hcell
  have hend : Ended ((T.setVm vm').setFrames (.throwing q :: below)) below (.threw q) := State.frames_setFrames _ (State.cur_lt_of_frames hfr)
  refine ⟨(T.setVm vm').setFrames (.throwing q :: below), ?_, .threw q, X'.here.running, hend, Or.inr ⟨q, rfl, E, ce, locs, hx _ hT (X'.ends _).1.alike, hcell9, hv, hcl, (X'.ends _).1, (X'.ends _).2.mono hc hs, hf⟩⟩
  rw [X.pushThrowing_eq]
  exact st
/-- a thing of a world lies in the heap -/
theorem vx_lt {D : va_G} {cl : List vw_C} {ws : va_W} {H1 : Heap} (h : va_P D cl ws H1) {k : Nat} {q : Nat × va_E} (hk : ws[k]? = some q) : q.1 < H1.size := (h k q hk).lt
end VXS
/-! ===== END ===== -/
/-! ===== BEGIN methods with a table of their own: called by a name, returning or throwing ===== -/
section VXH
/-! vx_backW, vx_callVX, vx_callSX, vx_callVW, vx_runVW, vx_runVX, vx_runSX, vx_ofWH follow the same proofs as their sisters above (Free/Laws.lean, Shelf42/LK1.lean); vx_outP calls Shelf42/NT130.lean (outThrough). -/
section
variable {l : Launch} {R : Room} {p : Program} {e : Env} {below : List Frame} {s : State} {sargs : Array Value} {y : MethodName} {len W9 : Nat}
theorem vx_backW {ws : List Cond} {rm : Room} {Pc : Array Value → State → Prop} {Qc : Array Value → State → Outcome → State → Prop} {XC : String → State → State → Prop} {mc ms : Nat} {free : Addr → Prop} {bytes : ByteArray} {maxL : Nat} {ret : Option FieldType} {hh : List (Nat × Nat × Nat × Nat)}
    (hM : vx_Met l y ws rm Pc Qc XC mc ms free) (hblind : FrameBlind Pc) (hrc : rm.cells = mc) (hrs : rm.slots = ms)
    (hframes : rm.frames + 1 ≤ R.frames) (hlocals : W9 + (maxL + 11) + rm.locals ≤ R.locals)
    (hws : ∀ w ∈ ws, ∀ a' U, s.WarmedH U.vm → w.before a' U = true) (hcode : Cond.codeWith y bytes maxL ret hh ∈ ws) (hinit : ∀ a' U, s.WarmedH U.vm → (Cond.initialized y.cls).before a' U = true) :
    vx_Back l R p e below s sargs y len W9 (PreOf R mc ms Pc) (PostOf Qc mc ms free) (vx_Post XC mc ms free) := by
  intro m meth c A g ig mk a X hg hsize hdg hW hn hp
  have h1 : (headSpec ws rm).pre.before a A.U = true := atoms_intro fun w hw => hws w hw _ _ X.warmed
  have h2 : (Cond.codeWith y bytes maxL ret hh).before a A.U = true := hws _ hcode _ _ X.warmed
  have h3 : (Cond.initialized y.cls).before a A.U = true := hinit _ _ X.warmed
  have h4 : A.cells + (headSpec ws rm).room.cells ≤ R.cells := by rw [show (headSpec ws rm).room.cells = mc from hrc]; exact hp.1
  have h5 : A.slots + (headSpec ws rm).room.slots ≤ R.slots := by rw [show (headSpec ws rm).room.slots = ms from hrs]; exact hp.2.1
  have hPc : Pc a (A.U.calling g mk a) := hblind _ _ _ _ hp.2.2
  obtain ⟨U, Ls, c0, s0⟩ := A
  dsimp only [Pt.U, Pt.locs, Pt.cells, Pt.slots] at h1 h2 h3 h4 h5 X hn hPc ⊢
  obtain ⟨m9, methY, cY, hn9, hmY, hcY, -, hlY, -⟩ := Cond.codeWith_spec h2
  cases Option.some.inj (hn9.symm.trans hn)
  obtain ⟨kY, hkY, -⟩ := className_of_methodNamed hn
  have hinitY : kY.init = .initialized := Cond.initialized_spec (findClass_of_methodNamed hn) hkY h3
  have h : At U g.method c below := by rw [hg]; exact X.here
  have hlocals9 : W9 + (maxL + 11) + (headSpec ws rm).room.locals ≤ R.locals := hlocals
  have happ : (headSpec ws rm).appliesLoose y e.platform (U.calling g mk a) = true :=
    Spec.appliesLoose_calling (g := g) h hdg hn hkY hinitY
      (X.room_calling (g := g) (R' := (headSpec ws rm).room) hsize hmY hcY hframes (by rw [hlY]; omega) h4 h5) h1
  obtain ⟨mid, hmid⟩ := h.above
  have hfr : (U.setTop g).frames = (.java g :: mid) ++ below := by rw [State.frames_setTop' g h.top, hmid]; rfl
  obtain ⟨o, s₂, hsteps, -, hend, hq⟩ := Steps.callFree hM p X.admits X.cas X.clock (acts := []) hfr happ hPc trivial
  have hq' : vx_Q Qc XC mc ms free a (U.calling g mk a) o s₂ := hq
  rw [State.frames_setTop' g h.top] at hend
  obtain ⟨g₀, hg0⟩ := Option.isSome_iff_exists.mp h.top
  obtain ⟨r, hr⟩ := State.topJava?_eq_some.mp hg0
  have hr' : (({ U with heap := s₂.heap, slotsUsed := s₂.slotsUsed } : State).setVm s₂.vm).frames = .java g₀ :: r := hr
  rcases hq' with ⟨hqc, L, hfe, hL⟩ | ⟨q, rfl, E, ce, L, hx, hce, hcv, hcl, hW₂, hsm, hL⟩
  · obtain ⟨⟨v, rfl⟩, hW₂, e2, q2, q3, q4, q5, q6⟩ := id hfe
    have e3 : s₂ = ({ (U.calling g mk a).setFrames s₂.frames with heap := s₂.heap, slotsUsed := s₂.slotsUsed } : State).setVm s₂.vm := by
      have : s₂ = ({ s₂ with vm := (U.calling g mk a).vm } : State).setVm s₂.vm := rfl
      rw [e2] at this
      exact this
    obtain ⟨c₂, i₂, len₂, hc₂, hd₂, hf₂⟩ := hend
    have hW' : U.WarmedH s₂.vm := hW₂
    have hcc : c₂ = c := by
      have h1 : s₂.code? g.method = U.code? g.method := by
        rw [State.code?_eq, State.code?_eq, hW'.alike.method?]
      exact Option.some.inj (hc₂.symm.trans (h1.trans h.code))
    subst hcc
    have hlen : len₂ = len := by rw [hdg] at hd₂; cases hd₂; rfl
    subst hlen
    have hs₂ : s₂ = (({ U with heap := s₂.heap, slotsUsed := s₂.slotsUsed } : State).setVm s₂.vm).setTop { g with pc := g.pc + len₂, stack := v.toList ++ g.stack } := by
      refine e3.trans ?_
      rw [hf₂, State.calling_eq h.top, State.setFrames_setFrames, State.setTop_of_frames _ hr', hr]
      rfl
    have hsame : U.sameButNew ({ U with heap := s₂.heap, slotsUsed := s₂.slotsUsed } : State) L mc ms := by
      refine ⟨?_, q2, q3, q4, q5, q6⟩
      obtain ⟨t, ht, -⟩ := State.frames_cons hr
      show ({ U with heap := s₂.heap, slotsUsed := s₂.slotsUsed } : State) = { U.setFrames U.frames with heap := s₂.heap, slotsUsed := s₂.slotsUsed }
      rw [State.setFrames_self ht]
    subst hg
    refine Or.inl ⟨v, ⟨(({ U with heap := s₂.heap, slotsUsed := s₂.slotsUsed } : State).setVm s₂.vm), Ls ++ L, c0 + mc, s0 + ms⟩,
      ⟨X.admits, X.cas, X.clock, X.frames, X.room, X.hears, X.method, X.code, (X.here.setHeapUsed s₂.heap s₂.slotsUsed).setVm hW'.alike, X.tail, State.WarmedH.trans X.warmed hW', X.limits, X.bytes, X.same.trans (hsame.setVm s.vm)⟩,
      ⟨g, mk, s₂, L, rfl, rfl, hqc, rfl, hL, rfl, rfl⟩, ?_⟩
    show Steps p.tables e below _ ((({ U with heap := s₂.heap, slotsUsed := s₂.slotsUsed } : State).setVm s₂.vm).setTop { g with pc := g.pc + len₂, stack := v.toList ++ g.stack })
    rw [← hs₂]
    exact hsteps
  · obtain ⟨e2, q2, q3, q4, q5, q6⟩ := id hsm
    have e3 : s₂ = ({ (U.calling g mk a).setFrames s₂.frames with heap := s₂.heap, slotsUsed := s₂.slotsUsed } : State).setVm s₂.vm := by
      have : s₂ = ({ s₂ with vm := (U.calling g mk a).vm } : State).setVm s₂.vm := rfl
      rw [e2] at this
      exact this
    have hf₂ : s₂.frames = .throwing q :: .java g :: U.frames.tail := hend
    have hW' : U.WarmedH s₂.vm := hW₂
    have hs₂ : s₂ = ((({ U with heap := s₂.heap, slotsUsed := s₂.slotsUsed } : State).setVm s₂.vm).setTop g).pushFrame (.throwing q) := by
      refine e3.trans ?_
      rw [hf₂, State.calling_eq h.top, State.setFrames_setFrames, State.pushFrame, State.frames_setTop _ hr', State.setTop_of_frames _ hr', State.setFrames_setFrames, hr]
      rfl
    have hsame : U.sameButNew ({ U with heap := s₂.heap, slotsUsed := s₂.slotsUsed } : State) L mc ms := by
      refine ⟨?_, q2, q3, q4, q5, q6⟩
      obtain ⟨t, ht, -⟩ := State.frames_cons hr
      show ({ U with heap := s₂.heap, slotsUsed := s₂.slotsUsed } : State) = { U.setFrames U.frames with heap := s₂.heap, slotsUsed := s₂.slotsUsed }
      rw [State.setFrames_self ht]
    subst hg
    refine Or.inr ⟨q, ⟨(({ U with heap := s₂.heap, slotsUsed := s₂.slotsUsed } : State).setVm s₂.vm), Ls ++ L, c0 + mc, s0 + ms⟩,
      ⟨X.admits, X.cas, X.clock, X.frames, X.room, X.hears, X.method, X.code, (X.here.setHeapUsed s₂.heap s₂.slotsUsed).setVm hW'.alike, X.tail, State.WarmedH.trans X.warmed hW', X.limits, X.bytes, X.same.trans (hsame.setVm s.vm)⟩,
      ⟨g, mk, s₂, L, E, ce, rfl, rfl, hx, hce, hcv, hcl, rfl, hL, rfl, rfl⟩, ?_⟩
    show Steps p.tables e below _ (((({ U with heap := s₂.heap, slotsUsed := s₂.slotsUsed } : State).setVm s₂.vm).setTop g).pushFrame (.throwing q))
    rw [← hs₂]
    exact hsteps
end
variable {p : Program} {l : Launch} {e : Env} {R : Room} {s : State} {m : MethodId} {args : Array Value} {below : List Frame} {meth : Method} {c : Code} {T : State} {H : Heap} {locs : List Loc} {cells slots : Nat}
theorem vx_callVX (X : Stand p l e R s m args below meth c T locs cells slots) (hexec : p.tables.exec = Jvm.exec) {own C : String} {index : Nat} {y : MethodName} {bytes : ByteArray} {maxL : Nat} {ret : Option FieldType} {hh : List (Nat × Nat × Nat × Nat)}
    (hown : s.vm.findClass own = some m.cls) (hlink : (Cond.methodLink own index y).before args s = true) (hinst : (Cond.instanceMethod y).before args s = true) (hsel : (Cond.selects C y y).before args s = true)
    (hcode : (Cond.codeWith y bytes maxL ret hh).before args s = true) (hy : y.cls ≠ "java/lang/invoke/MethodHandle" ∧ y.cls ≠ "java/lang/invoke/VarHandle")
    {W9 : Nat} {Pre : Pt → Array Value → Prop} {Post : Pt → Array Value → Option Value → Pt → Prop} {PostX : Pt → Array Value → Addr → Pt → Prop} (hK : vx_Back l R p e below s args y 3 W9 Pre Post PostX)
    {b : Addr} {cellB : Cell} (hcell : T.heap[b]? = some cellB) (hobj : cellB.vm.isStatics = false) (hcls : s.vm.findClass C = some cellB.cls)
    {g : JFrame} (hg : g.method = m) (hsize : g.locals.size = c.maxLocals) {argsL rest : List Value} (hlen : ∀ sig, parseMethodDescriptor y.desc = some sig → argsL.length = sig.parameters.length)
    (hstack : g.stack = argsL.reverse ++ .ref b :: rest) (hW : 2 * g.monitorRoom + (rest.map fun v => v.category).sum ≤ W9) (hdg : decode c.code g.pc = .ok (.invokevirtual index, 3))
    (hpre : ∀ vm₁, s.WarmedH vm₁ → Pre ⟨T.setVm vm₁, locs, cells, slots⟩ (Value.ref b :: argsL).toArray) :
    (∃ (v : Option Value) (vm₁ : Vm) (B : Pt), s.WarmedH vm₁ ∧ Stand p l e R s m args below meth c B.U B.locs B.cells B.slots ∧ Post ⟨T.setVm vm₁, locs, cells, slots⟩ (Value.ref b :: argsL).toArray v B ∧
      ∀ target, Steps p.tables e below (B.U.setTop { g with pc := g.pc + 3, stack := v.toList ++ rest }) target → Steps p.tables e below (T.setTop g) target) ∨
    (∃ (q : Addr) (vm₁ : Vm) (B : Pt), s.WarmedH vm₁ ∧ Stand p l e R s m args below meth c B.U B.locs B.cells B.slots ∧ PostX ⟨T.setVm vm₁, locs, cells, slots⟩ (Value.ref b :: argsL).toArray q B ∧
      Steps p.tables e below (T.setTop g) ((B.U.setTop { g with stack := rest }).pushFrame (.throwing q))) := by
  obtain ⟨mk, methM, hnamed, hmethM, hstM, habM⟩ := Cond.instanceMethod_spec hinst
  obtain ⟨m8, methM', cM, hn8, hmethM', -, -, -, -, -, -, hsigM⟩ := Cond.codeWith_spec hcode
  cases Option.some.inj (hn8.symm.trans hnamed)
  cases hmethM.symm.trans hmethM'
  obtain ⟨c2, r2, m2, q1, q2, q3, q4, kP, hkP, hkPi⟩ := Cond.selects_spec hsel
  cases hcls.symm.trans q1
  cases (State.methodFound?_of_named hnamed hy).symm.trans q2
  cases hnamed.symm.trans q3
  have hselP : selectMethod e.platform s.vm cellB.cls mk = .method mk := by rw [Launch.admits_selectMethod X.admits]; exact q4
  obtain ⟨vm₁, X₁, hstep₁⟩ := X.invokevirtual hexec hown hlink hnamed hmethM hstM hkP hkPi hy (a := b) (cell := cellB) hcell
    (fun z h => by rw [h] at hobj; cases hobj) hselP hmethM habM hkP hkPi (g := g) hg (argsL := argsL) (rest := rest) (hlen _ hsigM) hstack hdg
  rcases hK m meth c ⟨T.setVm vm₁, locs, cells, slots⟩ { g with stack := rest } (.invokevirtual index) mk (Value.ref b :: argsL).toArray X₁ hg hsize hdg hW (X₁.named hnamed) (hpre vm₁ X₁.warmed) with ⟨v, B, X', hpost, hsteps⟩ | ⟨q, B, X', hpost, hsteps⟩
  · exact Or.inl ⟨v, vm₁, B, X₁.warmed, X', hpost, fun target h => hstep₁ _ fun acts => by rw [doInvoke_state]; exact hsteps.trans h⟩
  · exact Or.inr ⟨q, vm₁, B, X₁.warmed, X', hpost, hstep₁ _ fun acts => by rw [doInvoke_state]; exact hsteps⟩
theorem vx_callSX (X : Stand p l e R s m args below meth c T locs cells slots) (hexec : p.tables.exec = Jvm.exec) {own : String} {index : Nat} {y : MethodName} {bytes : ByteArray} {maxL : Nat} {ret : Option FieldType} {hh : List (Nat × Nat × Nat × Nat)}
    (hown : s.vm.findClass own = some m.cls) (hlink : (Cond.methodLink own index y).before args s = true) (hstat : (Cond.static y).before args s = true) (hinit : (Cond.initialized y.cls).before args s = true)
    (hcode : (Cond.codeWith y bytes maxL ret hh).before args s = true) (hy : y.cls ≠ "java/lang/invoke/MethodHandle" ∧ y.cls ≠ "java/lang/invoke/VarHandle")
    {W9 : Nat} {Pre : Pt → Array Value → Prop} {Post : Pt → Array Value → Option Value → Pt → Prop} {PostX : Pt → Array Value → Addr → Pt → Prop} (hK : vx_Back l R p e below s args y 3 W9 Pre Post PostX)
    {g : JFrame} (hg : g.method = m) (hsize : g.locals.size = c.maxLocals) {argsL rest : List Value} (hlen : ∀ sig, parseMethodDescriptor y.desc = some sig → argsL.length = sig.parameters.length)
    (hstack : g.stack = argsL.reverse ++ rest) (hW : 2 * g.monitorRoom + (rest.map fun v => v.category).sum ≤ W9) (hdg : decode c.code g.pc = .ok (.invokestatic index, 3))
    (hpre : ∀ vm₁, s.WarmedH vm₁ → Pre ⟨T.setVm vm₁, locs, cells, slots⟩ argsL.toArray) :
    (∃ (v : Option Value) (vm₁ : Vm) (B : Pt), s.WarmedH vm₁ ∧ Stand p l e R s m args below meth c B.U B.locs B.cells B.slots ∧ Post ⟨T.setVm vm₁, locs, cells, slots⟩ argsL.toArray v B ∧
      ∀ target, Steps p.tables e below (B.U.setTop { g with pc := g.pc + 3, stack := v.toList ++ rest }) target → Steps p.tables e below (T.setTop g) target) ∨
    (∃ (q : Addr) (vm₁ : Vm) (B : Pt), s.WarmedH vm₁ ∧ Stand p l e R s m args below meth c B.U B.locs B.cells B.slots ∧ PostX ⟨T.setVm vm₁, locs, cells, slots⟩ argsL.toArray q B ∧
      Steps p.tables e below (T.setTop g) ((B.U.setTop { g with stack := rest }).pushFrame (.throwing q))) := by
  obtain ⟨mk, methM, cM, hnamed, hmethM, -, -, -, -, -, -, hsigM⟩ := Cond.codeWith_spec hcode
  have hstatic : methM.isStatic = true := Cond.static_spec hnamed hmethM hstat
  obtain ⟨kP, hkP, -⟩ := className_of_methodNamed hnamed
  have hinitP : kP.init = .initialized := Cond.initialized_spec (findClass_of_methodNamed hnamed) hkP hinit
  obtain ⟨vm₁, X₁, hstep₁⟩ := X.invokestatic hexec hown hlink hnamed hmethM hstatic hkP hinitP hy (g := g) hg (argsL := argsL) (rest := rest) (hlen _ hsigM) hstack hdg
  rcases hK m meth c ⟨T.setVm vm₁, locs, cells, slots⟩ { g with stack := rest } (.invokestatic index) mk argsL.toArray X₁ hg hsize hdg hW (X₁.named hnamed) (hpre vm₁ X₁.warmed) with ⟨v, B, X', hpost, hsteps⟩ | ⟨q, B, X', hpost, hsteps⟩
  · exact Or.inl ⟨v, vm₁, B, X₁.warmed, X', hpost, fun target h => hstep₁ _ fun acts => by rw [doInvoke_state]; exact hsteps.trans h⟩
  · exact Or.inr ⟨q, vm₁, B, X₁.warmed, X', hpost, hstep₁ _ fun acts => by rw [doInvoke_state]; exact hsteps⟩
theorem vx_callVW (X : Stand p l e R s m args below meth c T locs cells slots) (hexec : p.tables.exec = Jvm.exec) {own C : String} {index : Nat} {y : MethodName} {bytes : ByteArray} {maxL : Nat} {ret : Option FieldType} {hh : List (Nat × Nat × Nat × Nat)}
    (hown : s.vm.findClass own = some m.cls) (hlink : (Cond.methodLink own index y).before args s = true) (hinst : (Cond.instanceMethod y).before args s = true) (hsel : (Cond.selects C y y).before args s = true)
    (hcode : (Cond.codeWith y bytes maxL ret hh).before args s = true) (hy : y.cls ≠ "java/lang/invoke/MethodHandle" ∧ y.cls ≠ "java/lang/invoke/VarHandle")
    {W9 : Nat} {Pre : Pt → Array Value → Prop} {Post : Pt → Array Value → Option Value → Pt → Prop} (hK : Back l R p e below s args y 3 W9 Pre Post)
    {b : Addr} {cellB : Cell} (hcell : T.heap[b]? = some cellB) (hobj : cellB.vm.isStatics = false) (hcls : s.vm.findClass C = some cellB.cls)
    {g : JFrame} (hg : g.method = m) (hsize : g.locals.size = c.maxLocals) {argsL rest : List Value} (hlen : ∀ sig, parseMethodDescriptor y.desc = some sig → argsL.length = sig.parameters.length)
    (hstack : g.stack = argsL.reverse ++ .ref b :: rest) (hW : 2 * g.monitorRoom + (rest.map fun v => v.category).sum ≤ W9) (hdg : decode c.code g.pc = .ok (.invokevirtual index, 3))
    (hpre : ∀ vm₁, s.WarmedH vm₁ → Pre ⟨T.setVm vm₁, locs, cells, slots⟩ (Value.ref b :: argsL).toArray) :
    ∃ (v : Option Value) (vm₁ : Vm) (B : Pt), s.WarmedH vm₁ ∧ Stand p l e R s m args below meth c B.U B.locs B.cells B.slots ∧ Post ⟨T.setVm vm₁, locs, cells, slots⟩ (Value.ref b :: argsL).toArray v B ∧
      ∀ target, Steps p.tables e below (B.U.setTop { g with pc := g.pc + 3, stack := v.toList ++ rest }) target → Steps p.tables e below (T.setTop g) target := by
  obtain ⟨mk, methM, hnamed, hmethM, hstM, habM⟩ := Cond.instanceMethod_spec hinst
  obtain ⟨m8, methM', cM, hn8, hmethM', -, -, -, -, -, -, hsigM⟩ := Cond.codeWith_spec hcode
  cases Option.some.inj (hn8.symm.trans hnamed)
  cases hmethM.symm.trans hmethM'
  obtain ⟨c2, r2, m2, q1, q2, q3, q4, kP, hkP, hkPi⟩ := Cond.selects_spec hsel
  cases hcls.symm.trans q1
  cases (State.methodFound?_of_named hnamed hy).symm.trans q2
  cases hnamed.symm.trans q3
  have hselP : selectMethod e.platform s.vm cellB.cls mk = .method mk := by rw [Launch.admits_selectMethod X.admits]; exact q4
  obtain ⟨vm₁, X₁, hstep₁⟩ := X.invokevirtual hexec hown hlink hnamed hmethM hstM hkP hkPi hy (a := b) (cell := cellB) hcell
    (fun z h => by rw [h] at hobj; cases hobj) hselP hmethM habM hkP hkPi (g := g) hg (argsL := argsL) (rest := rest) (hlen _ hsigM) hstack hdg
  obtain ⟨v, B, X', hpost, hsteps⟩ := hK m meth c ⟨T.setVm vm₁, locs, cells, slots⟩ { g with stack := rest } (.invokevirtual index) mk (Value.ref b :: argsL).toArray X₁ hg hsize hdg hW (X₁.named hnamed) (hpre vm₁ X₁.warmed)
  exact ⟨v, vm₁, B, X₁.warmed, X', hpost, fun target h => hstep₁ _ fun acts => by rw [doInvoke_state]; exact hsteps.trans h⟩
abbrev vx_CVW (R : Room) (s : State) (args : Array Value) (own C : String) (index : Nat) (y : MethodName) (bytes : ByteArray) (maxL : Nat) (ret : Option FieldType) (hh : List (Nat × Nat × Nat × Nat)) (ws : List Cond) (rm : Room) (mc ms n : Nat) : Prop :=
  (rm.cells = mc ∧ rm.slots = ms ∧ rm.frames + 1 ≤ R.frames ∧ 8 + (maxL + 11) + rm.locals ≤ R.locals ∧ (∀ w ∈ ws, ∀ (a' : Array Value) (U : State), s.WarmedH U.vm → w.before a' U = true) ∧ Cond.codeWith y bytes maxL ret hh ∈ ws) ∧
  (Cond.codeWith y bytes maxL ret hh).before args s = true ∧ (Cond.initialized y.cls).before args s = true ∧ (y.cls ≠ "java/lang/invoke/MethodHandle" ∧ y.cls ≠ "java/lang/invoke/VarHandle") ∧
  (∀ sig, parseMethodDescriptor y.desc = some sig → n = sig.parameters.length) ∧ (Cond.methodLink own index y).before args s = true ∧ (Cond.instanceMethod y).before args s = true ∧ (Cond.selects C y y).before args s = true
theorem vx_cwVW {own C : String} {index maxL mc ms : Nat} {y : MethodName} {bytes : ByteArray} {ret : Option FieldType} {hh : List (Nat × Nat × Nat × Nat)} {Ts ws ws' : List Cond} {rm : Room} (n : Nat) (ht : ∀ w ∈ Ts, w.before args s = true) (hT : GoodIn Ts (wsV own index C y ws)) (hw : ws = Cond.codeWith y bytes maxL ret hh :: ws') (hrc : rm.cells = mc) (hrs : rm.slots = ms)
    (hd : y.cls = C ∧ y.cls ≠ "java/lang/invoke/MethodHandle" ∧ y.cls ≠ "java/lang/invoke/VarHandle" ∧ (parseMethodDescriptor y.desc).map (fun d => d.parameters.length) = some n) (hR : rm.frames + 1 ≤ R.frames ∧ 8 + (maxL + 11) + rm.locals ≤ R.locals) :
    vx_CVW R s args own C index y bytes maxL ret hh ws rm mc ms n := by
  obtain ⟨hC, hd⟩ := hd
  subst hC
  have ok : ∀ w ∈ wsV own index y.cls y ws, w.before args s = true := fun w h => ht w (hT w h).1
  have hG : GoodIn Ts ws := fun w h => hT w (by unfold wsV; exact List.mem_append_right _ h)
  have hc : Cond.codeWith y bytes maxL ret hh ∈ ws := by rw [hw]; exact List.mem_cons_self
  refine ⟨⟨hrc, hrs, hR.1, hR.2, pay_in ht hG, hc⟩, ht _ (hG _ hc).1, ok _ (by simp [wsV]), ⟨hd.1, hd.2.1⟩, fun sig h => ?_, ok _ (by simp [wsV]), ok _ (by simp [wsV]), ok _ (by simp [wsV])⟩
  have h2 := hd.2.2
  rw [h] at h2
  exact (Option.some.inj h2).symm
theorem vx_runVW {y : MethodName} {bytes cc : ByteArray} {maxL nL mc ms n index : Nat} {ret : Option FieldType} {hh : List (Nat × Nat × Nat × Nat)} {ws : List Cond} {rm : Room} {Pc : Array Value → State → Prop} {Qc : Array Value → State → Outcome → State → Prop} {free : Addr → Prop} {Ts : List Cond} {own C : String} {b : Addr} {As rest : List Value} {g : JFrame}
    (S : CallFix p m c cc nL s args Ts own) (hM : Met l y ws rm Pc Qc mc ms free) (cw : vx_CVW R s args own C index y bytes maxL ret hh ws rm mc ms n) (hp : PreV s H C b Pc As)
    (hg : g.method = m) (hn : As.length = n) (hsize : g.locals.size = nL) (hstack : g.stack = As.reverse ++ .ref b :: rest) (hW : 2 * g.monitorRoom + (rest.map fun v => v.category).sum ≤ 8) (hdg : decode cc g.pc = .ok (.invokevirtual index, 3)) (hf : cells + mc ≤ R.cells ∧ slots + ms ≤ R.slots) :
    va_Run p l e R s m args below meth c H locs cells slots mc ms g rest (Qc (Value.ref b :: As).toArray) free := by
  obtain ⟨⟨hrc, hrs, hfr, hlo, hws, hcw⟩, hcode, hini, hy, hlen, hl, hin, hse⟩ := cw
  have hK : Back l R p e below s args y 3 8 (PreOf R mc ms Pc) (PostOf Qc mc ms free) := va_backW (hh := hh) (bytes := bytes) (maxL := maxL) (ret := ret) hM hp.1 hrc hrs hfr hlo hws hcw (fun a' U hW => word_at hW (Or.inl (by first | rfl | simp [Cond.onTables, Cond.keeps, Cond.steady])) hini)
  obtain ⟨hx, hb, hml, ho, -⟩ := S
  obtain ⟨-, ⟨cellB, hcB, hoB, hclB⟩, hPc⟩ := hp
  intro T hT X
  obtain ⟨v, vm₁, ⟨U', l2, c2, s2⟩, hW₁, X', ⟨g', mk, t, L, e1, e2, hq, h1, hL, h2, h3⟩, st⟩ := vx_callVW X hx (C := C) (hh := hh) (bytes := bytes) (maxL := maxL) (ret := ret) ho hl hin hse hcode hy hK (by rw [hT]; exact hcB) hoB hclB hg (hsize.trans hml.symm) (argsL := As) (rest := rest) (fun sig h => hn.trans (hlen sig h)) hstack hW (by rw [hb]; exact hdg)
    (fun vm₁ hW₁ => ⟨hf.1, hf.2, hPc (T.setVm vm₁) hT hW₁⟩)
  dsimp only [Pt.U, Pt.locs, Pt.cells, Pt.slots] at X' e1 e2 h1 h2 h3 st
  subst h1; subst h2; subst h3
  exact ⟨v, (T.setVm vm₁).calling g' mk (Value.ref b :: As).toArray, t, U', L, hT, X', hL, e1, e2, hq, st⟩
section
variable {y : MethodName} {bytes cc : ByteArray} {maxL nL mc ms n index : Nat} {ret : Option FieldType} {ws : List Cond} {rm : Room} {Pc : Array Value → State → Prop} {Qc : Array Value → State → Outcome → State → Prop} {XC : String → State → State → Prop} {free : Addr → Prop} {Ts : List Cond} {own C : String} {b : Addr} {As rest : List Value} {g : JFrame}
theorem vx_runVX {hh : List (Nat × Nat × Nat × Nat)} (S : CallFix p m c cc nL s args Ts own) (hM : vx_Met l y ws rm Pc Qc XC mc ms free) (cw : vx_CVW R s args own C index y bytes maxL ret hh ws rm mc ms n) (hp : PreV s H C b Pc As)
    (hg : g.method = m) (hn : As.length = n) (hsize : g.locals.size = nL) (hstack : g.stack = As.reverse ++ .ref b :: rest) (hW : 2 * g.monitorRoom + (rest.map fun v => v.category).sum ≤ 8) (hdg : decode cc g.pc = .ok (.invokevirtual index, 3)) (hf : cells + mc ≤ R.cells ∧ slots + ms ≤ R.slots) :
    vx_Run p l e R s m args below meth c H locs cells slots mc ms g rest (Qc (Value.ref b :: As).toArray) XC free := by
  obtain ⟨⟨hrc, hrs, hfr, hlo, hws, hcw⟩, hcode, hini, hy, hlen, hl, hin, hse⟩ := cw
  have hK : vx_Back l R p e below s args y 3 8 (PreOf R mc ms Pc) (PostOf Qc mc ms free) (vx_Post XC mc ms free) := vx_backW (hh := hh) (bytes := bytes) (maxL := maxL) (ret := ret) hM hp.1 hrc hrs hfr hlo hws hcw (fun a' U hW => word_at hW (Or.inl (by first | rfl | simp [Cond.onTables, Cond.keeps, Cond.steady])) hini)
  obtain ⟨hx, hb, hml, ho, -⟩ := S
  obtain ⟨-, ⟨cellB, hcB, hoB, hclB⟩, hPc⟩ := hp
  intro T hT X
  rcases vx_callVX X hx (C := C) (hh := hh) (bytes := bytes) (maxL := maxL) (ret := ret) ho hl hin hse hcode hy hK (by rw [hT]; exact hcB) hoB hclB hg (hsize.trans hml.symm) (argsL := As) (rest := rest) (fun sig h => hn.trans (hlen sig h)) hstack hW (by rw [hb]; exact hdg)
    (fun vm₁ hW₁ => ⟨hf.1, hf.2, hPc (T.setVm vm₁) hT hW₁⟩) with ⟨v, vm₁, ⟨U', l2, c2, s2⟩, hW₁, X', ⟨g', mk, t, L, e1, e2, hq, h1, hL, h2, h3⟩, st⟩ | ⟨q, vm₁, ⟨U', l2, c2, s2⟩, hW₁, X', ⟨g', mk, t, L, E, ce, e1, e2, hq, hce, hcv, hcl, h1, hL, h2, h3⟩, st⟩
  · dsimp only [Pt.U, Pt.locs, Pt.cells, Pt.slots] at X' e1 e2 h1 h2 h3 st
    subst h1; subst h2; subst h3
    exact Or.inl ⟨v, (T.setVm vm₁).calling g' mk (Value.ref b :: As).toArray, t, U', L, hT, X', hL, e1, e2, hq, st⟩
  · dsimp only [Pt.U, Pt.locs, Pt.cells, Pt.slots] at X' e1 e2 h1 h2 h3 st hcl
    subst h1; subst h2; subst h3
    exact Or.inr ⟨q, (T.setVm vm₁).calling g' mk (Value.ref b :: As).toArray, t, U', L, E, ce, hT, X', hL, e1, e2, hq, hce, hcv, vx_cls hW₁ hcl, st⟩
theorem vx_runSX {hh : List (Nat × Nat × Nat × Nat)} (S : CallFix p m c cc nL s args Ts own) (hM : vx_Met l y ws rm Pc Qc XC mc ms free) (cw : vx_CSW R s args own index y bytes maxL ret hh ws rm mc ms n) (hp : PreS s H Pc As)
    (hg : g.method = m) (hn : As.length = n) (hsize : g.locals.size = nL) (hstack : g.stack = As.reverse ++ rest) (hW : 2 * g.monitorRoom + (rest.map fun v => v.category).sum ≤ 8) (hdg : decode cc g.pc = .ok (.invokestatic index, 3)) (hf : cells + mc ≤ R.cells ∧ slots + ms ≤ R.slots) :
    vx_Run p l e R s m args below meth c H locs cells slots mc ms g rest (Qc As.toArray) XC free := by
  obtain ⟨⟨hrc, hrs, hfr, hlo, hws, hcw⟩, hcode, hini, hy, hlen, hl, hstt⟩ := cw
  have hK : vx_Back l R p e below s args y 3 8 (PreOf R mc ms Pc) (PostOf Qc mc ms free) (vx_Post XC mc ms free) := vx_backW (hh := hh) (bytes := bytes) (maxL := maxL) (ret := ret) hM hp.1 hrc hrs hfr hlo hws hcw (fun a' U hW => word_at hW (Or.inl (by first | rfl | simp [Cond.onTables, Cond.keeps, Cond.steady])) hini)
  obtain ⟨hx, hb, hml, ho, -⟩ := S
  intro T hT X
  rcases vx_callSX X hx (hh := hh) (bytes := bytes) (maxL := maxL) (ret := ret) ho hl hstt hini hcode hy hK hg (hsize.trans hml.symm) (argsL := As) (rest := rest) (fun sig h => hn.trans (hlen sig h)) hstack hW (by rw [hb]; exact hdg)
    (fun vm₁ hW₁ => ⟨hf.1, hf.2, hp.2 (T.setVm vm₁) hT hW₁⟩) with ⟨v, vm₁, ⟨U', l2, c2, s2⟩, hW₁, X', ⟨g', mk, t, L, e1, e2, hq, h1, hL, h2, h3⟩, st⟩ | ⟨q, vm₁, ⟨U', l2, c2, s2⟩, hW₁, X', ⟨g', mk, t, L, E, ce, e1, e2, hq, hce, hcv, hcl, h1, hL, h2, h3⟩, st⟩
  · dsimp only [Pt.U, Pt.locs, Pt.cells, Pt.slots] at X' e1 e2 h1 h2 h3 st
    subst h1; subst h2; subst h3
    exact Or.inl ⟨v, (T.setVm vm₁).calling g' mk As.toArray, t, U', L, hT, X', hL, e1, e2, hq, st⟩
  · dsimp only [Pt.U, Pt.locs, Pt.cells, Pt.slots] at X' e1 e2 h1 h2 h3 st hcl
    subst h1; subst h2; subst h3
    exact Or.inr ⟨q, (T.setVm vm₁).calling g' mk As.toArray, t, U', L, E, ce, hT, X', hL, e1, e2, hq, hce, hcv, vx_cls hW₁ hcl, st⟩
end
end VXH
theorem vx_ofWH {l : Launch} {y : MethodName} {ws ws' : List Cond} {rm : Room} {Pc : Array Value → State → Prop} {Qc : Array Value → State → Outcome → State → Prop} {XC : String → State → State → Prop} {mc ms : Nat} {free : Addr → Prop} {cc : ByteArray} {maxL : Nat} {ret : Option FieldType} {hh : List (Nat × Nat × Nat × Nat)}
    (hy : plainName y.cls = true) (hw : ws = Cond.codeWith y cc maxL ret hh :: ws')
    (body : ∀ p e s m args below meth c s₁, BodyLoose p l y (headSpec ws rm) cc maxL ret e s m args below meth c s₁ → c.maxLocals = maxL → Pc args s →
      W p l e (headSpec ws rm).room s m args below meth c s.heap [] 0 0 (vx_MQ below Qc XC args s mc ms free) (entryFrame m args maxL)) : vx_Met l y ws rm Pc Qc XC mc ms free := by
  refine MetFree.of_bodyS (code := cc) (maxLocals := maxL) (ret := ret) hy ?_ ?_
  · intro args s m h hn
    obtain ⟨m9, meth, c, hn9, h1, h2, h3, h4, -, h5, h6, -⟩ := Cond.codeWith_spec (atoms_spec (ws := ws) h _ (by rw [hw]; exact List.mem_cons_self))
    cases hn.symm.trans hn9
    exact ⟨meth, c, h1, h2, h3, h4, h5, h6⟩
  · intro p e s m args below meth c s₁ B hml hP _
    have hh0 : s₁.heap = s.heap := by rw [B.state]; rfl
    obtain ⟨t, a1, o, b1, b2, b3⟩ := body p e s m args below meth c s₁ B hml hP s₁ hh0 (Stand.of_body B)
    exact ⟨t, o, a1, b1, b2, b3⟩
/-! ===== END ===== -/
end
section
/-! ===== BEGIN printed: names, fields, word lists, decode rows ===== -/
def RX0 : String := "MarketAwnings$Awning"
def TX0 : u_T := fun k => match k with
  | 0 => ("MarketAwnings$Awning", "x", "I", false)
  | 1 => ("MarketAwnings$Awning", "y", "I", false)
  | 2 => ("MarketAwnings$Awning", "w", "I", true)
  | 3 => ("MarketAwnings$Awning", "h", "I", true)
  | 4 => ("MarketAwnings$Awning", "level", "I", true)
  | 5 => ("MarketAwnings$Awning", "side", "I", true)
  | 6 => ("MarketAwnings$Awning", "out", "Z", false)
  | _ => ("MarketAwnings$Awning", "dripped", "I", false)
def tyX0 : Nat → FieldType := fun k => match k with
  | 0 => .int
  | 1 => .int
  | 2 => .int
  | 3 => .int
  | 4 => .int
  | 5 => .int
  | 6 => .boolean
  | _ => .int
abbrev wsX00 : List Cond := u_ws RX0 TX0 8
theorem nmX0 : ∀ a, a < 8 → ∀ b, b < 8 → a ≠ b → (TX0 a).2.1 ≠ (TX0 b).2.1 := by decide +kernel
theorem tyX0_ok : ∀ k, k < 8 → parseFieldDescriptor (TX0 k).2.2.1 = some (tyX0 k) := by decide +kernel
abbrev cX0_init : ByteArray := prog_2_method_1_code
def yX0_init : MethodName := ⟨RX0, "<init>", "(IIIIII)V"⟩
abbrev cX0_covers : ByteArray := prog_2_method_2_code
def yX0_covers : MethodName := ⟨RX0, "covers", "(II)Z"⟩
abbrev cX0_dripsAlongRows : ByteArray := prog_2_method_3_code
def yX0_dripsAlongRows : MethodName := ⟨RX0, "dripsAlongRows", "()Z"⟩
abbrev cX0_cellsBeyond : ByteArray := prog_2_method_4_code
def yX0_cellsBeyond : MethodName := ⟨RX0, "cellsBeyond", "()I"⟩
abbrev cX0_columnBeyond : ByteArray := prog_2_method_5_code
def yX0_columnBeyond : MethodName := ⟨RX0, "columnBeyond", "(I)I"⟩
abbrev cX0_rowBeyond : ByteArray := prog_2_method_6_code
def yX0_rowBeyond : MethodName := ⟨RX0, "rowBeyond", "(I)I"⟩
def RX1 : String := "MarketAwnings$Canopy"
def TX1 : u_T := fun k => match k with
  | 0 => ("MarketAwnings$Canopy", "awnings", "Ljava/util/ArrayList;", true)
  | 1 => ("MarketAwnings$Canopy", "layers", "[I", true)
  | 2 => ("MarketAwnings$Canopy", "reached", "[I", true)
  | 3 => ("MarketAwnings$Canopy", "queue", "[I", true)
  | _ => ("MarketAwnings$Canopy", "queued", "I", false)
def tyX1 : Nat → FieldType := fun k => match k with
  | 0 => .object "java/util/ArrayList"
  | 1 => .array .int
  | 2 => .array .int
  | 3 => .array .int
  | _ => .int
abbrev wsX10 : List Cond := u_ws RX1 TX1 5
theorem nmX1 : ∀ a, a < 5 → ∀ b, b < 5 → a ≠ b → (TX1 a).2.1 ≠ (TX1 b).2.1 := by decide +kernel
theorem tyX1_ok : ∀ k, k < 5 → parseFieldDescriptor (TX1 k).2.2.1 = some (tyX1 k) := by decide +kernel
abbrev cX1_init : ByteArray := prog_3_method_1_code
def yX1_init : MethodName := ⟨RX1, "<init>", "()V"⟩
abbrev cX1_size : ByteArray := prog_3_method_2_code
def yX1_size : MethodName := ⟨RX1, "size", "()I"⟩
abbrev cX1_sizeOut : ByteArray := prog_3_method_3_code
def yX1_sizeOut : MethodName := ⟨RX1, "sizeOut", "()I"⟩
abbrev cX1_numbered : ByteArray := prog_3_method_4_code
def yX1_numbered : MethodName := ⟨RX1, "numbered", "(I)LMarketAwnings$Awning;"⟩
abbrev cX1_append : ByteArray := prog_3_method_5_code
def yX1_append : MethodName := ⟨RX1, "append", "(LMarketAwnings$Awning;)V"⟩
abbrev cX1_drop : ByteArray := prog_3_method_6_code
def yX1_drop : MethodName := ⟨RX1, "drop", "(I)V"⟩
abbrev cX1_layOut : ByteArray := prog_3_method_7_code
def yX1_layOut : MethodName := ⟨RX1, "layOut", "()V"⟩
abbrev cX1_layOver : ByteArray := prog_3_method_8_code
def yX1_layOver : MethodName := ⟨RX1, "layOver", "(LMarketAwnings$Awning;)V"⟩
abbrev cX1_layersAt : ByteArray := prog_3_method_9_code
def yX1_layersAt : MethodName := ⟨RX1, "layersAt", "(II)I"⟩
abbrev cX1_highestBelow : ByteArray := prog_3_method_10_code
def yX1_highestBelow : MethodName := ⟨RX1, "highestBelow", "(III)I"⟩
abbrev cX1_covered : ByteArray := prog_3_method_11_code
def yX1_covered : MethodName := ⟨RX1, "covered", "()I"⟩
abbrev cX1_cellsWithLayers : ByteArray := prog_3_method_12_code
def yX1_cellsWithLayers : MethodName := ⟨RX1, "cellsWithLayers", "(I)I"⟩
abbrev cX1_coveredOnlyBy : ByteArray := prog_3_method_13_code
def yX1_coveredOnlyBy : MethodName := ⟨RX1, "coveredOnlyBy", "(LMarketAwnings$Awning;)I"⟩
abbrev cX1_outline : ByteArray := prog_3_method_15_code
def yX1_outline : MethodName := ⟨RX1, "outline", "()I"⟩
abbrev cX1_openSides : ByteArray := prog_3_method_16_code
def yX1_openSides : MethodName := ⟨RX1, "openSides", "(II)I"⟩
abbrev cX1_openAt : ByteArray := prog_3_method_17_code
def yX1_openAt : MethodName := ⟨RX1, "openAt", "(II)I"⟩
abbrev cX1_parts : ByteArray := prog_3_method_18_code
def yX1_parts : MethodName := ⟨RX1, "parts", "()I"⟩
abbrev cX1_reachAllFromQueue : ByteArray := prog_3_method_19_code
def yX1_reachAllFromQueue : MethodName := ⟨RX1, "reachAllFromQueue", "()V"⟩
abbrev cX1_reach : ByteArray := prog_3_method_20_code
def yX1_reach : MethodName := ⟨RX1, "reach", "(II)V"⟩
abbrev cX1_coveredInColumn : ByteArray := prog_3_method_21_code
def yX1_coveredInColumn : MethodName := ⟨RX1, "coveredInColumn", "(I)I"⟩
abbrev cX1_runsInColumn : ByteArray := prog_3_method_22_code
def yX1_runsInColumn : MethodName := ⟨RX1, "runsInColumn", "(I)I"⟩
abbrev cX1_longestRunInColumn : ByteArray := prog_3_method_23_code
def yX1_longestRunInColumn : MethodName := ⟨RX1, "longestRunInColumn", "(I)I"⟩
abbrev cX1_mostLayersInColumn : ByteArray := prog_3_method_24_code
def yX1_mostLayersInColumn : MethodName := ⟨RX1, "mostLayersInColumn", "(I)I"⟩
def RX2 : String := "MarketAwnings$Shower"
def TX2 : u_T := fun k => match k with
  | 0 => ("MarketAwnings$Shower", "canopy", "LMarketAwnings$Canopy;", true)
  | 1 => ("MarketAwnings$Shower", "fallen", "[I", true)
  | 2 => ("MarketAwnings$Shower", "caught", "[I", true)
  | 3 => ("MarketAwnings$Shower", "onGround", "I", false)
  | _ => ("MarketAwnings$Shower", "ranOff", "I", false)
def tyX2 : Nat → FieldType := fun k => match k with
  | 0 => .object "MarketAwnings$Canopy"
  | 1 => .array .int
  | 2 => .array .int
  | 3 => .int
  | _ => .int
abbrev wsX20 : List Cond := u_ws RX2 TX2 5
theorem nmX2 : ∀ a, a < 5 → ∀ b, b < 5 → a ≠ b → (TX2 a).2.1 ≠ (TX2 b).2.1 := by decide +kernel
theorem tyX2_ok : ∀ k, k < 5 → parseFieldDescriptor (TX2 k).2.2.1 = some (tyX2 k) := by decide +kernel
abbrev cX2_init : ByteArray := prog_4_method_1_code
def yX2_init : MethodName := ⟨RX2, "<init>", "(LMarketAwnings$Canopy;)V"⟩
abbrev cX2_pour : ByteArray := prog_4_method_2_code
def yX2_pour : MethodName := ⟨RX2, "pour", "(I)V"⟩
abbrev cX2_fallenAt : ByteArray := prog_4_method_3_code
def yX2_fallenAt : MethodName := ⟨RX2, "fallenAt", "(II)I"⟩
abbrev cX2_caughtBy : ByteArray := prog_4_method_4_code
def yX2_caughtBy : MethodName := ⟨RX2, "caughtBy", "(I)I"⟩
abbrev cX2_dry : ByteArray := prog_4_method_5_code
def yX2_dry : MethodName := ⟨RX2, "dry", "()V"⟩
abbrev cX2_dripFromLevel : ByteArray := prog_4_method_6_code
def yX2_dripFromLevel : MethodName := ⟨RX2, "dripFromLevel", "(I)V"⟩
abbrev cX2_drip : ByteArray := prog_4_method_7_code
def yX2_drip : MethodName := ⟨RX2, "drip", "(LMarketAwnings$Awning;I)V"⟩
abbrev cX2_land : ByteArray := prog_4_method_8_code
def yX2_land : MethodName := ⟨RX2, "land", "(IIII)V"⟩
def RX3 : String := "MarketAwnings$Stall"
def TX3 : u_T := fun k => match k with
  | 0 => ("MarketAwnings$Stall", "x", "I", true)
  | 1 => ("MarketAwnings$Stall", "y", "I", true)
  | _ => ("MarketAwnings$Stall", "groundBefore", "I", true)
def tyX3 : Nat → FieldType := fun k => match k with
  | 0 => .int
  | 1 => .int
  | _ => .int
abbrev wsX30 : List Cond := u_ws RX3 TX3 3
theorem nmX3 : ∀ a, a < 3 → ∀ b, b < 3 → a ≠ b → (TX3 a).2.1 ≠ (TX3 b).2.1 := by decide +kernel
theorem tyX3_ok : ∀ k, k < 3 → parseFieldDescriptor (TX3 k).2.2.1 = some (tyX3 k) := by decide +kernel
abbrev cX3_init : ByteArray := prog_5_method_1_code
def yX3_init : MethodName := ⟨RX3, "<init>", "(III)V"⟩
def RX4 : String := "MarketAwnings"
def TX4 : u_T := fun k => match k with
  | 0 => ("MarketAwnings", "canopy", "LMarketAwnings$Canopy;", true)
  | 1 => ("MarketAwnings", "shower", "LMarketAwnings$Shower;", true)
  | 2 => ("MarketAwnings", "stalls", "Ljava/util/ArrayList;", true)
  | 3 => ("MarketAwnings", "ground", "[I", true)
  | 4 => ("MarketAwnings", "hours", "I", false)
  | 5 => ("MarketAwnings", "groundDrops", "I", false)
  | _ => ("MarketAwnings", "offDrops", "I", false)
def tyX4 : Nat → FieldType := fun k => match k with
  | 0 => .object "MarketAwnings$Canopy"
  | 1 => .object "MarketAwnings$Shower"
  | 2 => .object "java/util/ArrayList"
  | 3 => .array .int
  | 4 => .int
  | 5 => .int
  | _ => .int
abbrev wsX40 : List Cond := u_ws RX4 TX4 7
theorem nmX4 : ∀ a, a < 7 → ∀ b, b < 7 → a ≠ b → (TX4 a).2.1 ≠ (TX4 b).2.1 := by decide +kernel
theorem tyX4_ok : ∀ k, k < 7 → parseFieldDescriptor (TX4 k).2.2.1 = some (tyX4 k) := by decide +kernel
abbrev cX4_init : ByteArray := prog_1_method_1_code
def yX4_init : MethodName := ⟨RX4, "<init>", "()V"⟩
abbrev cX4_hang : ByteArray := prog_1_method_2_code
def yX4_hang : MethodName := ⟨RX4, "hang", "(IIIIII)I"⟩
abbrev cX4_roll : ByteArray := prog_1_method_3_code
def yX4_roll : MethodName := ⟨RX4, "roll", "(I)Z"⟩
abbrev cX4_move : ByteArray := prog_1_method_4_code
def yX4_move : MethodName := ⟨RX4, "move", "(III)I"⟩
abbrev cX4_take : ByteArray := prog_1_method_5_code
def yX4_take : MethodName := ⟨RX4, "take", "(I)I"⟩
abbrev cX4_stall : ByteArray := prog_1_method_6_code
def yX4_stall : MethodName := ⟨RX4, "stall", "(II)I"⟩
abbrev cX4_rain : ByteArray := prog_1_method_7_code
def yX4_rain : MethodName := ⟨RX4, "rain", "(I)I"⟩
abbrev cX4_about : ByteArray := prog_1_method_8_code
def yX4_about : MethodName := ⟨RX4, "about", "(II)I"⟩
abbrev cX4_cell : ByteArray := prog_1_method_9_code
def yX4_cell : MethodName := ⟨RX4, "cell", "(III)I"⟩
abbrev cX4_cord : ByteArray := prog_1_method_10_code
def yX4_cord : MethodName := ⟨RX4, "cord", "(II)I"⟩
abbrev cX4_told : ByteArray := prog_1_method_11_code
def yX4_told : MethodName := ⟨RX4, "told", "(II)I"⟩
abbrev cX4_share : ByteArray := prog_1_method_12_code
def yX4_share : MethodName := ⟨RX4, "share", "(II)I"⟩
abbrev cX4_count : ByteArray := prog_1_method_13_code
def yX4_count : MethodName := ⟨RX4, "count", "(I)I"⟩
abbrev cX4_advise : ByteArray := prog_1_method_16_code
def yX4_advise : MethodName := ⟨RX4, "advise", "()I"⟩
abbrev cX4_mean : ByteArray := prog_1_method_17_code
def yX4_mean : MethodName := ⟨RX4, "mean", "()D"⟩
abbrev cX4_digest : ByteArray := prog_1_method_18_code
def yX4_digest : MethodName := ⟨RX4, "digest", "()J"⟩
abbrev cX4_digestOfColumn : ByteArray := prog_1_method_19_code
def yX4_digestOfColumn : MethodName := ⟨RX4, "digestOfColumn", "(JI)J"⟩
abbrev cX4_numberedStall : ByteArray := prog_1_method_20_code
def yX4_numberedStall : MethodName := ⟨RX4, "numberedStall", "(I)LMarketAwnings$Stall;"⟩
abbrev cX4_hasStallAt : ByteArray := prog_1_method_21_code
def yX4_hasStallAt : MethodName := ⟨RX4, "hasStallAt", "(II)Z"⟩
abbrev cX4_stallsNotCovered : ByteArray := prog_1_method_22_code
def yX4_stallsNotCovered : MethodName := ⟨RX4, "stallsNotCovered", "()I"⟩
abbrev cX4_gotBy : ByteArray := prog_1_method_23_code
def yX4_gotBy : MethodName := ⟨RX4, "gotBy", "(LMarketAwnings$Stall;)I"⟩
abbrev cX4_groundAt : ByteArray := prog_1_method_24_code
def yX4_groundAt : MethodName := ⟨RX4, "groundAt", "(II)I"⟩
abbrev cX4_isCell : ByteArray := prog_1_method_25_code
def yX4_isCell : MethodName := ⟨RX4, "isCell", "(II)Z"⟩
abbrev cX4_requireCell : ByteArray := prog_1_method_26_code
def yX4_requireCell : MethodName := ⟨RX4, "requireCell", "(II)V"⟩
abbrev cX4_requireExtent : ByteArray := prog_1_method_27_code
def yX4_requireExtent : MethodName := ⟨RX4, "requireExtent", "(II)V"⟩
abbrev cX4_requireRoomInSquare : ByteArray := prog_1_method_28_code
def yX4_requireRoomInSquare : MethodName := ⟨RX4, "requireRoomInSquare", "(IIII)V"⟩
abbrev cX4_requireDrops : ByteArray := prog_1_method_29_code
def yX4_requireDrops : MethodName := ⟨RX4, "requireDrops", "(I)V"⟩
abbrev cX4_requireWhat : ByteArray := prog_1_method_30_code
def yX4_requireWhat : MethodName := ⟨RX4, "requireWhat", "(II)V"⟩
def RX5 : String := "MarketAwningsLaw$Sim"
def TX5 : u_T := fun k => match k with
  | 0 => ("MarketAwningsLaw$Sim", "awnings", "[[I", false)
  | 1 => ("MarketAwningsLaw$Sim", "stalls", "[[I", false)
  | 2 => ("MarketAwningsLaw$Sim", "ground", "[[I", false)
  | 3 => ("MarketAwningsLaw$Sim", "hours", "I", false)
  | _ => ("MarketAwningsLaw$Sim", "off", "I", false)
def tyX5 : Nat → FieldType := fun k => match k with
  | 0 => .array (.array .int)
  | 1 => .array (.array .int)
  | 2 => .array (.array .int)
  | 3 => .int
  | _ => .int
abbrev wsX50 : List Cond := u_ws RX5 TX5 5
theorem nmX5 : ∀ a, a < 5 → ∀ b, b < 5 → a ≠ b → (TX5 a).2.1 ≠ (TX5 b).2.1 := by decide +kernel
theorem tyX5_ok : ∀ k, k < 5 → parseFieldDescriptor (TX5 k).2.2.1 = some (tyX5 k) := by decide +kernel
abbrev cX5_init : ByteArray := prog_7_method_1_code
def yX5_init : MethodName := ⟨RX5, "<init>", "()V"⟩
abbrev cX5_with : ByteArray := prog_7_method_2_code
def yX5_with : MethodName := ⟨RX5, "with", "([[I[I)[[I"⟩
abbrev cX5_without : ByteArray := prog_7_method_3_code
def yX5_without : MethodName := ⟨RX5, "without", "([[II)[[I"⟩
abbrev cX5_lies : ByteArray := prog_7_method_4_code
def yX5_lies : MethodName := ⟨RX5, "lies", "(III)Z"⟩
abbrev cX5_lying : ByteArray := prog_7_method_5_code
def yX5_lying : MethodName := ⟨RX5, "lying", "(II)I"⟩
abbrev cX5_isCovered : ByteArray := prog_7_method_6_code
def yX5_isCovered : MethodName := ⟨RX5, "isCovered", "(II)Z"⟩
abbrev cX5_highest : ByteArray := prog_7_method_7_code
def yX5_highest : MethodName := ⟨RX5, "highest", "(III)I"⟩
abbrev cX5_hour : ByteArray := prog_7_method_8_code
def yX5_hour : MethodName := ⟨RX5, "hour", "(I)[[I"⟩
abbrev cX5_rain : ByteArray := prog_7_method_9_code
def yX5_rain : MethodName := ⟨RX5, "rain", "(I)I"⟩
abbrev cX5_own : ByteArray := prog_7_method_10_code
def yX5_own : MethodName := ⟨RX5, "own", "(I)I"⟩
abbrev cX5_covered : ByteArray := prog_7_method_11_code
def yX5_covered : MethodName := ⟨RX5, "covered", "()I"⟩
abbrev cX5_outline : ByteArray := prog_7_method_12_code
def yX5_outline : MethodName := ⟨RX5, "outline", "()I"⟩
abbrev cX5_parts : ByteArray := prog_7_method_13_code
def yX5_parts : MethodName := ⟨RX5, "parts", "()I"⟩
abbrev cX5_shared : ByteArray := prog_7_method_14_code
def yX5_shared : MethodName := ⟨RX5, "shared", "(II)I"⟩
abbrev cX5_isSame : ByteArray := prog_7_method_15_code
def yX5_isSame : MethodName := ⟨RX5, "isSame", "(LMarketAwnings;)Z"⟩
def RX6 : String := "MarketAwningsModel"
def TX6 : u_T := fun k => match k with
  | _ => ("", "", "", false)
def tyX6 : Nat → FieldType := fun k => match k with
  | _ => .int
abbrev wsX60 : List Cond := u_ws RX6 TX6 0
theorem nmX6 : ∀ a, a < 0 → ∀ b, b < 0 → a ≠ b → (TX6 a).2.1 ≠ (TX6 b).2.1 := by decide +kernel
theorem tyX6_ok : ∀ k, k < 0 → parseFieldDescriptor (TX6 k).2.2.1 = some (tyX6 k) := by decide +kernel
def RJx145de : String := "java/io/Serializable"
def TJx145de : u_T := fun k => match k with
  | _ => ("", "", "", false)
def tyJx145de : Nat → FieldType := fun k => match k with
  | _ => .int
abbrev wsJx145de0 : List Cond := u_ws RJx145de TJx145de 0
theorem nmJx145de : ∀ a, a < 0 → ∀ b, b < 0 → a ≠ b → (TJx145de a).2.1 ≠ (TJx145de b).2.1 := by decide +kernel
theorem tyJx145de_ok : ∀ k, k < 0 → parseFieldDescriptor (TJx145de k).2.2.1 = some (tyJx145de k) := by decide +kernel
def RJx8e188 : String := "java/lang/Cloneable"
def TJx8e188 : u_T := fun k => match k with
  | _ => ("", "", "", false)
def tyJx8e188 : Nat → FieldType := fun k => match k with
  | _ => .int
abbrev wsJx8e1880 : List Cond := u_ws RJx8e188 TJx8e188 0
theorem nmJx8e188 : ∀ a, a < 0 → ∀ b, b < 0 → a ≠ b → (TJx8e188 a).2.1 ≠ (TJx8e188 b).2.1 := by decide +kernel
theorem tyJx8e188_ok : ∀ k, k < 0 → parseFieldDescriptor (TJx8e188 k).2.2.1 = some (tyJx8e188 k) := by decide +kernel
def RJxab1ab : String := "java/lang/Iterable"
def TJxab1ab : u_T := fun k => match k with
  | _ => ("", "", "", false)
def tyJxab1ab : Nat → FieldType := fun k => match k with
  | _ => .int
abbrev wsJxab1ab0 : List Cond := u_ws RJxab1ab TJxab1ab 0
theorem nmJxab1ab : ∀ a, a < 0 → ∀ b, b < 0 → a ≠ b → (TJxab1ab a).2.1 ≠ (TJxab1ab b).2.1 := by decide +kernel
theorem tyJxab1ab_ok : ∀ k, k < 0 → parseFieldDescriptor (TJxab1ab k).2.2.1 = some (tyJxab1ab k) := by decide +kernel
def RJ9 : String := "java/lang/Math"
def TJ9 : u_T := fun k => match k with
  | _ => ("", "", "", false)
def tyJ9 : Nat → FieldType := fun k => match k with
  | _ => .int
abbrev wsJ90 : List Cond := u_ws RJ9 TJ9 0
theorem nmJ9 : ∀ a, a < 0 → ∀ b, b < 0 → a ≠ b → (TJ9 a).2.1 ≠ (TJ9 b).2.1 := by decide +kernel
theorem tyJ9_ok : ∀ k, k < 0 → parseFieldDescriptor (TJ9 k).2.2.1 = some (tyJ9 k) := by decide +kernel
abbrev cJ9_max_7cf53 : ByteArray := prog_16_method_65_code
def yJ9_max_7cf53 : MethodName := ⟨RJ9, "max", "(II)I"⟩
abbrev cJ9_min_7cf53 : ByteArray := prog_16_method_69_code
def yJ9_min_7cf53 : MethodName := ⟨RJ9, "min", "(II)I"⟩
def RJ0 : String := "java/lang/String"
def TJ0 : u_T := fun k => match k with
  | _ => ("", "", "", false)
def tyJ0 : Nat → FieldType := fun k => match k with
  | _ => .int
abbrev wsJ00 : List Cond := u_ws RJ0 TJ0 0
theorem nmJ0 : ∀ a, a < 0 → ∀ b, b < 0 → a ≠ b → (TJ0 a).2.1 ≠ (TJ0 b).2.1 := by decide +kernel
theorem tyJ0_ok : ∀ k, k < 0 → parseFieldDescriptor (TJ0 k).2.2.1 = some (tyJ0 k) := by decide +kernel
def RJ10 : String := "java/lang/System"
def TJ10 : u_T := fun k => match k with
  | _ => ("", "", "", false)
def tyJ10 : Nat → FieldType := fun k => match k with
  | _ => .int
abbrev wsJ100 : List Cond := u_ws RJ10 TJ10 0
theorem nmJ10 : ∀ a, a < 0 → ∀ b, b < 0 → a ≠ b → (TJ10 a).2.1 ≠ (TJ10 b).2.1 := by decide +kernel
theorem tyJ10_ok : ∀ k, k < 0 → parseFieldDescriptor (TJ10 k).2.2.1 = some (tyJ10 k) := by decide +kernel
def RJxa1e45 : String := "java/util/AbstractCollection"
def TJxa1e45 : u_T := fun k => match k with
  | _ => ("", "", "", false)
def tyJxa1e45 : Nat → FieldType := fun k => match k with
  | _ => .int
abbrev wsJxa1e450 : List Cond := u_ws RJxa1e45 TJxa1e45 0
theorem nmJxa1e45 : ∀ a, a < 0 → ∀ b, b < 0 → a ≠ b → (TJxa1e45 a).2.1 ≠ (TJxa1e45 b).2.1 := by decide +kernel
theorem tyJxa1e45_ok : ∀ k, k < 0 → parseFieldDescriptor (TJxa1e45 k).2.2.1 = some (tyJxa1e45 k) := by decide +kernel
abbrev cJxa1e45_init_da8c8 : ByteArray := prog_21_method_1_code
def yJxa1e45_init_da8c8 : MethodName := ⟨RJxa1e45, "<init>", "()V"⟩
def RJxc12de : String := "java/util/AbstractList"
def TJxc12de : u_T := fun k => match k with
  | _ => ("", "", "", false)
def tyJxc12de : Nat → FieldType := fun k => match k with
  | _ => .int
abbrev wsJxc12de0 : List Cond := u_ws RJxc12de TJxc12de 0
theorem nmJxc12de : ∀ a, a < 0 → ∀ b, b < 0 → a ≠ b → (TJxc12de a).2.1 ≠ (TJxc12de b).2.1 := by decide +kernel
theorem tyJxc12de_ok : ∀ k, k < 0 → parseFieldDescriptor (TJxc12de k).2.2.1 = some (tyJxc12de k) := by decide +kernel
abbrev cJxc12de_init_da8c8 : ByteArray := prog_22_method_1_code
def yJxc12de_init_da8c8 : MethodName := ⟨RJxc12de, "<init>", "()V"⟩
def RJx4a65c : String := "java/util/ArrayList"
def TJx4a65c : u_T := fun k => match k with
  | 0 => ("java/util/AbstractList", "modCount", "I", false)
  | 1 => ("java/util/ArrayList", "elementData", "[Ljava/lang/Object;", false)
  | _ => ("java/util/ArrayList", "size", "I", false)
def tyJx4a65c : Nat → FieldType := fun k => match k with
  | 0 => .int
  | 1 => .array (.object "java/lang/Object")
  | _ => .int
abbrev wsJx4a65c0 : List Cond := u_ws RJx4a65c TJx4a65c 3
theorem nmJx4a65c : ∀ a, a < 3 → ∀ b, b < 3 → a ≠ b → (TJx4a65c a).2.1 ≠ (TJx4a65c b).2.1 := by decide +kernel
theorem tyJx4a65c_ok : ∀ k, k < 3 → parseFieldDescriptor (TJx4a65c k).2.2.1 = some (tyJx4a65c k) := by decide +kernel
abbrev cJx4a65c_init_da8c8 : ByteArray := prog_23_method_2_code
def yJx4a65c_init_da8c8 : MethodName := ⟨RJx4a65c, "<init>", "()V"⟩
abbrev cJx4a65c_grow_92f84 : ByteArray := prog_23_method_6_code
def yJx4a65c_grow_92f84 : MethodName := ⟨RJx4a65c, "grow", "(I)[Ljava/lang/Object;"⟩
abbrev cJx4a65c_grow_d5877 : ByteArray := prog_23_method_7_code
def yJx4a65c_grow_d5877 : MethodName := ⟨RJx4a65c, "grow", "()[Ljava/lang/Object;"⟩
abbrev cJx4a65c_size_8abf5 : ByteArray := prog_23_method_8_code
def yJx4a65c_size_8abf5 : MethodName := ⟨RJx4a65c, "size", "()I"⟩
abbrev cJx4a65c_elementData_915e3 : ByteArray := prog_23_method_18_code
def yJx4a65c_elementData_915e3 : MethodName := ⟨RJx4a65c, "elementData", "(I)Ljava/lang/Object;"⟩
abbrev cJx4a65c_get_915e3 : ByteArray := prog_23_method_20_code
def yJx4a65c_get_915e3 : MethodName := ⟨RJx4a65c, "get", "(I)Ljava/lang/Object;"⟩
abbrev cJx4a65c_add_72be8 : ByteArray := prog_23_method_24_code
def yJx4a65c_add_72be8 : MethodName := ⟨RJx4a65c, "add", "(Ljava/lang/Object;[Ljava/lang/Object;I)V"⟩
abbrev cJx4a65c_add_9ea2d : ByteArray := prog_23_method_25_code
def yJx4a65c_add_9ea2d : MethodName := ⟨RJx4a65c, "add", "(Ljava/lang/Object;)Z"⟩
abbrev cJx4a65c_remove_915e3 : ByteArray := prog_23_method_29_code
def yJx4a65c_remove_915e3 : MethodName := ⟨RJx4a65c, "remove", "(I)Ljava/lang/Object;"⟩
abbrev cJx4a65c_fastRemove_b59b0 : ByteArray := prog_23_method_39_code
def yJx4a65c_fastRemove_b59b0 : MethodName := ⟨RJx4a65c, "fastRemove", "([Ljava/lang/Object;I)V"⟩
def RJ7 : String := "java/util/Arrays"
def TJ7 : u_T := fun k => match k with
  | _ => ("", "", "", false)
def tyJ7 : Nat → FieldType := fun k => match k with
  | _ => .int
abbrev wsJ70 : List Cond := u_ws RJ7 TJ7 0
theorem nmJ7 : ∀ a, a < 0 → ∀ b, b < 0 → a ≠ b → (TJ7 a).2.1 ≠ (TJ7 b).2.1 := by decide +kernel
theorem tyJ7_ok : ∀ k, k < 0 → parseFieldDescriptor (TJ7 k).2.2.1 = some (tyJ7 k) := by decide +kernel
abbrev cJ7_fill_53178 : ByteArray := prog_24_method_103_code
def yJ7_fill_53178 : MethodName := ⟨RJ7, "fill", "([II)V"⟩
abbrev cJ7_copyOf_1904c : ByteArray := prog_24_method_119_code
def yJ7_copyOf_1904c : MethodName := ⟨RJ7, "copyOf", "([Ljava/lang/Object;I)[Ljava/lang/Object;"⟩
abbrev cJ7_copyOf_6403c : ByteArray := prog_24_method_120_code
def yJ7_copyOf_6403c : MethodName := ⟨RJ7, "copyOf", "([Ljava/lang/Object;ILjava/lang/Class;)[Ljava/lang/Object;"⟩
def RJx5ef63 : String := "java/util/Collection"
def TJx5ef63 : u_T := fun k => match k with
  | _ => ("", "", "", false)
def tyJx5ef63 : Nat → FieldType := fun k => match k with
  | _ => .int
abbrev wsJx5ef630 : List Cond := u_ws RJx5ef63 TJx5ef63 0
theorem nmJx5ef63 : ∀ a, a < 0 → ∀ b, b < 0 → a ≠ b → (TJx5ef63 a).2.1 ≠ (TJx5ef63 b).2.1 := by decide +kernel
theorem tyJx5ef63_ok : ∀ k, k < 0 → parseFieldDescriptor (TJx5ef63 k).2.2.1 = some (tyJx5ef63 k) := by decide +kernel
def RJxbd725 : String := "java/util/List"
def TJxbd725 : u_T := fun k => match k with
  | _ => ("", "", "", false)
def tyJxbd725 : Nat → FieldType := fun k => match k with
  | _ => .int
abbrev wsJxbd7250 : List Cond := u_ws RJxbd725 TJxbd725 0
theorem nmJxbd725 : ∀ a, a < 0 → ∀ b, b < 0 → a ≠ b → (TJxbd725 a).2.1 ≠ (TJxbd725 b).2.1 := by decide +kernel
theorem tyJxbd725_ok : ∀ k, k < 0 → parseFieldDescriptor (TJxbd725 k).2.2.1 = some (tyJxbd725 k) := by decide +kernel
def RJ15 : String := "java/util/Objects"
def TJ15 : u_T := fun k => match k with
  | _ => ("", "", "", false)
def tyJ15 : Nat → FieldType := fun k => match k with
  | _ => .int
abbrev wsJ150 : List Cond := u_ws RJ15 TJ15 0
theorem nmJ15 : ∀ a, a < 0 → ∀ b, b < 0 → a ≠ b → (TJ15 a).2.1 ≠ (TJ15 b).2.1 := by decide +kernel
theorem tyJ15_ok : ∀ k, k < 0 → parseFieldDescriptor (TJ15 k).2.2.1 = some (tyJ15 k) := by decide +kernel
abbrev cJ15_checkIndex_7cf53 : ByteArray := prog_27_method_17_code
def yJ15_checkIndex_7cf53 : MethodName := ⟨RJ15, "checkIndex", "(II)I"⟩
def RJxf0a74 : String := "java/util/RandomAccess"
def TJxf0a74 : u_T := fun k => match k with
  | _ => ("", "", "", false)
def tyJxf0a74 : Nat → FieldType := fun k => match k with
  | _ => .int
abbrev wsJxf0a740 : List Cond := u_ws RJxf0a74 TJxf0a74 0
theorem nmJxf0a74 : ∀ a, a < 0 → ∀ b, b < 0 → a ≠ b → (TJxf0a74 a).2.1 ≠ (TJxf0a74 b).2.1 := by decide +kernel
theorem tyJxf0a74_ok : ∀ k, k < 0 → parseFieldDescriptor (TJxf0a74 k).2.2.1 = some (tyJxf0a74 k) := by decide +kernel
def RJxa66e6 : String := "java/util/SequencedCollection"
def TJxa66e6 : u_T := fun k => match k with
  | _ => ("", "", "", false)
def tyJxa66e6 : Nat → FieldType := fun k => match k with
  | _ => .int
abbrev wsJxa66e60 : List Cond := u_ws RJxa66e6 TJxa66e6 0
theorem nmJxa66e6 : ∀ a, a < 0 → ∀ b, b < 0 → a ≠ b → (TJxa66e6 a).2.1 ≠ (TJxa66e6 b).2.1 := by decide +kernel
theorem tyJxa66e6_ok : ∀ k, k < 0 → parseFieldDescriptor (TJxa66e6 k).2.2.1 = some (tyJxa66e6 k) := by decide +kernel
def RJ8 : String := "jdk/internal/util/ArraysSupport"
def TJ8 : u_T := fun k => match k with
  | _ => ("", "", "", false)
def tyJ8 : Nat → FieldType := fun k => match k with
  | _ => .int
abbrev wsJ80 : List Cond := u_ws RJ8 TJ8 0
theorem nmJ8 : ∀ a, a < 0 → ∀ b, b < 0 → a ≠ b → (TJ8 a).2.1 ≠ (TJ8 b).2.1 := by decide +kernel
theorem tyJ8_ok : ∀ k, k < 0 → parseFieldDescriptor (TJ8 k).2.2.1 = some (tyJ8 k) := by decide +kernel
abbrev cJ8_newLength_cabcc : ByteArray := prog_30_method_27_code
def yJ8_newLength_cabcc : MethodName := ⟨RJ8, "newLength", "(III)I"⟩
abbrev cJ8_hugeLength_7cf53 : ByteArray := prog_30_method_28_code
def yJ8_hugeLength_7cf53 : MethodName := ⟨RJ8, "hugeLength", "(II)I"⟩
def RJ3 : String := "jdk/internal/util/Preconditions"
def TJ3 : u_T := fun k => match k with
  | _ => ("", "", "", false)
def tyJ3 : Nat → FieldType := fun k => match k with
  | _ => .int
abbrev wsJ30 : List Cond := u_ws RJ3 TJ3 0
theorem nmJ3 : ∀ a, a < 0 → ∀ b, b < 0 → a ≠ b → (TJ3 a).2.1 ≠ (TJ3 b).2.1 := by decide +kernel
theorem tyJ3_ok : ∀ k, k < 0 → parseFieldDescriptor (TJ3 k).2.2.1 = some (tyJ3 k) := by decide +kernel
abbrev cJ3_checkIndex_8e157 : ByteArray := prog_31_method_11_code
def yJ3_checkIndex_8e157 : MethodName := ⟨RJ3, "checkIndex", "(IILjava/util/function/BiFunction;)I"⟩
def RL : String := "MarketAwningsLaw"
abbrev cL_below : ByteArray := method_2_code
def yL_below : MethodName := ⟨RL, "below", "(II)I"⟩
abbrev cL_cell : ByteArray := method_3_code
def yL_cell : MethodName := ⟨RL, "cell", "([II)I"⟩
abbrev cL_act : ByteArray := method_4_code
def yL_act : MethodName := ⟨RL, "act", "(LMarketAwnings;LMarketAwningsLaw$Sim;I)Z"⟩
abbrev cL_build : ByteArray := method_5_code
def yL_build : MethodName := ⟨RL, "build", "(LMarketAwnings;[I)LMarketAwningsLaw$Sim;"⟩
abbrev cL_law : ByteArray := code
def yL_law : MethodName := ⟨RL, "law", "([I)Z"⟩
def wsL_law0_r1 : List Cond := [Cond.classLink RL 26 RX4, Cond.instantiable RX4 7, Cond.initialized RX4, Cond.methodLink RL 92 Lib.Math.max.name, Cond.static Lib.Math.max.name, Cond.initialized "java/lang/Math", Cond.code Lib.Math.max.name Lib.Math.max.code 2 (some .int), Cond.methodLink RL 72 yX4_init, Cond.instanceMethod yX4_init, Cond.code yX4_init cX4_init 1 none, Cond.methodLink RX4 3 objectInit, Cond.instanceMethod objectInit, Cond.code objectInit ⟨#[0xb1]⟩ 1 none, Cond.classLink RX4 9 RX1, Cond.instantiable RX1 5, Cond.initialized RX1, Cond.fieldLink RX4 12 "MarketAwnings" "canopy" "LMarketAwnings$Canopy;", Cond.classLink RX4 16 RX2, Cond.instantiable RX2 5, Cond.initialized RX2, Cond.fieldLink RX4 21 "MarketAwnings" "shower" "LMarketAwnings$Shower;", Cond.classLink RX4 25 RJx4a65c, Cond.instantiable RJx4a65c 3, Cond.initialized RJx4a65c]
def wsL_law0_r2 : List Cond := [Cond.fieldLink RX4 28 "MarketAwnings" "stalls" "Ljava/util/ArrayList;", Cond.arrayClass .int, Cond.fieldLink RX4 32 "MarketAwnings" "ground" "[I", Cond.fieldLink RX4 36 "MarketAwnings" "hours" "I", Cond.fieldLink RX4 40 "MarketAwnings" "groundDrops" "I", Cond.fieldLink RX4 43 "MarketAwnings" "offDrops" "I", Cond.methodLink RX4 11 yX1_init, Cond.instanceMethod yX1_init, Cond.code yX1_init cX1_init 1 none, Cond.methodLink RX1 3 objectInit, Cond.classLink RX1 9 RJx4a65c, Cond.fieldLink RX1 12 "MarketAwnings$Canopy" "awnings" "Ljava/util/ArrayList;", Cond.fieldLink RX1 18 "MarketAwnings$Canopy" "layers" "[I", Cond.fieldLink RX1 22 "MarketAwnings$Canopy" "reached" "[I", Cond.fieldLink RX1 25 "MarketAwnings$Canopy" "queue" "[I", Cond.fieldLink RX1 28 "MarketAwnings$Canopy" "queued" "I", Cond.methodLink RX1 11 yJx4a65c_init_da8c8, Cond.instanceMethod yJx4a65c_init_da8c8, Cond.code yJx4a65c_init_da8c8 cJx4a65c_init_da8c8 1 none, Cond.fieldLink RJx4a65c 39 "java/util/ArrayList" "DEFAULTCAPACITY_EMPTY_ELEMENTDATA" "[Ljava/lang/Object;", Cond.fieldLink RJx4a65c 9 "java/util/ArrayList" "elementData" "[Ljava/lang/Object;", Cond.methodLink RJx4a65c 1 yJxc12de_init_da8c8, Cond.instanceMethod yJxc12de_init_da8c8, Cond.initialized RJxc12de]
def wsL_law0_r3 : List Cond := [Cond.code yJxc12de_init_da8c8 cJxc12de_init_da8c8 1 none, Cond.fieldLink RJxc12de 7 "java/util/AbstractList" "modCount" "I", Cond.methodLink RJxc12de 1 yJxa1e45_init_da8c8, Cond.instanceMethod yJxa1e45_init_da8c8, Cond.initialized RJxa1e45, Cond.code yJxa1e45_init_da8c8 cJxa1e45_init_da8c8 1 none, Cond.methodLink RJxa1e45 1 objectInit, Cond.methodLink RX4 18 yX2_init, Cond.instanceMethod yX2_init, Cond.code yX2_init cX2_init 2 none, Cond.methodLink RX2 3 objectInit, Cond.fieldLink RX2 9 "MarketAwnings$Shower" "canopy" "LMarketAwnings$Canopy;", Cond.fieldLink RX2 15 "MarketAwnings$Shower" "fallen" "[I", Cond.fieldLink RX2 19 "MarketAwnings$Shower" "caught" "[I", Cond.fieldLink RX2 22 "MarketAwnings$Shower" "onGround" "I", Cond.fieldLink RX2 26 "MarketAwnings$Shower" "ranOff" "I", Cond.methodLink RX4 27 yJx4a65c_init_da8c8, Cond.methodLink RL 73 yL_build, Cond.static yL_build, Cond.initialized RL, Cond.code yL_build cL_build 4 (some (.object "MarketAwningsLaw$Sim")), Cond.classLink RL 10 RX5, Cond.instantiable RX5 5, Cond.initialized RX5]
def wsL_law0_r4 : List Cond := [Cond.instanceMethod yX5_init, Cond.code yX5_init cX5_init 1 none, Cond.methodLink RX5 1 objectInit, Cond.classLink RX5 7 "[I", Cond.fieldLink RX5 9 "MarketAwningsLaw$Sim" "awnings" "[[I", Cond.fieldLink RX5 15 "MarketAwningsLaw$Sim" "stalls" "[[I", Cond.classLink RX5 18 "[[I", Cond.fieldLink RX5 19 "MarketAwningsLaw$Sim" "ground" "[[I", Cond.methodLink RL 64 yL_cell, Cond.static yL_cell, Cond.code yL_cell cL_cell 2 (some .int), Cond.constant RL 8 (790386105), Cond.methodLink RL 68 yL_act, Cond.static yL_act, Cond.codeWith yL_act cL_act 12 (some .boolean) [(608, 636, 637, 57)], Cond.classLink RL 57 "java/lang/IllegalStateException", Cond.fieldLink RL 9 "MarketAwningsLaw$Sim" "awnings" "[[I", Cond.fieldLink RL 51 "MarketAwningsLaw$Sim" "stalls" "[[I", Cond.methodLink RL 15 yL_below, Cond.static yL_below, Cond.code yL_below cL_below 2 (some .int), Cond.constant RL 7 (2147483647), Cond.methodLink RL 21 yX5_with, Cond.static yX5_with]
def wsL_law0_r5 : List Cond := [Cond.code yX5_with cX5_with 4 (some (.array (.array .int))), Cond.methodLink RL 25 yX4_hang, Cond.instanceMethod yX4_hang, Cond.selects RX4 yX4_hang yX4_hang, Cond.code yX4_hang cX4_hang 7 (some .int), Cond.classLink RX4 50 "java/lang/IllegalArgumentException", Cond.initialized "java/lang/IllegalArgumentException", Cond.classLink RX4 67 "java/lang/IllegalStateException", Cond.initialized "java/lang/IllegalStateException", Cond.classLink RX4 72 RX0, Cond.instantiable RX0 8, Cond.initialized RX0, Cond.methodLink RX4 46 yX4_requireExtent, Cond.static yX4_requireExtent, Cond.code yX4_requireExtent cX4_requireExtent 2 none, Cond.methodLink RX4 59 yX4_requireRoomInSquare, Cond.static yX4_requireRoomInSquare, Cond.code yX4_requireRoomInSquare cX4_requireRoomInSquare 4 none, Cond.classLink RX4 178 "java/lang/IndexOutOfBoundsException", Cond.initialized "java/lang/IndexOutOfBoundsException", Cond.methodLink RX4 63 yX1_size, Cond.instanceMethod yX1_size, Cond.selects RX1 yX1_size yX1_size, Cond.code yX1_size cX1_size 1 (some .int)]
def wsL_law0_r6 : List Cond := [Cond.methodLink RX1 32 yJx4a65c_size_8abf5, Cond.instanceMethod yJx4a65c_size_8abf5, Cond.selects RJx4a65c yJx4a65c_size_8abf5 yJx4a65c_size_8abf5, Cond.code yJx4a65c_size_8abf5 cJx4a65c_size_8abf5 1 (some .int), Cond.fieldLink RJx4a65c 48 "java/util/ArrayList" "size" "I", Cond.methodLink RX4 74 yX0_init, Cond.instanceMethod yX0_init, Cond.code yX0_init cX0_init 7 none, Cond.methodLink RX0 3 objectInit, Cond.fieldLink RX0 9 "MarketAwnings$Awning" "x" "I", Cond.fieldLink RX0 15 "MarketAwnings$Awning" "y" "I", Cond.fieldLink RX0 18 "MarketAwnings$Awning" "w" "I", Cond.fieldLink RX0 21 "MarketAwnings$Awning" "h" "I", Cond.fieldLink RX0 24 "MarketAwnings$Awning" "level" "I", Cond.fieldLink RX0 27 "MarketAwnings$Awning" "side" "I", Cond.fieldLink RX0 30 "MarketAwnings$Awning" "out" "Z", Cond.fieldLink RX0 34 "MarketAwnings$Awning" "dripped" "I", Cond.methodLink RX4 77 yX1_append, Cond.instanceMethod yX1_append, Cond.selects RX1 yX1_append yX1_append, Cond.code yX1_append cX1_append 2 none, Cond.methodLink RX1 53 yJx4a65c_add_9ea2d, Cond.instanceMethod yJx4a65c_add_9ea2d, Cond.selects RJx4a65c yJx4a65c_add_9ea2d yJx4a65c_add_9ea2d]
def wsL_law0_r7 : List Cond := [Cond.code yJx4a65c_add_9ea2d cJx4a65c_add_9ea2d 2 (some .boolean), Cond.fieldLink RJx4a65c 63 "java/util/ArrayList" "modCount" "I", Cond.sameField "java/util/ArrayList" "java/util/AbstractList" "modCount" "I", Cond.methodLink RJx4a65c 131 yJx4a65c_add_72be8, Cond.instanceMethod yJx4a65c_add_72be8, Cond.selects RJx4a65c yJx4a65c_add_72be8 yJx4a65c_add_72be8, Cond.code yJx4a65c_add_72be8 cJx4a65c_add_72be8 4 none, Cond.methodLink RJx4a65c 129 yJx4a65c_grow_d5877, Cond.instanceMethod yJx4a65c_grow_d5877, Cond.selects RJx4a65c yJx4a65c_grow_d5877 yJx4a65c_grow_d5877, Cond.code yJx4a65c_grow_d5877 cJx4a65c_grow_d5877 1 (some (.array (.object "java/lang/Object"))), Cond.methodLink RJx4a65c 69 yJx4a65c_grow_92f84, Cond.instanceMethod yJx4a65c_grow_92f84, Cond.selects RJx4a65c yJx4a65c_grow_92f84 yJx4a65c_grow_92f84, Cond.code yJx4a65c_grow_92f84 cJx4a65c_grow_92f84 4 (some (.array (.object "java/lang/Object"))), Cond.methodLink RJx4a65c 79 Lib.Math.max.name, Cond.classLink RJx4a65c 7 "java/lang/Object", Cond.methodLink RJx4a65c 73 yJ8_newLength_cabcc, Cond.static yJ8_newLength_cabcc, Cond.initialized RJ8, Cond.code yJ8_newLength_cabcc cJ8_newLength_cabcc 4 (some .int), Cond.methodLink RJ8 194 Lib.Math.max.name, Cond.constant RJ8 200 (2147483639), Cond.methodLink RJ8 201 yJ8_hugeLength_7cf53]
def wsL_law0_r8 : List Cond := [Cond.static yJ8_hugeLength_7cf53, Cond.code yJ8_hugeLength_7cf53 cJ8_hugeLength_7cf53 3 (some .int), Cond.methodLink RJx4a65c 66 yJ7_copyOf_1904c, Cond.static yJ7_copyOf_1904c, Cond.initialized RJ7, Cond.code yJ7_copyOf_1904c cJ7_copyOf_1904c 2 (some (.array (.object "java/lang/Object"))), Cond.methodLink RJ7 86 ⟨"java/lang/Object", "getClass", "()Ljava/lang/Class;"⟩, Cond.selects "[Ljava/lang/Object;" ⟨"java/lang/Object", "getClass", "()Ljava/lang/Class;"⟩ ⟨"java/lang/Object", "getClass", "()Ljava/lang/Class;"⟩, Cond.instanceMethod ⟨"java/lang/Object", "getClass", "()Ljava/lang/Class;"⟩, Cond.native ⟨"java/lang/Object", "getClass", "()Ljava/lang/Class;"⟩, Cond.methodLink RJ7 300 yJ7_copyOf_6403c, Cond.static yJ7_copyOf_6403c, Cond.code yJ7_copyOf_6403c cJ7_copyOf_6403c 4 (some (.array (.object "java/lang/Object"))), Cond.classLink RJ7 110 "[Ljava/lang/Object;", Cond.classLink RJ7 2 "java/lang/Object", Cond.methodLink RJ7 304 Lib.Math.min.name, Cond.static Lib.Math.min.name, Cond.code Lib.Math.min.name Lib.Math.min.code 2 (some .int), Cond.methodLink RJ7 150 arraycopyName, Cond.native arraycopyName, Cond.static arraycopyName, Cond.initialized "java/lang/System", Cond.methodLink RX1 57 yX1_layOut, Cond.instanceMethod yX1_layOut]
def wsL_law0_r9 : List Cond := [Cond.selects RX1 yX1_layOut yX1_layOut, Cond.code yX1_layOut cX1_layOut 2 none, Cond.classLink RX1 40 "MarketAwnings$Awning", Cond.fieldLink RX1 42 "MarketAwnings$Awning" "out" "Z", Cond.methodLink RX1 63 yJ7_fill_53178, Cond.static yJ7_fill_53178, Cond.code yJ7_fill_53178 cJ7_fill_53178 4 none, Cond.methodLink RX1 36 yJx4a65c_get_915e3, Cond.instanceMethod yJx4a65c_get_915e3, Cond.selects RJx4a65c yJx4a65c_get_915e3 yJx4a65c_get_915e3, Cond.code yJx4a65c_get_915e3 cJx4a65c_get_915e3 2 (some (.object "java/lang/Object")), Cond.methodLink RJx4a65c 118 yJ15_checkIndex_7cf53, Cond.static yJ15_checkIndex_7cf53, Cond.initialized RJ15, Cond.code yJ15_checkIndex_7cf53 cJ15_checkIndex_7cf53 2 (some .int), Cond.methodLink RJ15 105 yJ3_checkIndex_8e157, Cond.static yJ3_checkIndex_8e157, Cond.initialized RJ3, Cond.code yJ3_checkIndex_8e157 cJ3_checkIndex_8e157 3 (some .int), Cond.methodLink RJx4a65c 123 yJx4a65c_elementData_915e3, Cond.instanceMethod yJx4a65c_elementData_915e3, Cond.selects RJx4a65c yJx4a65c_elementData_915e3 yJx4a65c_elementData_915e3, Cond.code yJx4a65c_elementData_915e3 cJx4a65c_elementData_915e3 2 (some (.object "java/lang/Object")), Cond.methodLink RX1 69 yX1_layOver]
def wsL_law0_r10 : List Cond := [Cond.instanceMethod yX1_layOver, Cond.selects RX1 yX1_layOver yX1_layOver, Cond.code yX1_layOver cX1_layOver 4 none, Cond.fieldLink RX1 73 "MarketAwnings$Awning" "y" "I", Cond.fieldLink RX1 76 "MarketAwnings$Awning" "h" "I", Cond.fieldLink RX1 79 "MarketAwnings$Awning" "x" "I", Cond.fieldLink RX1 82 "MarketAwnings$Awning" "w" "I", Cond.static yX4_isCell, Cond.code yX4_isCell cX4_isCell 2 (some .boolean), Cond.methodLink RL 31 yX4_roll, Cond.instanceMethod yX4_roll, Cond.selects RX4 yX4_roll yX4_roll, Cond.code yX4_roll cX4_roll 3 (some .boolean), Cond.fieldLink RX4 85 "MarketAwnings$Awning" "out" "Z", Cond.methodLink RX4 81 yX1_numbered, Cond.instanceMethod yX1_numbered, Cond.selects RX1 yX1_numbered yX1_numbered, Cond.code yX1_numbered cX1_numbered 2 (some (.object "MarketAwnings$Awning")), Cond.classLink RX1 46 "java/lang/IndexOutOfBoundsException", Cond.methodLink RX4 89 yX1_layOut, Cond.methodLink RL 35 yX4_move, Cond.instanceMethod yX4_move, Cond.selects RX4 yX4_move yX4_move, Cond.code yX4_move cX4_move 5 (some .int)]
def wsL_law0_r11 : List Cond := [Cond.fieldLink RX4 92 "MarketAwnings$Awning" "w" "I", Cond.fieldLink RX4 95 "MarketAwnings$Awning" "h" "I", Cond.fieldLink RX4 98 "MarketAwnings$Awning" "x" "I", Cond.fieldLink RX4 101 "MarketAwnings$Awning" "y" "I", Cond.methodLink RX4 104 yX1_covered, Cond.instanceMethod yX1_covered, Cond.selects RX1 yX1_covered yX1_covered, Cond.code yX1_covered cX1_covered 1 (some .int), Cond.methodLink RX1 95 yX1_cellsWithLayers, Cond.instanceMethod yX1_cellsWithLayers, Cond.selects RX1 yX1_cellsWithLayers yX1_cellsWithLayers, Cond.code yX1_cellsWithLayers cX1_cellsWithLayers 4 (some .int), Cond.methodLink RL 39 yX5_covered, Cond.instanceMethod yX5_covered, Cond.selects RX5 yX5_covered yX5_covered, Cond.code yX5_covered cX5_covered 4 (some .int), Cond.methodLink RX5 45 yX5_isCovered, Cond.instanceMethod yX5_isCovered, Cond.selects RX5 yX5_isCovered yX5_isCovered, Cond.code yX5_isCovered cX5_isCovered 3 (some .boolean), Cond.methodLink RX5 26 yX5_lying, Cond.instanceMethod yX5_lying, Cond.selects RX5 yX5_lying yX5_lying, Cond.code yX5_lying cX5_lying 5 (some .int)]
def wsL_law0_r12 : List Cond := [Cond.methodLink RX5 22 yX5_lies, Cond.instanceMethod yX5_lies, Cond.selects RX5 yX5_lies yX5_lies, Cond.code yX5_lies cX5_lies 5 (some .boolean), Cond.methodLink RL 43 yX5_without, Cond.static yX5_without, Cond.code yX5_without cX5_without 4 (some (.array (.array .int))), Cond.methodLink RL 47 yX4_take, Cond.instanceMethod yX4_take, Cond.selects RX4 yX4_take yX4_take, Cond.code yX4_take cX4_take 2 (some .int), Cond.methodLink RX4 107 yX1_drop, Cond.instanceMethod yX1_drop, Cond.selects RX1 yX1_drop yX1_drop, Cond.code yX1_drop cX1_drop 2 none, Cond.methodLink RX1 60 yJx4a65c_remove_915e3, Cond.instanceMethod yJx4a65c_remove_915e3, Cond.selects RJx4a65c yJx4a65c_remove_915e3 yJx4a65c_remove_915e3, Cond.code yJx4a65c_remove_915e3 cJx4a65c_remove_915e3 4 (some (.object "java/lang/Object")), Cond.methodLink RJx4a65c 144 yJx4a65c_fastRemove_b59b0, Cond.instanceMethod yJx4a65c_fastRemove_b59b0, Cond.selects RJx4a65c yJx4a65c_fastRemove_b59b0 yJx4a65c_fastRemove_b59b0, Cond.code yJx4a65c_fastRemove_b59b0 cJx4a65c_fastRemove_b59b0 4 none, Cond.methodLink RJx4a65c 112 arraycopyName]
def wsL_law0_r13 : List Cond := [Cond.methodLink RL 54 yX4_stall, Cond.instanceMethod yX4_stall, Cond.selects RX4 yX4_stall yX4_stall, Cond.code yX4_stall cX4_stall 3 (some .int), Cond.classLink RX4 123 RX3, Cond.instantiable RX3 3, Cond.initialized RX3, Cond.methodLink RX4 111 yX4_requireCell, Cond.static yX4_requireCell, Cond.code yX4_requireCell cX4_requireCell 2 none, Cond.methodLink RX4 264 yX4_isCell, Cond.methodLink RX4 114 yJx4a65c_size_8abf5, Cond.methodLink RX4 117 yX4_hasStallAt, Cond.instanceMethod yX4_hasStallAt, Cond.selects RX4 yX4_hasStallAt yX4_hasStallAt, Cond.code yX4_hasStallAt cX4_hasStallAt 5 (some .boolean), Cond.classLink RX4 123 "MarketAwnings$Stall", Cond.fieldLink RX4 199 "MarketAwnings$Stall" "x" "I", Cond.fieldLink RX4 200 "MarketAwnings$Stall" "y" "I", Cond.methodLink RX4 257 yJx4a65c_get_915e3, Cond.methodLink RX4 125 yX4_groundAt, Cond.instanceMethod yX4_groundAt, Cond.selects RX4 yX4_groundAt yX4_groundAt, Cond.code yX4_groundAt cX4_groundAt 3 (some .int)]
def wsL_law0_r14 : List Cond := [Cond.methodLink RX4 129 yX3_init, Cond.instanceMethod yX3_init, Cond.code yX3_init cX3_init 4 none, Cond.methodLink RX3 1 objectInit, Cond.fieldLink RX3 7 "MarketAwnings$Stall" "x" "I", Cond.fieldLink RX3 13 "MarketAwnings$Stall" "y" "I", Cond.fieldLink RX3 16 "MarketAwnings$Stall" "groundBefore" "I", Cond.methodLink RX4 132 yJx4a65c_add_9ea2d, Cond.methodLink RL 59 yX4_rain, Cond.instanceMethod yX4_rain, Cond.selects RX4 yX4_rain yX4_rain, Cond.code yX4_rain cX4_rain 4 (some .int), Cond.fieldLink RX4 145 "MarketAwnings$Awning" "dripped" "I", Cond.fieldLink RX4 152 "MarketAwnings$Shower" "onGround" "I", Cond.fieldLink RX4 155 "MarketAwnings$Shower" "ranOff" "I", Cond.methodLink RX4 136 yX4_requireDrops, Cond.static yX4_requireDrops, Cond.code yX4_requireDrops cX4_requireDrops 1 none, Cond.methodLink RX4 139 yX2_pour, Cond.instanceMethod yX2_pour, Cond.selects RX2 yX2_pour yX2_pour, Cond.code yX2_pour cX2_pour 4 none, Cond.methodLink RX2 29 yX2_dry, Cond.instanceMethod yX2_dry]
def wsL_law0_r15 : List Cond := [Cond.selects RX2 yX2_dry yX2_dry, Cond.code yX2_dry cX2_dry 1 none, Cond.methodLink RX2 44 yJ7_fill_53178, Cond.methodLink RX2 32 yX2_land, Cond.instanceMethod yX2_land, Cond.selects RX2 yX2_land yX2_land, Cond.code yX2_land cX2_land 6 none, Cond.methodLink RX2 86 yX1_highestBelow, Cond.instanceMethod yX1_highestBelow, Cond.selects RX1 yX1_highestBelow yX1_highestBelow, Cond.code yX1_highestBelow cX1_highestBelow 8 (some .int), Cond.fieldLink RX1 89 "MarketAwnings$Awning" "level" "I", Cond.methodLink RX1 92 yX0_covers, Cond.instanceMethod yX0_covers, Cond.selects RX0 yX0_covers yX0_covers, Cond.code yX0_covers cX0_covers 3 (some .boolean), Cond.methodLink RX2 36 yX2_dripFromLevel, Cond.instanceMethod yX2_dripFromLevel, Cond.selects RX2 yX2_dripFromLevel yX2_dripFromLevel, Cond.code yX2_dripFromLevel cX2_dripFromLevel 4 none, Cond.fieldLink RX2 60 "MarketAwnings$Awning" "out" "Z", Cond.fieldLink RX2 66 "MarketAwnings$Awning" "level" "I", Cond.methodLink RX2 50 yX1_size, Cond.methodLink RX2 56 yX1_numbered]
def wsL_law0_r16 : List Cond := [Cond.methodLink RX2 69 yX2_caughtBy, Cond.instanceMethod yX2_caughtBy, Cond.selects RX2 yX2_caughtBy yX2_caughtBy, Cond.code yX2_caughtBy cX2_caughtBy 2 (some .int), Cond.methodLink RX2 73 yX2_drip, Cond.instanceMethod yX2_drip, Cond.selects RX2 yX2_drip yX2_drip, Cond.code yX2_drip cX2_drip 8 none, Cond.methodLink RX2 77 yX0_cellsBeyond, Cond.instanceMethod yX0_cellsBeyond, Cond.selects RX0 yX0_cellsBeyond yX0_cellsBeyond, Cond.code yX0_cellsBeyond cX0_cellsBeyond 1 (some .int), Cond.methodLink RX0 37 yX0_dripsAlongRows, Cond.instanceMethod yX0_dripsAlongRows, Cond.selects RX0 yX0_dripsAlongRows yX0_dripsAlongRows, Cond.code yX0_dripsAlongRows cX0_dripsAlongRows 1 (some .boolean), Cond.methodLink RX2 80 yX0_columnBeyond, Cond.instanceMethod yX0_columnBeyond, Cond.selects RX0 yX0_columnBeyond yX0_columnBeyond, Cond.code yX0_columnBeyond cX0_columnBeyond 2 (some .int), Cond.methodLink RX2 83 yX0_rowBeyond, Cond.instanceMethod yX0_rowBeyond, Cond.selects RX0 yX0_rowBeyond yX0_rowBeyond, Cond.code yX0_rowBeyond cX0_rowBeyond 2 (some .int)]
def wsL_law0_r17 : List Cond := [Cond.methodLink RX4 142 yX2_fallenAt, Cond.instanceMethod yX2_fallenAt, Cond.selects RX2 yX2_fallenAt yX2_fallenAt, Cond.code yX2_fallenAt cX2_fallenAt 3 (some .int), Cond.methodLink RX4 148 yX2_caughtBy, Cond.methodLink RL 62 yX5_rain, Cond.instanceMethod yX5_rain, Cond.selects RX5 yX5_rain yX5_rain, Cond.code yX5_rain cX5_rain 8 (some .int), Cond.fieldLink RX5 38 "MarketAwningsLaw$Sim" "off" "I", Cond.fieldLink RX5 42 "MarketAwningsLaw$Sim" "hours" "I", Cond.methodLink RX5 34 yX5_hour, Cond.instanceMethod yX5_hour, Cond.selects RX5 yX5_hour yX5_hour, Cond.code yX5_hour cX5_hour 14 (some (.array (.array .int))), Cond.methodLink RX5 30 yX5_highest, Cond.instanceMethod yX5_highest, Cond.selects RX5 yX5_highest yX5_highest, Cond.code yX5_highest cX5_highest 6 (some .int), Cond.methodLink RL 77 yX4_count, Cond.instanceMethod yX4_count, Cond.selects RX4 yX4_count yX4_count, Cond.code yX4_count cX4_count 2 (some .int), Cond.methodLink RX4 158 yX4_requireWhat]
def wsL_law0_r18 : List Cond := [Cond.static yX4_requireWhat, Cond.code yX4_requireWhat cX4_requireWhat 2 none, Cond.methodLink RX4 213 yX1_sizeOut, Cond.instanceMethod yX1_sizeOut, Cond.selects RX1 yX1_sizeOut yX1_sizeOut, Cond.code yX1_sizeOut cX1_sizeOut 3 (some .int), Cond.methodLink RX4 216 yX1_outline, Cond.instanceMethod yX1_outline, Cond.selects RX1 yX1_outline yX1_outline, Cond.code yX1_outline cX1_outline 4 (some .int), Cond.methodLink RX1 99 yX1_layersAt, Cond.instanceMethod yX1_layersAt, Cond.selects RX1 yX1_layersAt yX1_layersAt, Cond.code yX1_layersAt cX1_layersAt 3 (some .int), Cond.methodLink RX1 103 yX1_openSides, Cond.instanceMethod yX1_openSides, Cond.selects RX1 yX1_openSides yX1_openSides, Cond.code yX1_openSides cX1_openSides 3 (some .int), Cond.methodLink RX1 106 yX1_openAt, Cond.instanceMethod yX1_openAt, Cond.selects RX1 yX1_openAt yX1_openAt, Cond.code yX1_openAt cX1_openAt 3 (some .int), Cond.methodLink RX4 219 yX1_parts, Cond.instanceMethod yX1_parts]
def wsL_law0_r19 : List Cond := [Cond.selects RX1 yX1_parts yX1_parts, Cond.code yX1_parts cX1_parts 4 (some .int), Cond.methodLink RX1 109 yX1_reach, Cond.instanceMethod yX1_reach, Cond.selects RX1 yX1_reach yX1_reach, Cond.code yX1_reach cX1_reach 4 none, Cond.methodLink RX1 113 yX1_reachAllFromQueue, Cond.instanceMethod yX1_reachAllFromQueue, Cond.selects RX1 yX1_reachAllFromQueue yX1_reachAllFromQueue, Cond.code yX1_reachAllFromQueue cX1_reachAllFromQueue 4 none, Cond.methodLink RX4 222 yX1_cellsWithLayers, Cond.methodLink RX4 225 yX4_stallsNotCovered, Cond.instanceMethod yX4_stallsNotCovered, Cond.selects RX4 yX4_stallsNotCovered yX4_stallsNotCovered, Cond.code yX4_stallsNotCovered cX4_stallsNotCovered 4 (some .int), Cond.methodLink RX4 171 yX1_layersAt, Cond.methodLink RL 80 yX4_digest, Cond.instanceMethod yX4_digest, Cond.selects RX4 yX4_digest yX4_digest, Cond.code yX4_digest cX4_digest 5 (some .long), Cond.constantLong RX4 232 (1741), Cond.constantLong RX4 234 (31), Cond.methodLink RX4 236 yX4_count, Cond.methodLink RX4 239 yX4_about]
def wsL_law0_r20 : List Cond := [Cond.instanceMethod yX4_about, Cond.selects RX4 yX4_about yX4_about, Cond.code yX4_about cX4_about 4 (some .int), Cond.fieldLink RX4 161 "MarketAwnings$Awning" "level" "I", Cond.fieldLink RX4 164 "MarketAwnings$Awning" "side" "I", Cond.methodLink RX4 167 yX1_coveredOnlyBy, Cond.instanceMethod yX1_coveredOnlyBy, Cond.selects RX1 yX1_coveredOnlyBy yX1_coveredOnlyBy, Cond.code yX1_coveredOnlyBy cX1_coveredOnlyBy 5 (some .int), Cond.methodLink RX4 242 yX4_told, Cond.instanceMethod yX4_told, Cond.selects RX4 yX4_told yX4_told, Cond.code yX4_told cX4_told 4 (some .int), Cond.methodLink RX4 195 yX4_numberedStall, Cond.instanceMethod yX4_numberedStall, Cond.selects RX4 yX4_numberedStall yX4_numberedStall, Cond.code yX4_numberedStall cX4_numberedStall 2 (some (.object "MarketAwnings$Stall")), Cond.methodLink RX4 201 yX4_gotBy, Cond.instanceMethod yX4_gotBy, Cond.selects RX4 yX4_gotBy yX4_gotBy, Cond.code yX4_gotBy cX4_gotBy 2 (some .int), Cond.fieldLink RX4 261 "MarketAwnings$Stall" "groundBefore" "I", Cond.methodLink RX4 245 yX4_digestOfColumn, Cond.instanceMethod yX4_digestOfColumn]
def wsL_law0_r21 : List Cond := [Cond.selects RX4 yX4_digestOfColumn yX4_digestOfColumn, Cond.code yX4_digestOfColumn cX4_digestOfColumn 8 (some .long), Cond.methodLink RX4 249 yX4_cord, Cond.instanceMethod yX4_cord, Cond.selects RX4 yX4_cord yX4_cord, Cond.code yX4_cord cX4_cord 3 (some .int), Cond.methodLink RX4 183 yX1_coveredInColumn, Cond.instanceMethod yX1_coveredInColumn, Cond.selects RX1 yX1_coveredInColumn yX1_coveredInColumn, Cond.code yX1_coveredInColumn cX1_coveredInColumn 4 (some .int), Cond.methodLink RX4 186 yX1_runsInColumn, Cond.instanceMethod yX1_runsInColumn, Cond.selects RX1 yX1_runsInColumn yX1_runsInColumn, Cond.code yX1_runsInColumn cX1_runsInColumn 4 (some .int), Cond.methodLink RX4 189 yX1_longestRunInColumn, Cond.instanceMethod yX1_longestRunInColumn, Cond.selects RX1 yX1_longestRunInColumn yX1_longestRunInColumn, Cond.code yX1_longestRunInColumn cX1_longestRunInColumn 5 (some .int), Cond.methodLink RX1 116 Lib.Math.max.name, Cond.methodLink RX4 192 yX1_mostLayersInColumn, Cond.instanceMethod yX1_mostLayersInColumn, Cond.selects RX1 yX1_mostLayersInColumn yX1_mostLayersInColumn, Cond.code yX1_mostLayersInColumn cX1_mostLayersInColumn 4 (some .int), Cond.methodLink RX4 252 yX4_cell]
def wsL_law0_r22 : List Cond := [Cond.instanceMethod yX4_cell, Cond.selects RX4 yX4_cell yX4_cell, Cond.code yX4_cell cX4_cell 4 (some .int), Cond.methodLink RX4 174 yX1_highestBelow, Cond.methodLink RL 84 yX4_cord, Cond.methodLink RL 87 yX4_cell, Cond.methodLink RL 89 yX4_about, Cond.methodLink RL 97 yX4_share, Cond.instanceMethod yX4_share, Cond.selects RX4 yX4_share yX4_share, Cond.code yX4_share cX4_share 7 (some .int), Cond.methodLink RX4 205 Lib.Math.min.name, Cond.methodLink RX4 210 Lib.Math.max.name, Cond.methodLink RL 100 yX4_told, Cond.methodLink RL 103 yX4_advise, Cond.instanceMethod yX4_advise, Cond.selects RX4 yX4_advise yX4_advise, Cond.code yX4_advise cX4_advise 6 (some .int), Cond.methodLink RL 106 yX5_isSame, Cond.instanceMethod yX5_isSame, Cond.selects RX5 yX5_isSame yX5_isSame, Cond.code yX5_isSame cX5_isSame 11 (some .boolean), Cond.methodLink RX5 49 Lib.Math.max.name, Cond.methodLink RX5 54 yX5_covered]
def wsL_law0_r23 : List Cond := [Cond.methodLink RX5 58 yX5_outline, Cond.instanceMethod yX5_outline, Cond.selects RX5 yX5_outline yX5_outline, Cond.code yX5_outline cX5_outline 4 (some .int), Cond.methodLink RX5 61 yX5_parts, Cond.instanceMethod yX5_parts, Cond.selects RX5 yX5_parts yX5_parts, Cond.code yX5_parts cX5_parts 8 (some .int), Cond.methodLink RX5 64 yX4_cell, Cond.methodLink RX5 69 yX4_cord, Cond.methodLink RX5 72 yX4_about, Cond.methodLink RX5 75 yX5_own, Cond.instanceMethod yX5_own, Cond.selects RX5 yX5_own yX5_own, Cond.code yX5_own cX5_own 5 (some .int), Cond.methodLink RX5 79 yX4_share, Cond.methodLink RX5 82 yX5_shared, Cond.instanceMethod yX5_shared, Cond.selects RX5 yX5_shared yX5_shared, Cond.code yX5_shared cX5_shared 6 (some .int), Cond.methodLink RX5 85 yX4_told, Cond.methodLink RX5 88 yX4_count, Cond.methodLink RX5 91 yX4_mean, Cond.instanceMethod yX4_mean]
def wsL_law0_r24 : List Cond := [Cond.selects RX4 yX4_mean yX4_mean, Cond.code yX4_mean cX4_mean 4 (some .double)]
def wsL_law0 : List Cond := (wsL_law0_r1 ++ (wsL_law0_r2 ++ (wsL_law0_r3 ++ (wsL_law0_r4 ++ (wsL_law0_r5 ++ (wsL_law0_r6 ++ (wsL_law0_r7 ++ (wsL_law0_r8 ++ (wsL_law0_r9 ++ (wsL_law0_r10 ++ (wsL_law0_r11 ++ (wsL_law0_r12 ++ (wsL_law0_r13 ++ (wsL_law0_r14 ++ (wsL_law0_r15 ++ (wsL_law0_r16 ++ (wsL_law0_r17 ++ (wsL_law0_r18 ++ (wsL_law0_r19 ++ (wsL_law0_r20 ++ (wsL_law0_r21 ++ (wsL_law0_r22 ++ (wsL_law0_r23 ++ wsL_law0_r24))))))))))))))))))))))) ++ wsX40 ++ wsX10 ++ wsX20 ++ wsJx4a65c0 ++ wsX50 ++ wsX00 ++ wsX30 ++ ([] : List Cond)
def wsL_law : List Cond := wsL_law0 ++ (vx_atS RX4 54 "java/lang/IllegalArgumentException" ["java/lang/RuntimeException", "java/lang/Exception"]).filter goodWord ++ (vx_atS RX4 71 "java/lang/IllegalStateException" ["java/lang/RuntimeException", "java/lang/Exception"]).filter goodWord ++ (vx_atS RX4 182 "java/lang/IndexOutOfBoundsException" ["java/lang/RuntimeException", "java/lang/Exception"]).filter goodWord ++ (vx_atS RX1 50 "java/lang/IndexOutOfBoundsException" ["java/lang/RuntimeException", "java/lang/Exception"]).filter goodWord
end
section
set_option maxRecDepth 20000 in
theorem wsL_law_c1 : ∀ w ∈ wsL_law0_r1, w ∈ lw_tbl := fun w h => (goodIn_r wsL_law0_r1 [42, 43, 21, 778, 391, 36, 392, 44, 45, 46, 47, 48, 49, 50, 51, 22, 125, 99, 100, 26, 126, 123, 57, 25] (by decide +kernel) (by decide +kernel) w h).1
set_option maxRecDepth 20000 in
theorem wsL_law_c2 : ∀ w ∈ wsL_law0_r2, w ∈ lw_tbl := fun w h => (goodIn_r wsL_law0_r2 [127, 98, 128, 129, 130, 131, 52, 53, 54, 55, 56, 82, 83, 84, 85, 86, 58, 59, 60, 68, 70, 61, 62, 24] (by decide +kernel) (by decide +kernel) w h).1
set_option maxRecDepth 20000 in
theorem wsL_law_c3 : ∀ w ∈ wsL_law0_r3, w ∈ lw_tbl := fun w h => (goodIn_r wsL_law0_r3 [63, 72, 64, 65, 23, 66, 67, 101, 102, 103, 104, 105, 106, 107, 108, 110, 124, 751, 752, 20, 753, 754, 755, 27] (by decide +kernel) (by decide +kernel) w h).1
set_option maxRecDepth 20000 in
theorem wsL_law_b4 : Cond.codeWith yL_act cL_act 12 (some .boolean) [(608, 636, 637, 57)] ∈ lw_tbl := List.mem_of_getElem? (i := 556) rfl
def wsL_law_p4 : List Cond := [Cond.instanceMethod yX5_init, Cond.code yX5_init cX5_init 1 none, Cond.methodLink RX5 1 objectInit, Cond.classLink RX5 7 "[I", Cond.fieldLink RX5 9 "MarketAwningsLaw$Sim" "awnings" "[[I", Cond.fieldLink RX5 15 "MarketAwningsLaw$Sim" "stalls" "[[I", Cond.classLink RX5 18 "[[I", Cond.fieldLink RX5 19 "MarketAwningsLaw$Sim" "ground" "[[I", Cond.methodLink RL 64 yL_cell, Cond.static yL_cell, Cond.code yL_cell cL_cell 2 (some .int), Cond.constant RL 8 (790386105), Cond.methodLink RL 68 yL_act, Cond.static yL_act]
def wsL_law_s4 : List Cond := [Cond.classLink RL 57 "java/lang/IllegalStateException", Cond.fieldLink RL 9 "MarketAwningsLaw$Sim" "awnings" "[[I", Cond.fieldLink RL 51 "MarketAwningsLaw$Sim" "stalls" "[[I", Cond.methodLink RL 15 yL_below, Cond.static yL_below, Cond.code yL_below cL_below 2 (some .int), Cond.constant RL 7 (2147483647), Cond.methodLink RL 21 yX5_with, Cond.static yX5_with]
end
section
set_option maxRecDepth 20000 in
theorem wsL_law_pc4 : ∀ w ∈ wsL_law_p4, w ∈ lw_tbl := fun w h => (goodIn_r wsL_law_p4 [757, 758, 759, 561, 760, 762, 493, 764, 550, 551, 552, 553, 554, 555] (by decide +kernel) (by decide +kernel) w h).1
set_option maxRecDepth 20000 in
theorem wsL_law_sc4 : ∀ w ∈ wsL_law_s4, w ∈ lw_tbl := fun w h => (goodIn_r wsL_law_s4 [557, 761, 763, 546, 547, 548, 549, 558, 559] (by decide +kernel) (by decide +kernel) w h).1
theorem wsL_law_c4 : ∀ w ∈ wsL_law0_r4, w ∈ lw_tbl := fun w h => (List.mem_append.mp (show w ∈ wsL_law_p4 ++ (Cond.codeWith yL_act cL_act 12 (some .boolean) [(608, 636, 637, 57)] :: wsL_law_s4) from h)).elim (fun h => wsL_law_pc4 w h) (fun h => (List.mem_cons.mp h).elim (fun e => by rw [e]; exact wsL_law_b4) (fun h => wsL_law_sc4 w h))
set_option maxRecDepth 20000 in
theorem wsL_law_c5 : ∀ w ∈ wsL_law0_r5, w ∈ lw_tbl := fun w h => (goodIn_r wsL_law0_r5 [560, 562, 563, 564, 565, 263, 31, 576, 33, 592, 593, 34, 566, 567, 568, 572, 573, 574, 347, 32, 338, 306, 307, 308] (by decide +kernel) (by decide +kernel) w h).1
set_option maxRecDepth 20000 in
theorem wsL_law_c6 : ∀ w ∈ wsL_law0_r6, w ∈ lw_tbl := fun w h => (goodIn_r wsL_law0_r6 [155, 156, 157, 158, 71, 594, 595, 596, 597, 598, 601, 604, 607, 610, 614, 616, 620, 639, 640, 641, 642, 643, 644, 645] (by decide +kernel) (by decide +kernel) w h).1
set_option maxRecDepth 20000 in
theorem wsL_law_c7 : ∀ w ∈ wsL_law0_r7, w ∈ lw_tbl := fun w h => (goodIn_r wsL_law0_r7 [646, 73, 74, 647, 649, 15, 650, 651, 653, 16, 654, 655, 657, 17, 658, 694, 695, 659, 660, 35, 661, 662, 663, 664] (by decide +kernel) (by decide +kernel) w h).1
end
section
set_option maxRecDepth 20000 in
theorem wsL_law_c8 : ∀ w ∈ wsL_law0_r8, w ∈ lw_tbl := fun w h => (goodIn_r wsL_law0_r8 [665, 666, 667, 668, 37, 669, 670, 793, 671, 683, 684, 685, 686, 687, 689, 690, 418, 419, 691, 693, 692, 38, 696, 243] (by decide +kernel) (by decide +kernel) w h).1
set_option maxRecDepth 20000 in
theorem wsL_law_c9 : ∀ w ∈ wsL_law0_r9, w ∈ lw_tbl := fun w h => (goodIn_r wsL_law0_r9 [244, 245, 241, 618, 246, 247, 248, 227, 228, 229, 230, 231, 232, 39, 233, 234, 235, 40, 236, 237, 238, 239, 240, 249] (by decide +kernel) (by decide +kernel) w h).1
set_option maxRecDepth 20000 in
theorem wsL_law_c10 : ∀ w ∈ wsL_law0_r10, w ∈ lw_tbl := fun w h => (goodIn_r wsL_law0_r10 [251, 1, 252, 603, 609, 600, 606, 254, 255, 147, 148, 149, 150, 617, 151, 152, 153, 154, 159, 242, 697, 698, 699, 700] (by decide +kernel) (by decide +kernel) w h).1
set_option maxRecDepth 20000 in
theorem wsL_law_c11 : ∀ w ∈ wsL_law0_r11, w ∈ lw_tbl := fun w h => (goodIn_r wsL_law0_r11 [605, 608, 599, 602, 429, 430, 431, 432, 433, 434, 435, 436, 701, 508, 509, 510, 511, 512, 513, 514, 515, 516, 517, 518] (by decide +kernel) (by decide +kernel) w h).1
set_option maxRecDepth 20000 in
theorem wsL_law_c12 : ∀ w ∈ wsL_law0_r12, w ∈ lw_tbl := fun w h => (goodIn_r wsL_law0_r12 [499, 500, 501, 502, 702, 703, 704, 705, 706, 707, 708, 709, 710, 711, 712, 713, 714, 715, 716, 717, 719, 18, 720, 721] (by decide +kernel) (by decide +kernel) w h).1
end
section
set_option maxRecDepth 20000 in
theorem wsL_law_c13 : ∀ w ∈ wsL_law0_r13, w ∈ lw_tbl := fun w h => (goodIn_r wsL_law0_r13 [722, 723, 724, 725, 408, 732, 41, 362, 363, 364, 365, 405, 727, 729, 19, 730, 408, 738, 740, 407, 369, 371, 6, 372] (by decide +kernel) (by decide +kernel) w h).1
set_option maxRecDepth 20000 in
theorem wsL_law_c14 : ∀ w ∈ wsL_law0_r14, w ∈ lw_tbl := fun w h => (goodIn_r wsL_law0_r14 [733, 734, 735, 736, 737, 739, 741, 750, 256, 257, 258, 259, 621, 109, 111, 260, 261, 262, 279, 280, 281, 282, 283, 285] (by decide +kernel) (by decide +kernel) w h).1
set_option maxRecDepth 20000 in
theorem wsL_law_c15 : ∀ w ∈ wsL_law0_r15, w ∈ lw_tbl := fun w h => (goodIn_r wsL_law0_r15 [2, 286, 287, 288, 290, 3, 291, 293, 294, 295, 296, 613, 297, 298, 299, 300, 301, 303, 4, 304, 619, 611, 305, 309] (by decide +kernel) (by decide +kernel) w h).1
set_option maxRecDepth 20000 in
theorem wsL_law_c16 : ∀ w ∈ wsL_law0_r16, w ∈ lw_tbl := fun w h => (goodIn_r wsL_law0_r16 [310, 311, 312, 313, 314, 316, 5, 317, 318, 319, 320, 321, 322, 323, 324, 325, 326, 327, 328, 329, 330, 331, 332, 333] (by decide +kernel) (by decide +kernel) w h).1
set_option maxRecDepth 20000 in
theorem wsL_law_c17 : ∀ w ∈ wsL_law0_r17, w ∈ lw_tbl := fun w h => (goodIn_r wsL_law0_r17 [334, 335, 336, 337, 339, 485, 486, 487, 488, 766, 765, 489, 490, 491, 492, 495, 496, 497, 498, 421, 422, 423, 424, 344] (by decide +kernel) (by decide +kernel) w h).1
end
section
set_option maxRecDepth 20000 in
theorem wsL_law_c18 : ∀ w ∈ wsL_law0_r18, w ∈ lw_tbl := fun w h => (goodIn_r wsL_law0_r18 [345, 346, 425, 426, 427, 428, 437, 438, 439, 440, 354, 355, 356, 357, 441, 443, 9, 444, 445, 447, 10, 448, 449, 450] (by decide +kernel) (by decide +kernel) w h).1
set_option maxRecDepth 20000 in
theorem wsL_law_c19 : ∀ w ∈ wsL_law0_r19, w ∈ lw_tbl := fun w h => (goodIn_r wsL_law0_r19 [451, 452, 453, 455, 11, 456, 457, 459, 12, 460, 461, 462, 464, 13, 465, 367, 470, 471, 472, 473, 474, 475, 476, 477] (by decide +kernel) (by decide +kernel) w h).1
set_option maxRecDepth 20000 in
theorem wsL_law_c20 : ∀ w ∈ wsL_law0_r20, w ∈ lw_tbl := fun w h => (goodIn_r wsL_law0_r20 [341, 342, 343, 612, 615, 350, 351, 352, 353, 478, 398, 399, 400, 401, 403, 7, 404, 409, 411, 8, 412, 742, 479, 481] (by decide +kernel) (by decide +kernel) w h).1
set_option maxRecDepth 20000 in
theorem wsL_law_c21 : ∀ w ∈ wsL_law0_r21, w ∈ lw_tbl := fun w h => (goodIn_r wsL_law0_r21 [14, 482, 483, 374, 375, 376, 378, 379, 380, 381, 382, 383, 384, 385, 386, 387, 388, 389, 390, 393, 394, 395, 396, 484] (by decide +kernel) (by decide +kernel) w h).1
set_option maxRecDepth 20000 in
theorem wsL_law_b22 : Cond.code yX5_isSame cX5_isSame 11 (some .boolean) ∈ lw_tbl := List.mem_of_getElem? (i := 506) rfl
def wsL_law_p22 : List Cond := [Cond.instanceMethod yX4_cell, Cond.selects RX4 yX4_cell yX4_cell, Cond.code yX4_cell cX4_cell 4 (some .int), Cond.methodLink RX4 174 yX1_highestBelow, Cond.methodLink RL 84 yX4_cord, Cond.methodLink RL 87 yX4_cell, Cond.methodLink RL 89 yX4_about, Cond.methodLink RL 97 yX4_share, Cond.instanceMethod yX4_share, Cond.selects RX4 yX4_share yX4_share, Cond.code yX4_share cX4_share 7 (some .int), Cond.methodLink RX4 205 Lib.Math.min.name, Cond.methodLink RX4 210 Lib.Math.max.name, Cond.methodLink RL 100 yX4_told, Cond.methodLink RL 103 yX4_advise, Cond.instanceMethod yX4_advise, Cond.selects RX4 yX4_advise yX4_advise, Cond.code yX4_advise cX4_advise 6 (some .int), Cond.methodLink RL 106 yX5_isSame, Cond.instanceMethod yX5_isSame, Cond.selects RX5 yX5_isSame yX5_isSame]
def wsL_law_s22 : List Cond := [Cond.methodLink RX5 49 Lib.Math.max.name, Cond.methodLink RX5 54 yX5_covered]
end
section
set_option maxRecDepth 20000 in
theorem wsL_law_pc22 : ∀ w ∈ wsL_law_p22, w ∈ lw_tbl := fun w h => (goodIn_r wsL_law_p22 [359, 360, 361, 368, 373, 358, 340, 413, 414, 415, 416, 417, 420, 397, 466, 467, 468, 469, 503, 504, 505] (by decide +kernel) (by decide +kernel) w h).1
set_option maxRecDepth 20000 in
theorem wsL_law_sc22 : ∀ w ∈ wsL_law_s22, w ∈ lw_tbl := fun w h => (goodIn_r wsL_law_s22 [527, 507] (by decide +kernel) (by decide +kernel) w h).1
theorem wsL_law_c22 : ∀ w ∈ wsL_law0_r22, w ∈ lw_tbl := fun w h => (List.mem_append.mp (show w ∈ wsL_law_p22 ++ (Cond.code yX5_isSame cX5_isSame 11 (some .boolean) :: wsL_law_s22) from h)).elim (fun h => wsL_law_pc22 w h) (fun h => (List.mem_cons.mp h).elim (fun e => by rw [e]; exact wsL_law_b22) (fun h => wsL_law_sc22 w h))
set_option maxRecDepth 20000 in
theorem wsL_law_c23 : ∀ w ∈ wsL_law0_r23, w ∈ lw_tbl := fun w h => (goodIn_r wsL_law0_r23 [519, 520, 521, 522, 523, 524, 525, 526, 528, 529, 530, 531, 532, 533, 534, 535, 536, 537, 538, 539, 540, 541, 542, 543] (by decide +kernel) (by decide +kernel) w h).1
set_option maxRecDepth 20000 in
theorem wsL_law_c24 : ∀ w ∈ wsL_law0_r24, w ∈ lw_tbl := fun w h => (goodIn_r wsL_law0_r24 [544, 545] (by decide +kernel) (by decide +kernel) w h).1
end
section
theorem wsL_law_in0a : ∀ w ∈ (wsL_law0_r1 ++ (wsL_law0_r2 ++ (wsL_law0_r3 ++ (wsL_law0_r4 ++ (wsL_law0_r5 ++ (wsL_law0_r6 ++ (wsL_law0_r7 ++ (wsL_law0_r8 ++ (wsL_law0_r9 ++ (wsL_law0_r10 ++ (wsL_law0_r11 ++ (wsL_law0_r12 ++ (wsL_law0_r13 ++ (wsL_law0_r14 ++ (wsL_law0_r15 ++ (wsL_law0_r16 ++ (wsL_law0_r17 ++ (wsL_law0_r18 ++ (wsL_law0_r19 ++ (wsL_law0_r20 ++ (wsL_law0_r21 ++ (wsL_law0_r22 ++ (wsL_law0_r23 ++ wsL_law0_r24))))))))))))))))))))))), w ∈ lw_tbl := fun w h => (List.mem_append.mp h).elim (fun h => wsL_law_c1 w h) (fun h => (List.mem_append.mp h).elim (fun h => wsL_law_c2 w h) (fun h => (List.mem_append.mp h).elim (fun h => wsL_law_c3 w h) (fun h => (List.mem_append.mp h).elim (fun h => wsL_law_c4 w h) (fun h => (List.mem_append.mp h).elim (fun h => wsL_law_c5 w h) (fun h => (List.mem_append.mp h).elim (fun h => wsL_law_c6 w h) (fun h => (List.mem_append.mp h).elim (fun h => wsL_law_c7 w h) (fun h => (List.mem_append.mp h).elim (fun h => wsL_law_c8 w h) (fun h => (List.mem_append.mp h).elim (fun h => wsL_law_c9 w h) (fun h => (List.mem_append.mp h).elim (fun h => wsL_law_c10 w h) (fun h => (List.mem_append.mp h).elim (fun h => wsL_law_c11 w h) (fun h => (List.mem_append.mp h).elim (fun h => wsL_law_c12 w h) (fun h => (List.mem_append.mp h).elim (fun h => wsL_law_c13 w h) (fun h => (List.mem_append.mp h).elim (fun h => wsL_law_c14 w h) (fun h => (List.mem_append.mp h).elim (fun h => wsL_law_c15 w h) (fun h => (List.mem_append.mp h).elim (fun h => wsL_law_c16 w h) (fun h => (List.mem_append.mp h).elim (fun h => wsL_law_c17 w h) (fun h => (List.mem_append.mp h).elim (fun h => wsL_law_c18 w h) (fun h => (List.mem_append.mp h).elim (fun h => wsL_law_c19 w h) (fun h => (List.mem_append.mp h).elim (fun h => wsL_law_c20 w h) (fun h => (List.mem_append.mp h).elim (fun h => wsL_law_c21 w h) (fun h => (List.mem_append.mp h).elim (fun h => wsL_law_c22 w h) (fun h => (List.mem_append.mp h).elim (fun h => wsL_law_c23 w h) (fun h => wsL_law_c24 w h)))))))))))))))))))))))
theorem wsL_law_uwsX40 : ∀ w ∈ wsX40, w ∈ lw_tbl := by decide +kernel
theorem wsL_law_uwsX10 : ∀ w ∈ wsX10, w ∈ lw_tbl := by decide +kernel
theorem wsL_law_uwsX20 : ∀ w ∈ wsX20, w ∈ lw_tbl := by decide +kernel
theorem wsL_law_uwsJx4a65c0 : ∀ w ∈ wsJx4a65c0, w ∈ lw_tbl := by decide +kernel
theorem wsL_law_uwsX50 : ∀ w ∈ wsX50, w ∈ lw_tbl := by decide +kernel
theorem wsL_law_uwsX00 : ∀ w ∈ wsX00, w ∈ lw_tbl := by decide +kernel
theorem wsL_law_uwsX30 : ∀ w ∈ wsX30, w ∈ lw_tbl := by decide +kernel
set_option maxRecDepth 20000 in
theorem wsL_law_in0 : ∀ w ∈ wsL_law0, w ∈ lw_tbl := fun w h => (List.mem_append.mp h).elim (fun h => (List.mem_append.mp h).elim (fun h => (List.mem_append.mp h).elim (fun h => (List.mem_append.mp h).elim (fun h => (List.mem_append.mp h).elim (fun h => (List.mem_append.mp h).elim (fun h => (List.mem_append.mp h).elim (fun h => (List.mem_append.mp h).elim (fun h => wsL_law_in0a w h) (fun h => wsL_law_uwsX40 w h)) (fun h => wsL_law_uwsX10 w h)) (fun h => wsL_law_uwsX20 w h)) (fun h => wsL_law_uwsJx4a65c0 w h)) (fun h => wsL_law_uwsX50 w h)) (fun h => wsL_law_uwsX00 w h)) (fun h => wsL_law_uwsX30 w h)) (fun h => absurd h List.not_mem_nil)
theorem wsL_law_x0 : ∀ w ∈ (vx_atS RX4 54 "java/lang/IllegalArgumentException" ["java/lang/RuntimeException", "java/lang/Exception"]).filter goodWord, w ∈ lw_tbl := by decide +kernel
theorem wsL_law_x1 : ∀ w ∈ (vx_atS RX4 71 "java/lang/IllegalStateException" ["java/lang/RuntimeException", "java/lang/Exception"]).filter goodWord, w ∈ lw_tbl := by decide +kernel
theorem wsL_law_x2 : ∀ w ∈ (vx_atS RX4 182 "java/lang/IndexOutOfBoundsException" ["java/lang/RuntimeException", "java/lang/Exception"]).filter goodWord, w ∈ lw_tbl := by decide +kernel
theorem wsL_law_x3 : ∀ w ∈ (vx_atS RX1 50 "java/lang/IndexOutOfBoundsException" ["java/lang/RuntimeException", "java/lang/Exception"]).filter goodWord, w ∈ lw_tbl := by decide +kernel
theorem wsL_law_in : ∀ w ∈ wsL_law, w ∈ lw_tbl := fun w h => (List.mem_append.mp h).elim (fun h => (List.mem_append.mp h).elim (fun h => (List.mem_append.mp h).elim (fun h => (List.mem_append.mp h).elim (fun h => wsL_law_in0 w h) (fun h => wsL_law_x0 w h)) (fun h => wsL_law_x1 w h)) (fun h => wsL_law_x2 w h)) (fun h => wsL_law_x3 w h)
theorem inlX0 : ∀ w ∈ wsX00, w ∈ wsL_law := fun _ h => List.mem_append_left _ (List.mem_append_left _ (List.mem_append_left _ (List.mem_append_left _ (List.mem_append_left _ (List.mem_append_left _ (List.mem_append_right _ h))))))
theorem inX0 : ∀ w ∈ wsX00, w ∈ lw_tbl := fun w h => wsL_law_in w (inlX0 w h)
theorem inlX1 : ∀ w ∈ wsX10, w ∈ wsL_law := fun _ h => List.mem_append_left _ (List.mem_append_left _ (List.mem_append_left _ (List.mem_append_left _ (List.mem_append_left _ (List.mem_append_left _ (List.mem_append_left _ (List.mem_append_left _ (List.mem_append_left _ (List.mem_append_left _ (List.mem_append_right _ h))))))))))
theorem inX1 : ∀ w ∈ wsX10, w ∈ lw_tbl := fun w h => wsL_law_in w (inlX1 w h)
theorem inlX2 : ∀ w ∈ wsX20, w ∈ wsL_law := fun _ h => List.mem_append_left _ (List.mem_append_left _ (List.mem_append_left _ (List.mem_append_left _ (List.mem_append_left _ (List.mem_append_left _ (List.mem_append_left _ (List.mem_append_left _ (List.mem_append_left _ (List.mem_append_right _ h)))))))))
theorem inX2 : ∀ w ∈ wsX20, w ∈ lw_tbl := fun w h => wsL_law_in w (inlX2 w h)
theorem inlX3 : ∀ w ∈ wsX30, w ∈ wsL_law := fun _ h => List.mem_append_left _ (List.mem_append_left _ (List.mem_append_left _ (List.mem_append_left _ (List.mem_append_left _ (List.mem_append_right _ h)))))
theorem inX3 : ∀ w ∈ wsX30, w ∈ lw_tbl := fun w h => wsL_law_in w (inlX3 w h)
theorem inlX4 : ∀ w ∈ wsX40, w ∈ wsL_law := fun _ h => List.mem_append_left _ (List.mem_append_left _ (List.mem_append_left _ (List.mem_append_left _ (List.mem_append_left _ (List.mem_append_left _ (List.mem_append_left _ (List.mem_append_left _ (List.mem_append_left _ (List.mem_append_left _ (List.mem_append_left _ (List.mem_append_right _ h)))))))))))
theorem inX4 : ∀ w ∈ wsX40, w ∈ lw_tbl := fun w h => wsL_law_in w (inlX4 w h)
theorem inlX5 : ∀ w ∈ wsX50, w ∈ wsL_law := fun _ h => List.mem_append_left _ (List.mem_append_left _ (List.mem_append_left _ (List.mem_append_left _ (List.mem_append_left _ (List.mem_append_left _ (List.mem_append_left _ (List.mem_append_right _ h)))))))
theorem inX5 : ∀ w ∈ wsX50, w ∈ lw_tbl := fun w h => wsL_law_in w (inlX5 w h)
theorem inX6 : ∀ w ∈ wsX60, w ∈ lw_tbl := by decide +kernel
theorem inlJx4a65c : ∀ w ∈ wsJx4a65c0, w ∈ wsL_law := fun _ h => List.mem_append_left _ (List.mem_append_left _ (List.mem_append_left _ (List.mem_append_left _ (List.mem_append_left _ (List.mem_append_left _ (List.mem_append_left _ (List.mem_append_left _ (List.mem_append_right _ h))))))))
theorem inJx4a65c : ∀ w ∈ wsJx4a65c0, w ∈ lw_tbl := fun w h => wsL_law_in w (inlJx4a65c w h)
abbrev vwCl : List vw_C := [(RJx4a65c, TJx4a65c, 3), (RX0, TX0, 8), (RX1, TX1, 5), (RX2, TX2, 5), (RX3, TX3, 3), (RX4, TX4, 7), (RX5, TX5, 5)]
end
section
theorem wl_1 : ∀ w ∈ wsL_law0_r1, w ∈ wsL_law := fun w h => List.mem_append_left _ (List.mem_append_left _ (List.mem_append_left _ (List.mem_append_left _ (List.mem_append_left _ (List.mem_append_left _ (List.mem_append_left _ (List.mem_append_left _ (List.mem_append_left _ (List.mem_append_left _ (List.mem_append_left _ (List.mem_append_left _ (List.mem_append_left _ h))))))))))))
theorem wl_2 : ∀ w ∈ wsL_law0_r2, w ∈ wsL_law := fun w h => List.mem_append_left _ (List.mem_append_left _ (List.mem_append_left _ (List.mem_append_left _ (List.mem_append_left _ (List.mem_append_left _ (List.mem_append_left _ (List.mem_append_left _ (List.mem_append_left _ (List.mem_append_left _ (List.mem_append_left _ (List.mem_append_left _ (List.mem_append_right _ (List.mem_append_left _ h)))))))))))))
theorem wl_3 : ∀ w ∈ wsL_law0_r3, w ∈ wsL_law := fun w h => List.mem_append_left _ (List.mem_append_left _ (List.mem_append_left _ (List.mem_append_left _ (List.mem_append_left _ (List.mem_append_left _ (List.mem_append_left _ (List.mem_append_left _ (List.mem_append_left _ (List.mem_append_left _ (List.mem_append_left _ (List.mem_append_left _ (List.mem_append_right _ (List.mem_append_right _ (List.mem_append_left _ h))))))))))))))
theorem wl_4 : ∀ w ∈ wsL_law0_r4, w ∈ wsL_law := fun w h => List.mem_append_left _ (List.mem_append_left _ (List.mem_append_left _ (List.mem_append_left _ (List.mem_append_left _ (List.mem_append_left _ (List.mem_append_left _ (List.mem_append_left _ (List.mem_append_left _ (List.mem_append_left _ (List.mem_append_left _ (List.mem_append_left _ (List.mem_append_right _ (List.mem_append_right _ (List.mem_append_right _ (List.mem_append_left _ h)))))))))))))))
theorem wl_5 : ∀ w ∈ wsL_law0_r5, w ∈ wsL_law := fun w h => List.mem_append_left _ (List.mem_append_left _ (List.mem_append_left _ (List.mem_append_left _ (List.mem_append_left _ (List.mem_append_left _ (List.mem_append_left _ (List.mem_append_left _ (List.mem_append_left _ (List.mem_append_left _ (List.mem_append_left _ (List.mem_append_left _ (List.mem_append_right _ (List.mem_append_right _ (List.mem_append_right _ (List.mem_append_right _ (List.mem_append_left _ h))))))))))))))))
theorem wl_6 : ∀ w ∈ wsL_law0_r6, w ∈ wsL_law := fun w h => List.mem_append_left _ (List.mem_append_left _ (List.mem_append_left _ (List.mem_append_left _ (List.mem_append_left _ (List.mem_append_left _ (List.mem_append_left _ (List.mem_append_left _ (List.mem_append_left _ (List.mem_append_left _ (List.mem_append_left _ (List.mem_append_left _ (List.mem_append_right _ (List.mem_append_right _ (List.mem_append_right _ (List.mem_append_right _ (List.mem_append_right _ (List.mem_append_left _ h)))))))))))))))))
theorem wl_7 : ∀ w ∈ wsL_law0_r7, w ∈ wsL_law := fun w h => List.mem_append_left _ (List.mem_append_left _ (List.mem_append_left _ (List.mem_append_left _ (List.mem_append_left _ (List.mem_append_left _ (List.mem_append_left _ (List.mem_append_left _ (List.mem_append_left _ (List.mem_append_left _ (List.mem_append_left _ (List.mem_append_left _ (List.mem_append_right _ (List.mem_append_right _ (List.mem_append_right _ (List.mem_append_right _ (List.mem_append_right _ (List.mem_append_right _ (List.mem_append_left _ h))))))))))))))))))
theorem wl_8 : ∀ w ∈ wsL_law0_r8, w ∈ wsL_law := fun w h => List.mem_append_left _ (List.mem_append_left _ (List.mem_append_left _ (List.mem_append_left _ (List.mem_append_left _ (List.mem_append_left _ (List.mem_append_left _ (List.mem_append_left _ (List.mem_append_left _ (List.mem_append_left _ (List.mem_append_left _ (List.mem_append_left _ (List.mem_append_right _ (List.mem_append_right _ (List.mem_append_right _ (List.mem_append_right _ (List.mem_append_right _ (List.mem_append_right _ (List.mem_append_right _ (List.mem_append_left _ h)))))))))))))))))))
theorem wl_9 : ∀ w ∈ wsL_law0_r9, w ∈ wsL_law := fun w h => List.mem_append_left _ (List.mem_append_left _ (List.mem_append_left _ (List.mem_append_left _ (List.mem_append_left _ (List.mem_append_left _ (List.mem_append_left _ (List.mem_append_left _ (List.mem_append_left _ (List.mem_append_left _ (List.mem_append_left _ (List.mem_append_left _ (List.mem_append_right _ (List.mem_append_right _ (List.mem_append_right _ (List.mem_append_right _ (List.mem_append_right _ (List.mem_append_right _ (List.mem_append_right _ (List.mem_append_right _ (List.mem_append_left _ h))))))))))))))))))))
theorem wl_10 : ∀ w ∈ wsL_law0_r10, w ∈ wsL_law := fun w h => List.mem_append_left _ (List.mem_append_left _ (List.mem_append_left _ (List.mem_append_left _ (List.mem_append_left _ (List.mem_append_left _ (List.mem_append_left _ (List.mem_append_left _ (List.mem_append_left _ (List.mem_append_left _ (List.mem_append_left _ (List.mem_append_left _ (List.mem_append_right _ (List.mem_append_right _ (List.mem_append_right _ (List.mem_append_right _ (List.mem_append_right _ (List.mem_append_right _ (List.mem_append_right _ (List.mem_append_right _ (List.mem_append_right _ (List.mem_append_left _ h)))))))))))))))))))))
theorem wl_11 : ∀ w ∈ wsL_law0_r11, w ∈ wsL_law := fun w h => List.mem_append_left _ (List.mem_append_left _ (List.mem_append_left _ (List.mem_append_left _ (List.mem_append_left _ (List.mem_append_left _ (List.mem_append_left _ (List.mem_append_left _ (List.mem_append_left _ (List.mem_append_left _ (List.mem_append_left _ (List.mem_append_left _ (List.mem_append_right _ (List.mem_append_right _ (List.mem_append_right _ (List.mem_append_right _ (List.mem_append_right _ (List.mem_append_right _ (List.mem_append_right _ (List.mem_append_right _ (List.mem_append_right _ (List.mem_append_right _ (List.mem_append_left _ h))))))))))))))))))))))
theorem wl_12 : ∀ w ∈ wsL_law0_r12, w ∈ wsL_law := fun w h => List.mem_append_left _ (List.mem_append_left _ (List.mem_append_left _ (List.mem_append_left _ (List.mem_append_left _ (List.mem_append_left _ (List.mem_append_left _ (List.mem_append_left _ (List.mem_append_left _ (List.mem_append_left _ (List.mem_append_left _ (List.mem_append_left _ (List.mem_append_right _ (List.mem_append_right _ (List.mem_append_right _ (List.mem_append_right _ (List.mem_append_right _ (List.mem_append_right _ (List.mem_append_right _ (List.mem_append_right _ (List.mem_append_right _ (List.mem_append_right _ (List.mem_append_right _ (List.mem_append_left _ h)))))))))))))))))))))))
theorem wl_13 : ∀ w ∈ wsL_law0_r13, w ∈ wsL_law := fun w h => List.mem_append_left _ (List.mem_append_left _ (List.mem_append_left _ (List.mem_append_left _ (List.mem_append_left _ (List.mem_append_left _ (List.mem_append_left _ (List.mem_append_left _ (List.mem_append_left _ (List.mem_append_left _ (List.mem_append_left _ (List.mem_append_left _ (List.mem_append_right _ (List.mem_append_right _ (List.mem_append_right _ (List.mem_append_right _ (List.mem_append_right _ (List.mem_append_right _ (List.mem_append_right _ (List.mem_append_right _ (List.mem_append_right _ (List.mem_append_right _ (List.mem_append_right _ (List.mem_append_right _ (List.mem_append_left _ h))))))))))))))))))))))))
theorem wl_14 : ∀ w ∈ wsL_law0_r14, w ∈ wsL_law := fun w h => List.mem_append_left _ (List.mem_append_left _ (List.mem_append_left _ (List.mem_append_left _ (List.mem_append_left _ (List.mem_append_left _ (List.mem_append_left _ (List.mem_append_left _ (List.mem_append_left _ (List.mem_append_left _ (List.mem_append_left _ (List.mem_append_left _ (List.mem_append_right _ (List.mem_append_right _ (List.mem_append_right _ (List.mem_append_right _ (List.mem_append_right _ (List.mem_append_right _ (List.mem_append_right _ (List.mem_append_right _ (List.mem_append_right _ (List.mem_append_right _ (List.mem_append_right _ (List.mem_append_right _ (List.mem_append_right _ (List.mem_append_left _ h)))))))))))))))))))))))))
theorem wl_15 : ∀ w ∈ wsL_law0_r15, w ∈ wsL_law := fun w h => List.mem_append_left _ (List.mem_append_left _ (List.mem_append_left _ (List.mem_append_left _ (List.mem_append_left _ (List.mem_append_left _ (List.mem_append_left _ (List.mem_append_left _ (List.mem_append_left _ (List.mem_append_left _ (List.mem_append_left _ (List.mem_append_left _ (List.mem_append_right _ (List.mem_append_right _ (List.mem_append_right _ (List.mem_append_right _ (List.mem_append_right _ (List.mem_append_right _ (List.mem_append_right _ (List.mem_append_right _ (List.mem_append_right _ (List.mem_append_right _ (List.mem_append_right _ (List.mem_append_right _ (List.mem_append_right _ (List.mem_append_right _ (List.mem_append_left _ h))))))))))))))))))))))))))
theorem wl_16 : ∀ w ∈ wsL_law0_r16, w ∈ wsL_law := fun w h => List.mem_append_left _ (List.mem_append_left _ (List.mem_append_left _ (List.mem_append_left _ (List.mem_append_left _ (List.mem_append_left _ (List.mem_append_left _ (List.mem_append_left _ (List.mem_append_left _ (List.mem_append_left _ (List.mem_append_left _ (List.mem_append_left _ (List.mem_append_right _ (List.mem_append_right _ (List.mem_append_right _ (List.mem_append_right _ (List.mem_append_right _ (List.mem_append_right _ (List.mem_append_right _ (List.mem_append_right _ (List.mem_append_right _ (List.mem_append_right _ (List.mem_append_right _ (List.mem_append_right _ (List.mem_append_right _ (List.mem_append_right _ (List.mem_append_right _ (List.mem_append_left _ h)))))))))))))))))))))))))))
theorem wl_17 : ∀ w ∈ wsL_law0_r17, w ∈ wsL_law := fun w h => List.mem_append_left _ (List.mem_append_left _ (List.mem_append_left _ (List.mem_append_left _ (List.mem_append_left _ (List.mem_append_left _ (List.mem_append_left _ (List.mem_append_left _ (List.mem_append_left _ (List.mem_append_left _ (List.mem_append_left _ (List.mem_append_left _ (List.mem_append_right _ (List.mem_append_right _ (List.mem_append_right _ (List.mem_append_right _ (List.mem_append_right _ (List.mem_append_right _ (List.mem_append_right _ (List.mem_append_right _ (List.mem_append_right _ (List.mem_append_right _ (List.mem_append_right _ (List.mem_append_right _ (List.mem_append_right _ (List.mem_append_right _ (List.mem_append_right _ (List.mem_append_right _ (List.mem_append_left _ h))))))))))))))))))))))))))))
theorem wl_18 : ∀ w ∈ wsL_law0_r18, w ∈ wsL_law := fun w h => List.mem_append_left _ (List.mem_append_left _ (List.mem_append_left _ (List.mem_append_left _ (List.mem_append_left _ (List.mem_append_left _ (List.mem_append_left _ (List.mem_append_left _ (List.mem_append_left _ (List.mem_append_left _ (List.mem_append_left _ (List.mem_append_left _ (List.mem_append_right _ (List.mem_append_right _ (List.mem_append_right _ (List.mem_append_right _ (List.mem_append_right _ (List.mem_append_right _ (List.mem_append_right _ (List.mem_append_right _ (List.mem_append_right _ (List.mem_append_right _ (List.mem_append_right _ (List.mem_append_right _ (List.mem_append_right _ (List.mem_append_right _ (List.mem_append_right _ (List.mem_append_right _ (List.mem_append_right _ (List.mem_append_left _ h)))))))))))))))))))))))))))))
theorem wl_19 : ∀ w ∈ wsL_law0_r19, w ∈ wsL_law := fun w h => List.mem_append_left _ (List.mem_append_left _ (List.mem_append_left _ (List.mem_append_left _ (List.mem_append_left _ (List.mem_append_left _ (List.mem_append_left _ (List.mem_append_left _ (List.mem_append_left _ (List.mem_append_left _ (List.mem_append_left _ (List.mem_append_left _ (List.mem_append_right _ (List.mem_append_right _ (List.mem_append_right _ (List.mem_append_right _ (List.mem_append_right _ (List.mem_append_right _ (List.mem_append_right _ (List.mem_append_right _ (List.mem_append_right _ (List.mem_append_right _ (List.mem_append_right _ (List.mem_append_right _ (List.mem_append_right _ (List.mem_append_right _ (List.mem_append_right _ (List.mem_append_right _ (List.mem_append_right _ (List.mem_append_right _ (List.mem_append_left _ h))))))))))))))))))))))))))))))
theorem wl_20 : ∀ w ∈ wsL_law0_r20, w ∈ wsL_law := fun w h => List.mem_append_left _ (List.mem_append_left _ (List.mem_append_left _ (List.mem_append_left _ (List.mem_append_left _ (List.mem_append_left _ (List.mem_append_left _ (List.mem_append_left _ (List.mem_append_left _ (List.mem_append_left _ (List.mem_append_left _ (List.mem_append_left _ (List.mem_append_right _ (List.mem_append_right _ (List.mem_append_right _ (List.mem_append_right _ (List.mem_append_right _ (List.mem_append_right _ (List.mem_append_right _ (List.mem_append_right _ (List.mem_append_right _ (List.mem_append_right _ (List.mem_append_right _ (List.mem_append_right _ (List.mem_append_right _ (List.mem_append_right _ (List.mem_append_right _ (List.mem_append_right _ (List.mem_append_right _ (List.mem_append_right _ (List.mem_append_right _ (List.mem_append_left _ h)))))))))))))))))))))))))))))))
theorem wl_21 : ∀ w ∈ wsL_law0_r21, w ∈ wsL_law := fun w h => List.mem_append_left _ (List.mem_append_left _ (List.mem_append_left _ (List.mem_append_left _ (List.mem_append_left _ (List.mem_append_left _ (List.mem_append_left _ (List.mem_append_left _ (List.mem_append_left _ (List.mem_append_left _ (List.mem_append_left _ (List.mem_append_left _ (List.mem_append_right _ (List.mem_append_right _ (List.mem_append_right _ (List.mem_append_right _ (List.mem_append_right _ (List.mem_append_right _ (List.mem_append_right _ (List.mem_append_right _ (List.mem_append_right _ (List.mem_append_right _ (List.mem_append_right _ (List.mem_append_right _ (List.mem_append_right _ (List.mem_append_right _ (List.mem_append_right _ (List.mem_append_right _ (List.mem_append_right _ (List.mem_append_right _ (List.mem_append_right _ (List.mem_append_right _ (List.mem_append_left _ h))))))))))))))))))))))))))))))))
theorem wl_22 : ∀ w ∈ wsL_law0_r22, w ∈ wsL_law := fun w h => List.mem_append_left _ (List.mem_append_left _ (List.mem_append_left _ (List.mem_append_left _ (List.mem_append_left _ (List.mem_append_left _ (List.mem_append_left _ (List.mem_append_left _ (List.mem_append_left _ (List.mem_append_left _ (List.mem_append_left _ (List.mem_append_left _ (List.mem_append_right _ (List.mem_append_right _ (List.mem_append_right _ (List.mem_append_right _ (List.mem_append_right _ (List.mem_append_right _ (List.mem_append_right _ (List.mem_append_right _ (List.mem_append_right _ (List.mem_append_right _ (List.mem_append_right _ (List.mem_append_right _ (List.mem_append_right _ (List.mem_append_right _ (List.mem_append_right _ (List.mem_append_right _ (List.mem_append_right _ (List.mem_append_right _ (List.mem_append_right _ (List.mem_append_right _ (List.mem_append_right _ (List.mem_append_left _ h)))))))))))))))))))))))))))))))))
theorem wl_23 : ∀ w ∈ wsL_law0_r23, w ∈ wsL_law := fun w h => List.mem_append_left _ (List.mem_append_left _ (List.mem_append_left _ (List.mem_append_left _ (List.mem_append_left _ (List.mem_append_left _ (List.mem_append_left _ (List.mem_append_left _ (List.mem_append_left _ (List.mem_append_left _ (List.mem_append_left _ (List.mem_append_left _ (List.mem_append_right _ (List.mem_append_right _ (List.mem_append_right _ (List.mem_append_right _ (List.mem_append_right _ (List.mem_append_right _ (List.mem_append_right _ (List.mem_append_right _ (List.mem_append_right _ (List.mem_append_right _ (List.mem_append_right _ (List.mem_append_right _ (List.mem_append_right _ (List.mem_append_right _ (List.mem_append_right _ (List.mem_append_right _ (List.mem_append_right _ (List.mem_append_right _ (List.mem_append_right _ (List.mem_append_right _ (List.mem_append_right _ (List.mem_append_right _ (List.mem_append_left _ h))))))))))))))))))))))))))))))))))
theorem wl_24 : ∀ w ∈ wsL_law0_r24, w ∈ wsL_law := fun w h => List.mem_append_left _ (List.mem_append_left _ (List.mem_append_left _ (List.mem_append_left _ (List.mem_append_left _ (List.mem_append_left _ (List.mem_append_left _ (List.mem_append_left _ (List.mem_append_left _ (List.mem_append_left _ (List.mem_append_left _ (List.mem_append_left _ (List.mem_append_right _ (List.mem_append_right _ (List.mem_append_right _ (List.mem_append_right _ (List.mem_append_right _ (List.mem_append_right _ (List.mem_append_right _ (List.mem_append_right _ (List.mem_append_right _ (List.mem_append_right _ (List.mem_append_right _ (List.mem_append_right _ (List.mem_append_right _ (List.mem_append_right _ (List.mem_append_right _ (List.mem_append_right _ (List.mem_append_right _ (List.mem_append_right _ (List.mem_append_right _ (List.mem_append_right _ (List.mem_append_right _ (List.mem_append_right _ (List.mem_append_right _ (h)))))))))))))))))))))))))))))))))))
theorem q_0 : Cond.classLink RL 26 RX4 ∈ wsL_law := wl_1 _ (List.mem_of_getElem? (i := 0) rfl)
theorem q_1 : Cond.instantiable RX4 7 ∈ wsL_law := wl_1 _ (List.mem_of_getElem? (i := 1) rfl)
theorem q_2 : Cond.initialized RX4 ∈ wsL_law := wl_1 _ (List.mem_of_getElem? (i := 2) rfl)
theorem q_3 : Cond.methodLink RL 92 Lib.Math.max.name ∈ wsL_law := wl_1 _ (List.mem_of_getElem? (i := 3) rfl)
theorem q_4 : Cond.static Lib.Math.max.name ∈ wsL_law := wl_1 _ (List.mem_of_getElem? (i := 4) rfl)
theorem q_5 : Cond.initialized "java/lang/Math" ∈ wsL_law := wl_1 _ (List.mem_of_getElem? (i := 5) rfl)
theorem q_6 : Cond.code Lib.Math.max.name Lib.Math.max.code 2 (some .int) ∈ wsL_law := wl_1 _ (List.mem_of_getElem? (i := 6) rfl)
theorem q_7 : Cond.methodLink RL 72 yX4_init ∈ wsL_law := wl_1 _ (List.mem_of_getElem? (i := 7) rfl)
theorem q_8 : Cond.instanceMethod yX4_init ∈ wsL_law := wl_1 _ (List.mem_of_getElem? (i := 8) rfl)
theorem q_9 : Cond.code yX4_init cX4_init 1 none ∈ wsL_law := wl_1 _ (List.mem_of_getElem? (i := 9) rfl)
theorem q_10 : Cond.methodLink RX4 3 objectInit ∈ wsL_law := wl_1 _ (List.mem_of_getElem? (i := 10) rfl)
theorem q_11 : Cond.instanceMethod objectInit ∈ wsL_law := wl_1 _ (List.mem_of_getElem? (i := 11) rfl)
theorem q_12 : Cond.code objectInit ⟨#[0xb1]⟩ 1 none ∈ wsL_law := wl_1 _ (List.mem_of_getElem? (i := 12) rfl)
theorem q_13 : Cond.classLink RX4 9 RX1 ∈ wsL_law := wl_1 _ (List.mem_of_getElem? (i := 13) rfl)
theorem q_14 : Cond.instantiable RX1 5 ∈ wsL_law := wl_1 _ (List.mem_of_getElem? (i := 14) rfl)
theorem q_15 : Cond.initialized RX1 ∈ wsL_law := wl_1 _ (List.mem_of_getElem? (i := 15) rfl)
theorem q_16 : Cond.fieldLink RX4 12 "MarketAwnings" "canopy" "LMarketAwnings$Canopy;" ∈ wsL_law := wl_1 _ (List.mem_of_getElem? (i := 16) rfl)
theorem q_17 : Cond.classLink RX4 16 RX2 ∈ wsL_law := wl_1 _ (List.mem_of_getElem? (i := 17) rfl)
theorem q_18 : Cond.instantiable RX2 5 ∈ wsL_law := wl_1 _ (List.mem_of_getElem? (i := 18) rfl)
theorem q_19 : Cond.initialized RX2 ∈ wsL_law := wl_1 _ (List.mem_of_getElem? (i := 19) rfl)
theorem q_20 : Cond.fieldLink RX4 21 "MarketAwnings" "shower" "LMarketAwnings$Shower;" ∈ wsL_law := wl_1 _ (List.mem_of_getElem? (i := 20) rfl)
theorem q_21 : Cond.classLink RX4 25 RJx4a65c ∈ wsL_law := wl_1 _ (List.mem_of_getElem? (i := 21) rfl)
theorem q_22 : Cond.instantiable RJx4a65c 3 ∈ wsL_law := wl_1 _ (List.mem_of_getElem? (i := 22) rfl)
theorem q_23 : Cond.initialized RJx4a65c ∈ wsL_law := wl_1 _ (List.mem_of_getElem? (i := 23) rfl)
theorem q_24 : Cond.fieldLink RX4 28 "MarketAwnings" "stalls" "Ljava/util/ArrayList;" ∈ wsL_law := wl_2 _ (List.mem_of_getElem? (i := 0) rfl)
theorem q_25 : Cond.arrayClass .int ∈ wsL_law := wl_2 _ (List.mem_of_getElem? (i := 1) rfl)
theorem q_26 : Cond.fieldLink RX4 32 "MarketAwnings" "ground" "[I" ∈ wsL_law := wl_2 _ (List.mem_of_getElem? (i := 2) rfl)
theorem q_27 : Cond.fieldLink RX4 36 "MarketAwnings" "hours" "I" ∈ wsL_law := wl_2 _ (List.mem_of_getElem? (i := 3) rfl)
theorem q_28 : Cond.fieldLink RX4 40 "MarketAwnings" "groundDrops" "I" ∈ wsL_law := wl_2 _ (List.mem_of_getElem? (i := 4) rfl)
theorem q_29 : Cond.fieldLink RX4 43 "MarketAwnings" "offDrops" "I" ∈ wsL_law := wl_2 _ (List.mem_of_getElem? (i := 5) rfl)
theorem q_30 : Cond.methodLink RX4 11 yX1_init ∈ wsL_law := wl_2 _ (List.mem_of_getElem? (i := 6) rfl)
theorem q_31 : Cond.instanceMethod yX1_init ∈ wsL_law := wl_2 _ (List.mem_of_getElem? (i := 7) rfl)
theorem q_32 : Cond.code yX1_init cX1_init 1 none ∈ wsL_law := wl_2 _ (List.mem_of_getElem? (i := 8) rfl)
theorem q_33 : Cond.methodLink RX1 3 objectInit ∈ wsL_law := wl_2 _ (List.mem_of_getElem? (i := 9) rfl)
theorem q_34 : Cond.classLink RX1 9 RJx4a65c ∈ wsL_law := wl_2 _ (List.mem_of_getElem? (i := 10) rfl)
theorem q_35 : Cond.fieldLink RX1 12 "MarketAwnings$Canopy" "awnings" "Ljava/util/ArrayList;" ∈ wsL_law := wl_2 _ (List.mem_of_getElem? (i := 11) rfl)
theorem q_36 : Cond.fieldLink RX1 18 "MarketAwnings$Canopy" "layers" "[I" ∈ wsL_law := wl_2 _ (List.mem_of_getElem? (i := 12) rfl)
theorem q_37 : Cond.fieldLink RX1 22 "MarketAwnings$Canopy" "reached" "[I" ∈ wsL_law := wl_2 _ (List.mem_of_getElem? (i := 13) rfl)
theorem q_38 : Cond.fieldLink RX1 25 "MarketAwnings$Canopy" "queue" "[I" ∈ wsL_law := wl_2 _ (List.mem_of_getElem? (i := 14) rfl)
theorem q_39 : Cond.fieldLink RX1 28 "MarketAwnings$Canopy" "queued" "I" ∈ wsL_law := wl_2 _ (List.mem_of_getElem? (i := 15) rfl)
theorem q_40 : Cond.methodLink RX1 11 yJx4a65c_init_da8c8 ∈ wsL_law := wl_2 _ (List.mem_of_getElem? (i := 16) rfl)
theorem q_41 : Cond.instanceMethod yJx4a65c_init_da8c8 ∈ wsL_law := wl_2 _ (List.mem_of_getElem? (i := 17) rfl)
theorem q_42 : Cond.code yJx4a65c_init_da8c8 cJx4a65c_init_da8c8 1 none ∈ wsL_law := wl_2 _ (List.mem_of_getElem? (i := 18) rfl)
theorem q_43 : Cond.fieldLink RJx4a65c 39 "java/util/ArrayList" "DEFAULTCAPACITY_EMPTY_ELEMENTDATA" "[Ljava/lang/Object;" ∈ wsL_law := wl_2 _ (List.mem_of_getElem? (i := 19) rfl)
theorem q_44 : Cond.fieldLink RJx4a65c 9 "java/util/ArrayList" "elementData" "[Ljava/lang/Object;" ∈ wsL_law := wl_2 _ (List.mem_of_getElem? (i := 20) rfl)
theorem q_45 : Cond.methodLink RJx4a65c 1 yJxc12de_init_da8c8 ∈ wsL_law := wl_2 _ (List.mem_of_getElem? (i := 21) rfl)
theorem q_46 : Cond.instanceMethod yJxc12de_init_da8c8 ∈ wsL_law := wl_2 _ (List.mem_of_getElem? (i := 22) rfl)
theorem q_47 : Cond.initialized RJxc12de ∈ wsL_law := wl_2 _ (List.mem_of_getElem? (i := 23) rfl)
theorem q_48 : Cond.code yJxc12de_init_da8c8 cJxc12de_init_da8c8 1 none ∈ wsL_law := wl_3 _ (List.mem_of_getElem? (i := 0) rfl)
theorem q_49 : Cond.fieldLink RJxc12de 7 "java/util/AbstractList" "modCount" "I" ∈ wsL_law := wl_3 _ (List.mem_of_getElem? (i := 1) rfl)
theorem q_50 : Cond.methodLink RJxc12de 1 yJxa1e45_init_da8c8 ∈ wsL_law := wl_3 _ (List.mem_of_getElem? (i := 2) rfl)
theorem q_51 : Cond.instanceMethod yJxa1e45_init_da8c8 ∈ wsL_law := wl_3 _ (List.mem_of_getElem? (i := 3) rfl)
theorem q_52 : Cond.initialized RJxa1e45 ∈ wsL_law := wl_3 _ (List.mem_of_getElem? (i := 4) rfl)
theorem q_53 : Cond.code yJxa1e45_init_da8c8 cJxa1e45_init_da8c8 1 none ∈ wsL_law := wl_3 _ (List.mem_of_getElem? (i := 5) rfl)
theorem q_54 : Cond.methodLink RJxa1e45 1 objectInit ∈ wsL_law := wl_3 _ (List.mem_of_getElem? (i := 6) rfl)
theorem q_55 : Cond.methodLink RX4 18 yX2_init ∈ wsL_law := wl_3 _ (List.mem_of_getElem? (i := 7) rfl)
theorem q_56 : Cond.instanceMethod yX2_init ∈ wsL_law := wl_3 _ (List.mem_of_getElem? (i := 8) rfl)
theorem q_57 : Cond.code yX2_init cX2_init 2 none ∈ wsL_law := wl_3 _ (List.mem_of_getElem? (i := 9) rfl)
theorem q_58 : Cond.methodLink RX2 3 objectInit ∈ wsL_law := wl_3 _ (List.mem_of_getElem? (i := 10) rfl)
theorem q_59 : Cond.fieldLink RX2 9 "MarketAwnings$Shower" "canopy" "LMarketAwnings$Canopy;" ∈ wsL_law := wl_3 _ (List.mem_of_getElem? (i := 11) rfl)
theorem q_60 : Cond.fieldLink RX2 15 "MarketAwnings$Shower" "fallen" "[I" ∈ wsL_law := wl_3 _ (List.mem_of_getElem? (i := 12) rfl)
theorem q_61 : Cond.fieldLink RX2 19 "MarketAwnings$Shower" "caught" "[I" ∈ wsL_law := wl_3 _ (List.mem_of_getElem? (i := 13) rfl)
theorem q_62 : Cond.fieldLink RX2 22 "MarketAwnings$Shower" "onGround" "I" ∈ wsL_law := wl_3 _ (List.mem_of_getElem? (i := 14) rfl)
theorem q_63 : Cond.fieldLink RX2 26 "MarketAwnings$Shower" "ranOff" "I" ∈ wsL_law := wl_3 _ (List.mem_of_getElem? (i := 15) rfl)
theorem q_64 : Cond.methodLink RX4 27 yJx4a65c_init_da8c8 ∈ wsL_law := wl_3 _ (List.mem_of_getElem? (i := 16) rfl)
theorem q_65 : Cond.methodLink RL 73 yL_build ∈ wsL_law := wl_3 _ (List.mem_of_getElem? (i := 17) rfl)
theorem q_66 : Cond.static yL_build ∈ wsL_law := wl_3 _ (List.mem_of_getElem? (i := 18) rfl)
theorem q_67 : Cond.initialized RL ∈ wsL_law := wl_3 _ (List.mem_of_getElem? (i := 19) rfl)
theorem q_68 : Cond.code yL_build cL_build 4 (some (.object "MarketAwningsLaw$Sim")) ∈ wsL_law := wl_3 _ (List.mem_of_getElem? (i := 20) rfl)
theorem q_69 : Cond.classLink RL 10 RX5 ∈ wsL_law := wl_3 _ (List.mem_of_getElem? (i := 21) rfl)
theorem q_70 : Cond.instantiable RX5 5 ∈ wsL_law := wl_3 _ (List.mem_of_getElem? (i := 22) rfl)
theorem q_71 : Cond.initialized RX5 ∈ wsL_law := wl_3 _ (List.mem_of_getElem? (i := 23) rfl)
theorem q_72 : Cond.instanceMethod yX5_init ∈ wsL_law := wl_4 _ (List.mem_of_getElem? (i := 0) rfl)
theorem q_73 : Cond.code yX5_init cX5_init 1 none ∈ wsL_law := wl_4 _ (List.mem_of_getElem? (i := 1) rfl)
theorem q_74 : Cond.methodLink RX5 1 objectInit ∈ wsL_law := wl_4 _ (List.mem_of_getElem? (i := 2) rfl)
theorem q_75 : Cond.classLink RX5 7 "[I" ∈ wsL_law := wl_4 _ (List.mem_of_getElem? (i := 3) rfl)
theorem q_76 : Cond.fieldLink RX5 9 "MarketAwningsLaw$Sim" "awnings" "[[I" ∈ wsL_law := wl_4 _ (List.mem_of_getElem? (i := 4) rfl)
theorem q_77 : Cond.fieldLink RX5 15 "MarketAwningsLaw$Sim" "stalls" "[[I" ∈ wsL_law := wl_4 _ (List.mem_of_getElem? (i := 5) rfl)
theorem q_78 : Cond.classLink RX5 18 "[[I" ∈ wsL_law := wl_4 _ (List.mem_of_getElem? (i := 6) rfl)
theorem q_79 : Cond.fieldLink RX5 19 "MarketAwningsLaw$Sim" "ground" "[[I" ∈ wsL_law := wl_4 _ (List.mem_of_getElem? (i := 7) rfl)
theorem q_80 : Cond.methodLink RL 64 yL_cell ∈ wsL_law := wl_4 _ (List.mem_of_getElem? (i := 8) rfl)
theorem q_81 : Cond.static yL_cell ∈ wsL_law := wl_4 _ (List.mem_of_getElem? (i := 9) rfl)
theorem q_82 : Cond.code yL_cell cL_cell 2 (some .int) ∈ wsL_law := wl_4 _ (List.mem_of_getElem? (i := 10) rfl)
theorem q_83 : Cond.constant RL 8 (790386105) ∈ wsL_law := wl_4 _ (List.mem_of_getElem? (i := 11) rfl)
theorem q_84 : Cond.methodLink RL 68 yL_act ∈ wsL_law := wl_4 _ (List.mem_of_getElem? (i := 12) rfl)
theorem q_85 : Cond.static yL_act ∈ wsL_law := wl_4 _ (List.mem_of_getElem? (i := 13) rfl)
theorem q_86 : Cond.codeWith yL_act cL_act 12 (some .boolean) [(608, 636, 637, 57)] ∈ wsL_law := wl_4 _ (List.mem_of_getElem? (i := 14) rfl)
theorem q_87 : Cond.classLink RL 57 "java/lang/IllegalStateException" ∈ wsL_law := wl_4 _ (List.mem_of_getElem? (i := 15) rfl)
theorem q_88 : Cond.fieldLink RL 9 "MarketAwningsLaw$Sim" "awnings" "[[I" ∈ wsL_law := wl_4 _ (List.mem_of_getElem? (i := 16) rfl)
theorem q_89 : Cond.fieldLink RL 51 "MarketAwningsLaw$Sim" "stalls" "[[I" ∈ wsL_law := wl_4 _ (List.mem_of_getElem? (i := 17) rfl)
theorem q_90 : Cond.methodLink RL 15 yL_below ∈ wsL_law := wl_4 _ (List.mem_of_getElem? (i := 18) rfl)
theorem q_91 : Cond.static yL_below ∈ wsL_law := wl_4 _ (List.mem_of_getElem? (i := 19) rfl)
theorem q_92 : Cond.code yL_below cL_below 2 (some .int) ∈ wsL_law := wl_4 _ (List.mem_of_getElem? (i := 20) rfl)
theorem q_93 : Cond.constant RL 7 (2147483647) ∈ wsL_law := wl_4 _ (List.mem_of_getElem? (i := 21) rfl)
theorem q_94 : Cond.methodLink RL 21 yX5_with ∈ wsL_law := wl_4 _ (List.mem_of_getElem? (i := 22) rfl)
theorem q_95 : Cond.static yX5_with ∈ wsL_law := wl_4 _ (List.mem_of_getElem? (i := 23) rfl)
theorem q_96 : Cond.code yX5_with cX5_with 4 (some (.array (.array .int))) ∈ wsL_law := wl_5 _ (List.mem_of_getElem? (i := 0) rfl)
theorem q_97 : Cond.methodLink RL 25 yX4_hang ∈ wsL_law := wl_5 _ (List.mem_of_getElem? (i := 1) rfl)
theorem q_98 : Cond.instanceMethod yX4_hang ∈ wsL_law := wl_5 _ (List.mem_of_getElem? (i := 2) rfl)
theorem q_99 : Cond.selects RX4 yX4_hang yX4_hang ∈ wsL_law := wl_5 _ (List.mem_of_getElem? (i := 3) rfl)
theorem q_100 : Cond.code yX4_hang cX4_hang 7 (some .int) ∈ wsL_law := wl_5 _ (List.mem_of_getElem? (i := 4) rfl)
theorem q_101 : Cond.classLink RX4 50 "java/lang/IllegalArgumentException" ∈ wsL_law := wl_5 _ (List.mem_of_getElem? (i := 5) rfl)
theorem q_102 : Cond.initialized "java/lang/IllegalArgumentException" ∈ wsL_law := wl_5 _ (List.mem_of_getElem? (i := 6) rfl)
theorem q_103 : Cond.classLink RX4 67 "java/lang/IllegalStateException" ∈ wsL_law := wl_5 _ (List.mem_of_getElem? (i := 7) rfl)
theorem q_104 : Cond.initialized "java/lang/IllegalStateException" ∈ wsL_law := wl_5 _ (List.mem_of_getElem? (i := 8) rfl)
theorem q_105 : Cond.classLink RX4 72 RX0 ∈ wsL_law := wl_5 _ (List.mem_of_getElem? (i := 9) rfl)
theorem q_106 : Cond.instantiable RX0 8 ∈ wsL_law := wl_5 _ (List.mem_of_getElem? (i := 10) rfl)
theorem q_107 : Cond.initialized RX0 ∈ wsL_law := wl_5 _ (List.mem_of_getElem? (i := 11) rfl)
theorem q_108 : Cond.methodLink RX4 46 yX4_requireExtent ∈ wsL_law := wl_5 _ (List.mem_of_getElem? (i := 12) rfl)
theorem q_109 : Cond.static yX4_requireExtent ∈ wsL_law := wl_5 _ (List.mem_of_getElem? (i := 13) rfl)
theorem q_110 : Cond.code yX4_requireExtent cX4_requireExtent 2 none ∈ wsL_law := wl_5 _ (List.mem_of_getElem? (i := 14) rfl)
theorem q_111 : Cond.methodLink RX4 59 yX4_requireRoomInSquare ∈ wsL_law := wl_5 _ (List.mem_of_getElem? (i := 15) rfl)
theorem q_112 : Cond.static yX4_requireRoomInSquare ∈ wsL_law := wl_5 _ (List.mem_of_getElem? (i := 16) rfl)
theorem q_113 : Cond.code yX4_requireRoomInSquare cX4_requireRoomInSquare 4 none ∈ wsL_law := wl_5 _ (List.mem_of_getElem? (i := 17) rfl)
theorem q_114 : Cond.classLink RX4 178 "java/lang/IndexOutOfBoundsException" ∈ wsL_law := wl_5 _ (List.mem_of_getElem? (i := 18) rfl)
theorem q_115 : Cond.initialized "java/lang/IndexOutOfBoundsException" ∈ wsL_law := wl_5 _ (List.mem_of_getElem? (i := 19) rfl)
theorem q_116 : Cond.methodLink RX4 63 yX1_size ∈ wsL_law := wl_5 _ (List.mem_of_getElem? (i := 20) rfl)
theorem q_117 : Cond.instanceMethod yX1_size ∈ wsL_law := wl_5 _ (List.mem_of_getElem? (i := 21) rfl)
theorem q_118 : Cond.selects RX1 yX1_size yX1_size ∈ wsL_law := wl_5 _ (List.mem_of_getElem? (i := 22) rfl)
theorem q_119 : Cond.code yX1_size cX1_size 1 (some .int) ∈ wsL_law := wl_5 _ (List.mem_of_getElem? (i := 23) rfl)
theorem q_120 : Cond.methodLink RX1 32 yJx4a65c_size_8abf5 ∈ wsL_law := wl_6 _ (List.mem_of_getElem? (i := 0) rfl)
theorem q_121 : Cond.instanceMethod yJx4a65c_size_8abf5 ∈ wsL_law := wl_6 _ (List.mem_of_getElem? (i := 1) rfl)
theorem q_122 : Cond.selects RJx4a65c yJx4a65c_size_8abf5 yJx4a65c_size_8abf5 ∈ wsL_law := wl_6 _ (List.mem_of_getElem? (i := 2) rfl)
theorem q_123 : Cond.code yJx4a65c_size_8abf5 cJx4a65c_size_8abf5 1 (some .int) ∈ wsL_law := wl_6 _ (List.mem_of_getElem? (i := 3) rfl)
theorem q_124 : Cond.fieldLink RJx4a65c 48 "java/util/ArrayList" "size" "I" ∈ wsL_law := wl_6 _ (List.mem_of_getElem? (i := 4) rfl)
theorem q_125 : Cond.methodLink RX4 74 yX0_init ∈ wsL_law := wl_6 _ (List.mem_of_getElem? (i := 5) rfl)
theorem q_126 : Cond.instanceMethod yX0_init ∈ wsL_law := wl_6 _ (List.mem_of_getElem? (i := 6) rfl)
theorem q_127 : Cond.code yX0_init cX0_init 7 none ∈ wsL_law := wl_6 _ (List.mem_of_getElem? (i := 7) rfl)
theorem q_128 : Cond.methodLink RX0 3 objectInit ∈ wsL_law := wl_6 _ (List.mem_of_getElem? (i := 8) rfl)
theorem q_129 : Cond.fieldLink RX0 9 "MarketAwnings$Awning" "x" "I" ∈ wsL_law := wl_6 _ (List.mem_of_getElem? (i := 9) rfl)
theorem q_130 : Cond.fieldLink RX0 15 "MarketAwnings$Awning" "y" "I" ∈ wsL_law := wl_6 _ (List.mem_of_getElem? (i := 10) rfl)
theorem q_131 : Cond.fieldLink RX0 18 "MarketAwnings$Awning" "w" "I" ∈ wsL_law := wl_6 _ (List.mem_of_getElem? (i := 11) rfl)
theorem q_132 : Cond.fieldLink RX0 21 "MarketAwnings$Awning" "h" "I" ∈ wsL_law := wl_6 _ (List.mem_of_getElem? (i := 12) rfl)
theorem q_133 : Cond.fieldLink RX0 24 "MarketAwnings$Awning" "level" "I" ∈ wsL_law := wl_6 _ (List.mem_of_getElem? (i := 13) rfl)
theorem q_134 : Cond.fieldLink RX0 27 "MarketAwnings$Awning" "side" "I" ∈ wsL_law := wl_6 _ (List.mem_of_getElem? (i := 14) rfl)
theorem q_135 : Cond.fieldLink RX0 30 "MarketAwnings$Awning" "out" "Z" ∈ wsL_law := wl_6 _ (List.mem_of_getElem? (i := 15) rfl)
theorem q_136 : Cond.fieldLink RX0 34 "MarketAwnings$Awning" "dripped" "I" ∈ wsL_law := wl_6 _ (List.mem_of_getElem? (i := 16) rfl)
theorem q_137 : Cond.methodLink RX4 77 yX1_append ∈ wsL_law := wl_6 _ (List.mem_of_getElem? (i := 17) rfl)
theorem q_138 : Cond.instanceMethod yX1_append ∈ wsL_law := wl_6 _ (List.mem_of_getElem? (i := 18) rfl)
theorem q_139 : Cond.selects RX1 yX1_append yX1_append ∈ wsL_law := wl_6 _ (List.mem_of_getElem? (i := 19) rfl)
theorem q_140 : Cond.code yX1_append cX1_append 2 none ∈ wsL_law := wl_6 _ (List.mem_of_getElem? (i := 20) rfl)
theorem q_141 : Cond.methodLink RX1 53 yJx4a65c_add_9ea2d ∈ wsL_law := wl_6 _ (List.mem_of_getElem? (i := 21) rfl)
theorem q_142 : Cond.instanceMethod yJx4a65c_add_9ea2d ∈ wsL_law := wl_6 _ (List.mem_of_getElem? (i := 22) rfl)
theorem q_143 : Cond.selects RJx4a65c yJx4a65c_add_9ea2d yJx4a65c_add_9ea2d ∈ wsL_law := wl_6 _ (List.mem_of_getElem? (i := 23) rfl)
theorem q_144 : Cond.code yJx4a65c_add_9ea2d cJx4a65c_add_9ea2d 2 (some .boolean) ∈ wsL_law := wl_7 _ (List.mem_of_getElem? (i := 0) rfl)
theorem q_145 : Cond.fieldLink RJx4a65c 63 "java/util/ArrayList" "modCount" "I" ∈ wsL_law := wl_7 _ (List.mem_of_getElem? (i := 1) rfl)
theorem q_146 : Cond.sameField "java/util/ArrayList" "java/util/AbstractList" "modCount" "I" ∈ wsL_law := wl_7 _ (List.mem_of_getElem? (i := 2) rfl)
theorem q_147 : Cond.methodLink RJx4a65c 131 yJx4a65c_add_72be8 ∈ wsL_law := wl_7 _ (List.mem_of_getElem? (i := 3) rfl)
theorem q_148 : Cond.instanceMethod yJx4a65c_add_72be8 ∈ wsL_law := wl_7 _ (List.mem_of_getElem? (i := 4) rfl)
theorem q_149 : Cond.selects RJx4a65c yJx4a65c_add_72be8 yJx4a65c_add_72be8 ∈ wsL_law := wl_7 _ (List.mem_of_getElem? (i := 5) rfl)
theorem q_150 : Cond.code yJx4a65c_add_72be8 cJx4a65c_add_72be8 4 none ∈ wsL_law := wl_7 _ (List.mem_of_getElem? (i := 6) rfl)
theorem q_151 : Cond.methodLink RJx4a65c 129 yJx4a65c_grow_d5877 ∈ wsL_law := wl_7 _ (List.mem_of_getElem? (i := 7) rfl)
theorem q_152 : Cond.instanceMethod yJx4a65c_grow_d5877 ∈ wsL_law := wl_7 _ (List.mem_of_getElem? (i := 8) rfl)
theorem q_153 : Cond.selects RJx4a65c yJx4a65c_grow_d5877 yJx4a65c_grow_d5877 ∈ wsL_law := wl_7 _ (List.mem_of_getElem? (i := 9) rfl)
theorem q_154 : Cond.code yJx4a65c_grow_d5877 cJx4a65c_grow_d5877 1 (some (.array (.object "java/lang/Object"))) ∈ wsL_law := wl_7 _ (List.mem_of_getElem? (i := 10) rfl)
theorem q_155 : Cond.methodLink RJx4a65c 69 yJx4a65c_grow_92f84 ∈ wsL_law := wl_7 _ (List.mem_of_getElem? (i := 11) rfl)
theorem q_156 : Cond.instanceMethod yJx4a65c_grow_92f84 ∈ wsL_law := wl_7 _ (List.mem_of_getElem? (i := 12) rfl)
theorem q_157 : Cond.selects RJx4a65c yJx4a65c_grow_92f84 yJx4a65c_grow_92f84 ∈ wsL_law := wl_7 _ (List.mem_of_getElem? (i := 13) rfl)
theorem q_158 : Cond.code yJx4a65c_grow_92f84 cJx4a65c_grow_92f84 4 (some (.array (.object "java/lang/Object"))) ∈ wsL_law := wl_7 _ (List.mem_of_getElem? (i := 14) rfl)
theorem q_159 : Cond.methodLink RJx4a65c 79 Lib.Math.max.name ∈ wsL_law := wl_7 _ (List.mem_of_getElem? (i := 15) rfl)
theorem q_160 : Cond.classLink RJx4a65c 7 "java/lang/Object" ∈ wsL_law := wl_7 _ (List.mem_of_getElem? (i := 16) rfl)
theorem q_161 : Cond.methodLink RJx4a65c 73 yJ8_newLength_cabcc ∈ wsL_law := wl_7 _ (List.mem_of_getElem? (i := 17) rfl)
theorem q_162 : Cond.static yJ8_newLength_cabcc ∈ wsL_law := wl_7 _ (List.mem_of_getElem? (i := 18) rfl)
theorem q_163 : Cond.initialized RJ8 ∈ wsL_law := wl_7 _ (List.mem_of_getElem? (i := 19) rfl)
theorem q_164 : Cond.code yJ8_newLength_cabcc cJ8_newLength_cabcc 4 (some .int) ∈ wsL_law := wl_7 _ (List.mem_of_getElem? (i := 20) rfl)
theorem q_165 : Cond.methodLink RJ8 194 Lib.Math.max.name ∈ wsL_law := wl_7 _ (List.mem_of_getElem? (i := 21) rfl)
theorem q_166 : Cond.constant RJ8 200 (2147483639) ∈ wsL_law := wl_7 _ (List.mem_of_getElem? (i := 22) rfl)
theorem q_167 : Cond.methodLink RJ8 201 yJ8_hugeLength_7cf53 ∈ wsL_law := wl_7 _ (List.mem_of_getElem? (i := 23) rfl)
theorem q_168 : Cond.static yJ8_hugeLength_7cf53 ∈ wsL_law := wl_8 _ (List.mem_of_getElem? (i := 0) rfl)
theorem q_169 : Cond.code yJ8_hugeLength_7cf53 cJ8_hugeLength_7cf53 3 (some .int) ∈ wsL_law := wl_8 _ (List.mem_of_getElem? (i := 1) rfl)
theorem q_170 : Cond.methodLink RJx4a65c 66 yJ7_copyOf_1904c ∈ wsL_law := wl_8 _ (List.mem_of_getElem? (i := 2) rfl)
theorem q_171 : Cond.static yJ7_copyOf_1904c ∈ wsL_law := wl_8 _ (List.mem_of_getElem? (i := 3) rfl)
theorem q_172 : Cond.initialized RJ7 ∈ wsL_law := wl_8 _ (List.mem_of_getElem? (i := 4) rfl)
theorem q_173 : Cond.code yJ7_copyOf_1904c cJ7_copyOf_1904c 2 (some (.array (.object "java/lang/Object"))) ∈ wsL_law := wl_8 _ (List.mem_of_getElem? (i := 5) rfl)
theorem q_174 : Cond.methodLink RJ7 86 ⟨"java/lang/Object", "getClass", "()Ljava/lang/Class;"⟩ ∈ wsL_law := wl_8 _ (List.mem_of_getElem? (i := 6) rfl)
theorem q_175 : Cond.selects "[Ljava/lang/Object;" ⟨"java/lang/Object", "getClass", "()Ljava/lang/Class;"⟩ ⟨"java/lang/Object", "getClass", "()Ljava/lang/Class;"⟩ ∈ wsL_law := wl_8 _ (List.mem_of_getElem? (i := 7) rfl)
theorem q_176 : Cond.instanceMethod ⟨"java/lang/Object", "getClass", "()Ljava/lang/Class;"⟩ ∈ wsL_law := wl_8 _ (List.mem_of_getElem? (i := 8) rfl)
theorem q_177 : Cond.native ⟨"java/lang/Object", "getClass", "()Ljava/lang/Class;"⟩ ∈ wsL_law := wl_8 _ (List.mem_of_getElem? (i := 9) rfl)
theorem q_178 : Cond.methodLink RJ7 300 yJ7_copyOf_6403c ∈ wsL_law := wl_8 _ (List.mem_of_getElem? (i := 10) rfl)
theorem q_179 : Cond.static yJ7_copyOf_6403c ∈ wsL_law := wl_8 _ (List.mem_of_getElem? (i := 11) rfl)
theorem q_180 : Cond.code yJ7_copyOf_6403c cJ7_copyOf_6403c 4 (some (.array (.object "java/lang/Object"))) ∈ wsL_law := wl_8 _ (List.mem_of_getElem? (i := 12) rfl)
theorem q_181 : Cond.classLink RJ7 110 "[Ljava/lang/Object;" ∈ wsL_law := wl_8 _ (List.mem_of_getElem? (i := 13) rfl)
theorem q_182 : Cond.classLink RJ7 2 "java/lang/Object" ∈ wsL_law := wl_8 _ (List.mem_of_getElem? (i := 14) rfl)
theorem q_183 : Cond.methodLink RJ7 304 Lib.Math.min.name ∈ wsL_law := wl_8 _ (List.mem_of_getElem? (i := 15) rfl)
theorem q_184 : Cond.static Lib.Math.min.name ∈ wsL_law := wl_8 _ (List.mem_of_getElem? (i := 16) rfl)
theorem q_185 : Cond.code Lib.Math.min.name Lib.Math.min.code 2 (some .int) ∈ wsL_law := wl_8 _ (List.mem_of_getElem? (i := 17) rfl)
theorem q_186 : Cond.methodLink RJ7 150 arraycopyName ∈ wsL_law := wl_8 _ (List.mem_of_getElem? (i := 18) rfl)
theorem q_187 : Cond.native arraycopyName ∈ wsL_law := wl_8 _ (List.mem_of_getElem? (i := 19) rfl)
theorem q_188 : Cond.static arraycopyName ∈ wsL_law := wl_8 _ (List.mem_of_getElem? (i := 20) rfl)
theorem q_189 : Cond.initialized "java/lang/System" ∈ wsL_law := wl_8 _ (List.mem_of_getElem? (i := 21) rfl)
theorem q_190 : Cond.methodLink RX1 57 yX1_layOut ∈ wsL_law := wl_8 _ (List.mem_of_getElem? (i := 22) rfl)
theorem q_191 : Cond.instanceMethod yX1_layOut ∈ wsL_law := wl_8 _ (List.mem_of_getElem? (i := 23) rfl)
theorem q_192 : Cond.selects RX1 yX1_layOut yX1_layOut ∈ wsL_law := wl_9 _ (List.mem_of_getElem? (i := 0) rfl)
theorem q_193 : Cond.code yX1_layOut cX1_layOut 2 none ∈ wsL_law := wl_9 _ (List.mem_of_getElem? (i := 1) rfl)
theorem q_194 : Cond.classLink RX1 40 "MarketAwnings$Awning" ∈ wsL_law := wl_9 _ (List.mem_of_getElem? (i := 2) rfl)
theorem q_195 : Cond.fieldLink RX1 42 "MarketAwnings$Awning" "out" "Z" ∈ wsL_law := wl_9 _ (List.mem_of_getElem? (i := 3) rfl)
theorem q_196 : Cond.methodLink RX1 63 yJ7_fill_53178 ∈ wsL_law := wl_9 _ (List.mem_of_getElem? (i := 4) rfl)
theorem q_197 : Cond.static yJ7_fill_53178 ∈ wsL_law := wl_9 _ (List.mem_of_getElem? (i := 5) rfl)
theorem q_198 : Cond.code yJ7_fill_53178 cJ7_fill_53178 4 none ∈ wsL_law := wl_9 _ (List.mem_of_getElem? (i := 6) rfl)
theorem q_199 : Cond.methodLink RX1 36 yJx4a65c_get_915e3 ∈ wsL_law := wl_9 _ (List.mem_of_getElem? (i := 7) rfl)
theorem q_200 : Cond.instanceMethod yJx4a65c_get_915e3 ∈ wsL_law := wl_9 _ (List.mem_of_getElem? (i := 8) rfl)
theorem q_201 : Cond.selects RJx4a65c yJx4a65c_get_915e3 yJx4a65c_get_915e3 ∈ wsL_law := wl_9 _ (List.mem_of_getElem? (i := 9) rfl)
theorem q_202 : Cond.code yJx4a65c_get_915e3 cJx4a65c_get_915e3 2 (some (.object "java/lang/Object")) ∈ wsL_law := wl_9 _ (List.mem_of_getElem? (i := 10) rfl)
theorem q_203 : Cond.methodLink RJx4a65c 118 yJ15_checkIndex_7cf53 ∈ wsL_law := wl_9 _ (List.mem_of_getElem? (i := 11) rfl)
theorem q_204 : Cond.static yJ15_checkIndex_7cf53 ∈ wsL_law := wl_9 _ (List.mem_of_getElem? (i := 12) rfl)
theorem q_205 : Cond.initialized RJ15 ∈ wsL_law := wl_9 _ (List.mem_of_getElem? (i := 13) rfl)
theorem q_206 : Cond.code yJ15_checkIndex_7cf53 cJ15_checkIndex_7cf53 2 (some .int) ∈ wsL_law := wl_9 _ (List.mem_of_getElem? (i := 14) rfl)
theorem q_207 : Cond.methodLink RJ15 105 yJ3_checkIndex_8e157 ∈ wsL_law := wl_9 _ (List.mem_of_getElem? (i := 15) rfl)
theorem q_208 : Cond.static yJ3_checkIndex_8e157 ∈ wsL_law := wl_9 _ (List.mem_of_getElem? (i := 16) rfl)
theorem q_209 : Cond.initialized RJ3 ∈ wsL_law := wl_9 _ (List.mem_of_getElem? (i := 17) rfl)
theorem q_210 : Cond.code yJ3_checkIndex_8e157 cJ3_checkIndex_8e157 3 (some .int) ∈ wsL_law := wl_9 _ (List.mem_of_getElem? (i := 18) rfl)
theorem q_211 : Cond.methodLink RJx4a65c 123 yJx4a65c_elementData_915e3 ∈ wsL_law := wl_9 _ (List.mem_of_getElem? (i := 19) rfl)
theorem q_212 : Cond.instanceMethod yJx4a65c_elementData_915e3 ∈ wsL_law := wl_9 _ (List.mem_of_getElem? (i := 20) rfl)
theorem q_213 : Cond.selects RJx4a65c yJx4a65c_elementData_915e3 yJx4a65c_elementData_915e3 ∈ wsL_law := wl_9 _ (List.mem_of_getElem? (i := 21) rfl)
theorem q_214 : Cond.code yJx4a65c_elementData_915e3 cJx4a65c_elementData_915e3 2 (some (.object "java/lang/Object")) ∈ wsL_law := wl_9 _ (List.mem_of_getElem? (i := 22) rfl)
theorem q_215 : Cond.methodLink RX1 69 yX1_layOver ∈ wsL_law := wl_9 _ (List.mem_of_getElem? (i := 23) rfl)
theorem q_216 : Cond.instanceMethod yX1_layOver ∈ wsL_law := wl_10 _ (List.mem_of_getElem? (i := 0) rfl)
theorem q_217 : Cond.selects RX1 yX1_layOver yX1_layOver ∈ wsL_law := wl_10 _ (List.mem_of_getElem? (i := 1) rfl)
theorem q_218 : Cond.code yX1_layOver cX1_layOver 4 none ∈ wsL_law := wl_10 _ (List.mem_of_getElem? (i := 2) rfl)
theorem q_219 : Cond.fieldLink RX1 73 "MarketAwnings$Awning" "y" "I" ∈ wsL_law := wl_10 _ (List.mem_of_getElem? (i := 3) rfl)
theorem q_220 : Cond.fieldLink RX1 76 "MarketAwnings$Awning" "h" "I" ∈ wsL_law := wl_10 _ (List.mem_of_getElem? (i := 4) rfl)
theorem q_221 : Cond.fieldLink RX1 79 "MarketAwnings$Awning" "x" "I" ∈ wsL_law := wl_10 _ (List.mem_of_getElem? (i := 5) rfl)
theorem q_222 : Cond.fieldLink RX1 82 "MarketAwnings$Awning" "w" "I" ∈ wsL_law := wl_10 _ (List.mem_of_getElem? (i := 6) rfl)
theorem q_223 : Cond.static yX4_isCell ∈ wsL_law := wl_10 _ (List.mem_of_getElem? (i := 7) rfl)
theorem q_224 : Cond.code yX4_isCell cX4_isCell 2 (some .boolean) ∈ wsL_law := wl_10 _ (List.mem_of_getElem? (i := 8) rfl)
theorem q_225 : Cond.methodLink RL 31 yX4_roll ∈ wsL_law := wl_10 _ (List.mem_of_getElem? (i := 9) rfl)
theorem q_226 : Cond.instanceMethod yX4_roll ∈ wsL_law := wl_10 _ (List.mem_of_getElem? (i := 10) rfl)
theorem q_227 : Cond.selects RX4 yX4_roll yX4_roll ∈ wsL_law := wl_10 _ (List.mem_of_getElem? (i := 11) rfl)
theorem q_228 : Cond.code yX4_roll cX4_roll 3 (some .boolean) ∈ wsL_law := wl_10 _ (List.mem_of_getElem? (i := 12) rfl)
theorem q_229 : Cond.fieldLink RX4 85 "MarketAwnings$Awning" "out" "Z" ∈ wsL_law := wl_10 _ (List.mem_of_getElem? (i := 13) rfl)
theorem q_230 : Cond.methodLink RX4 81 yX1_numbered ∈ wsL_law := wl_10 _ (List.mem_of_getElem? (i := 14) rfl)
theorem q_231 : Cond.instanceMethod yX1_numbered ∈ wsL_law := wl_10 _ (List.mem_of_getElem? (i := 15) rfl)
theorem q_232 : Cond.selects RX1 yX1_numbered yX1_numbered ∈ wsL_law := wl_10 _ (List.mem_of_getElem? (i := 16) rfl)
theorem q_233 : Cond.code yX1_numbered cX1_numbered 2 (some (.object "MarketAwnings$Awning")) ∈ wsL_law := wl_10 _ (List.mem_of_getElem? (i := 17) rfl)
theorem q_234 : Cond.classLink RX1 46 "java/lang/IndexOutOfBoundsException" ∈ wsL_law := wl_10 _ (List.mem_of_getElem? (i := 18) rfl)
theorem q_235 : Cond.methodLink RX4 89 yX1_layOut ∈ wsL_law := wl_10 _ (List.mem_of_getElem? (i := 19) rfl)
theorem q_236 : Cond.methodLink RL 35 yX4_move ∈ wsL_law := wl_10 _ (List.mem_of_getElem? (i := 20) rfl)
theorem q_237 : Cond.instanceMethod yX4_move ∈ wsL_law := wl_10 _ (List.mem_of_getElem? (i := 21) rfl)
theorem q_238 : Cond.selects RX4 yX4_move yX4_move ∈ wsL_law := wl_10 _ (List.mem_of_getElem? (i := 22) rfl)
theorem q_239 : Cond.code yX4_move cX4_move 5 (some .int) ∈ wsL_law := wl_10 _ (List.mem_of_getElem? (i := 23) rfl)
theorem q_240 : Cond.fieldLink RX4 92 "MarketAwnings$Awning" "w" "I" ∈ wsL_law := wl_11 _ (List.mem_of_getElem? (i := 0) rfl)
theorem q_241 : Cond.fieldLink RX4 95 "MarketAwnings$Awning" "h" "I" ∈ wsL_law := wl_11 _ (List.mem_of_getElem? (i := 1) rfl)
theorem q_242 : Cond.fieldLink RX4 98 "MarketAwnings$Awning" "x" "I" ∈ wsL_law := wl_11 _ (List.mem_of_getElem? (i := 2) rfl)
theorem q_243 : Cond.fieldLink RX4 101 "MarketAwnings$Awning" "y" "I" ∈ wsL_law := wl_11 _ (List.mem_of_getElem? (i := 3) rfl)
theorem q_244 : Cond.methodLink RX4 104 yX1_covered ∈ wsL_law := wl_11 _ (List.mem_of_getElem? (i := 4) rfl)
theorem q_245 : Cond.instanceMethod yX1_covered ∈ wsL_law := wl_11 _ (List.mem_of_getElem? (i := 5) rfl)
theorem q_246 : Cond.selects RX1 yX1_covered yX1_covered ∈ wsL_law := wl_11 _ (List.mem_of_getElem? (i := 6) rfl)
theorem q_247 : Cond.code yX1_covered cX1_covered 1 (some .int) ∈ wsL_law := wl_11 _ (List.mem_of_getElem? (i := 7) rfl)
theorem q_248 : Cond.methodLink RX1 95 yX1_cellsWithLayers ∈ wsL_law := wl_11 _ (List.mem_of_getElem? (i := 8) rfl)
theorem q_249 : Cond.instanceMethod yX1_cellsWithLayers ∈ wsL_law := wl_11 _ (List.mem_of_getElem? (i := 9) rfl)
theorem q_250 : Cond.selects RX1 yX1_cellsWithLayers yX1_cellsWithLayers ∈ wsL_law := wl_11 _ (List.mem_of_getElem? (i := 10) rfl)
theorem q_251 : Cond.code yX1_cellsWithLayers cX1_cellsWithLayers 4 (some .int) ∈ wsL_law := wl_11 _ (List.mem_of_getElem? (i := 11) rfl)
theorem q_252 : Cond.methodLink RL 39 yX5_covered ∈ wsL_law := wl_11 _ (List.mem_of_getElem? (i := 12) rfl)
theorem q_253 : Cond.instanceMethod yX5_covered ∈ wsL_law := wl_11 _ (List.mem_of_getElem? (i := 13) rfl)
theorem q_254 : Cond.selects RX5 yX5_covered yX5_covered ∈ wsL_law := wl_11 _ (List.mem_of_getElem? (i := 14) rfl)
theorem q_255 : Cond.code yX5_covered cX5_covered 4 (some .int) ∈ wsL_law := wl_11 _ (List.mem_of_getElem? (i := 15) rfl)
theorem q_256 : Cond.methodLink RX5 45 yX5_isCovered ∈ wsL_law := wl_11 _ (List.mem_of_getElem? (i := 16) rfl)
theorem q_257 : Cond.instanceMethod yX5_isCovered ∈ wsL_law := wl_11 _ (List.mem_of_getElem? (i := 17) rfl)
theorem q_258 : Cond.selects RX5 yX5_isCovered yX5_isCovered ∈ wsL_law := wl_11 _ (List.mem_of_getElem? (i := 18) rfl)
theorem q_259 : Cond.code yX5_isCovered cX5_isCovered 3 (some .boolean) ∈ wsL_law := wl_11 _ (List.mem_of_getElem? (i := 19) rfl)
theorem q_260 : Cond.methodLink RX5 26 yX5_lying ∈ wsL_law := wl_11 _ (List.mem_of_getElem? (i := 20) rfl)
theorem q_261 : Cond.instanceMethod yX5_lying ∈ wsL_law := wl_11 _ (List.mem_of_getElem? (i := 21) rfl)
theorem q_262 : Cond.selects RX5 yX5_lying yX5_lying ∈ wsL_law := wl_11 _ (List.mem_of_getElem? (i := 22) rfl)
theorem q_263 : Cond.code yX5_lying cX5_lying 5 (some .int) ∈ wsL_law := wl_11 _ (List.mem_of_getElem? (i := 23) rfl)
theorem q_264 : Cond.methodLink RX5 22 yX5_lies ∈ wsL_law := wl_12 _ (List.mem_of_getElem? (i := 0) rfl)
theorem q_265 : Cond.instanceMethod yX5_lies ∈ wsL_law := wl_12 _ (List.mem_of_getElem? (i := 1) rfl)
theorem q_266 : Cond.selects RX5 yX5_lies yX5_lies ∈ wsL_law := wl_12 _ (List.mem_of_getElem? (i := 2) rfl)
theorem q_267 : Cond.code yX5_lies cX5_lies 5 (some .boolean) ∈ wsL_law := wl_12 _ (List.mem_of_getElem? (i := 3) rfl)
theorem q_268 : Cond.methodLink RL 43 yX5_without ∈ wsL_law := wl_12 _ (List.mem_of_getElem? (i := 4) rfl)
theorem q_269 : Cond.static yX5_without ∈ wsL_law := wl_12 _ (List.mem_of_getElem? (i := 5) rfl)
theorem q_270 : Cond.code yX5_without cX5_without 4 (some (.array (.array .int))) ∈ wsL_law := wl_12 _ (List.mem_of_getElem? (i := 6) rfl)
theorem q_271 : Cond.methodLink RL 47 yX4_take ∈ wsL_law := wl_12 _ (List.mem_of_getElem? (i := 7) rfl)
theorem q_272 : Cond.instanceMethod yX4_take ∈ wsL_law := wl_12 _ (List.mem_of_getElem? (i := 8) rfl)
theorem q_273 : Cond.selects RX4 yX4_take yX4_take ∈ wsL_law := wl_12 _ (List.mem_of_getElem? (i := 9) rfl)
theorem q_274 : Cond.code yX4_take cX4_take 2 (some .int) ∈ wsL_law := wl_12 _ (List.mem_of_getElem? (i := 10) rfl)
theorem q_275 : Cond.methodLink RX4 107 yX1_drop ∈ wsL_law := wl_12 _ (List.mem_of_getElem? (i := 11) rfl)
theorem q_276 : Cond.instanceMethod yX1_drop ∈ wsL_law := wl_12 _ (List.mem_of_getElem? (i := 12) rfl)
theorem q_277 : Cond.selects RX1 yX1_drop yX1_drop ∈ wsL_law := wl_12 _ (List.mem_of_getElem? (i := 13) rfl)
theorem q_278 : Cond.code yX1_drop cX1_drop 2 none ∈ wsL_law := wl_12 _ (List.mem_of_getElem? (i := 14) rfl)
theorem q_279 : Cond.methodLink RX1 60 yJx4a65c_remove_915e3 ∈ wsL_law := wl_12 _ (List.mem_of_getElem? (i := 15) rfl)
theorem q_280 : Cond.instanceMethod yJx4a65c_remove_915e3 ∈ wsL_law := wl_12 _ (List.mem_of_getElem? (i := 16) rfl)
theorem q_281 : Cond.selects RJx4a65c yJx4a65c_remove_915e3 yJx4a65c_remove_915e3 ∈ wsL_law := wl_12 _ (List.mem_of_getElem? (i := 17) rfl)
theorem q_282 : Cond.code yJx4a65c_remove_915e3 cJx4a65c_remove_915e3 4 (some (.object "java/lang/Object")) ∈ wsL_law := wl_12 _ (List.mem_of_getElem? (i := 18) rfl)
theorem q_283 : Cond.methodLink RJx4a65c 144 yJx4a65c_fastRemove_b59b0 ∈ wsL_law := wl_12 _ (List.mem_of_getElem? (i := 19) rfl)
theorem q_284 : Cond.instanceMethod yJx4a65c_fastRemove_b59b0 ∈ wsL_law := wl_12 _ (List.mem_of_getElem? (i := 20) rfl)
theorem q_285 : Cond.selects RJx4a65c yJx4a65c_fastRemove_b59b0 yJx4a65c_fastRemove_b59b0 ∈ wsL_law := wl_12 _ (List.mem_of_getElem? (i := 21) rfl)
theorem q_286 : Cond.code yJx4a65c_fastRemove_b59b0 cJx4a65c_fastRemove_b59b0 4 none ∈ wsL_law := wl_12 _ (List.mem_of_getElem? (i := 22) rfl)
theorem q_287 : Cond.methodLink RJx4a65c 112 arraycopyName ∈ wsL_law := wl_12 _ (List.mem_of_getElem? (i := 23) rfl)
theorem q_288 : Cond.methodLink RL 54 yX4_stall ∈ wsL_law := wl_13 _ (List.mem_of_getElem? (i := 0) rfl)
theorem q_289 : Cond.instanceMethod yX4_stall ∈ wsL_law := wl_13 _ (List.mem_of_getElem? (i := 1) rfl)
theorem q_290 : Cond.selects RX4 yX4_stall yX4_stall ∈ wsL_law := wl_13 _ (List.mem_of_getElem? (i := 2) rfl)
theorem q_291 : Cond.code yX4_stall cX4_stall 3 (some .int) ∈ wsL_law := wl_13 _ (List.mem_of_getElem? (i := 3) rfl)
theorem q_292 : Cond.classLink RX4 123 RX3 ∈ wsL_law := wl_13 _ (List.mem_of_getElem? (i := 4) rfl)
theorem q_293 : Cond.instantiable RX3 3 ∈ wsL_law := wl_13 _ (List.mem_of_getElem? (i := 5) rfl)
theorem q_294 : Cond.initialized RX3 ∈ wsL_law := wl_13 _ (List.mem_of_getElem? (i := 6) rfl)
theorem q_295 : Cond.methodLink RX4 111 yX4_requireCell ∈ wsL_law := wl_13 _ (List.mem_of_getElem? (i := 7) rfl)
theorem q_296 : Cond.static yX4_requireCell ∈ wsL_law := wl_13 _ (List.mem_of_getElem? (i := 8) rfl)
theorem q_297 : Cond.code yX4_requireCell cX4_requireCell 2 none ∈ wsL_law := wl_13 _ (List.mem_of_getElem? (i := 9) rfl)
theorem q_298 : Cond.methodLink RX4 264 yX4_isCell ∈ wsL_law := wl_13 _ (List.mem_of_getElem? (i := 10) rfl)
theorem q_299 : Cond.methodLink RX4 114 yJx4a65c_size_8abf5 ∈ wsL_law := wl_13 _ (List.mem_of_getElem? (i := 11) rfl)
theorem q_300 : Cond.methodLink RX4 117 yX4_hasStallAt ∈ wsL_law := wl_13 _ (List.mem_of_getElem? (i := 12) rfl)
theorem q_301 : Cond.instanceMethod yX4_hasStallAt ∈ wsL_law := wl_13 _ (List.mem_of_getElem? (i := 13) rfl)
theorem q_302 : Cond.selects RX4 yX4_hasStallAt yX4_hasStallAt ∈ wsL_law := wl_13 _ (List.mem_of_getElem? (i := 14) rfl)
theorem q_303 : Cond.code yX4_hasStallAt cX4_hasStallAt 5 (some .boolean) ∈ wsL_law := wl_13 _ (List.mem_of_getElem? (i := 15) rfl)
theorem q_304 : Cond.classLink RX4 123 "MarketAwnings$Stall" ∈ wsL_law := wl_13 _ (List.mem_of_getElem? (i := 16) rfl)
theorem q_305 : Cond.fieldLink RX4 199 "MarketAwnings$Stall" "x" "I" ∈ wsL_law := wl_13 _ (List.mem_of_getElem? (i := 17) rfl)
theorem q_306 : Cond.fieldLink RX4 200 "MarketAwnings$Stall" "y" "I" ∈ wsL_law := wl_13 _ (List.mem_of_getElem? (i := 18) rfl)
theorem q_307 : Cond.methodLink RX4 257 yJx4a65c_get_915e3 ∈ wsL_law := wl_13 _ (List.mem_of_getElem? (i := 19) rfl)
theorem q_308 : Cond.methodLink RX4 125 yX4_groundAt ∈ wsL_law := wl_13 _ (List.mem_of_getElem? (i := 20) rfl)
theorem q_309 : Cond.instanceMethod yX4_groundAt ∈ wsL_law := wl_13 _ (List.mem_of_getElem? (i := 21) rfl)
theorem q_310 : Cond.selects RX4 yX4_groundAt yX4_groundAt ∈ wsL_law := wl_13 _ (List.mem_of_getElem? (i := 22) rfl)
theorem q_311 : Cond.code yX4_groundAt cX4_groundAt 3 (some .int) ∈ wsL_law := wl_13 _ (List.mem_of_getElem? (i := 23) rfl)
theorem q_312 : Cond.methodLink RX4 129 yX3_init ∈ wsL_law := wl_14 _ (List.mem_of_getElem? (i := 0) rfl)
theorem q_313 : Cond.instanceMethod yX3_init ∈ wsL_law := wl_14 _ (List.mem_of_getElem? (i := 1) rfl)
theorem q_314 : Cond.code yX3_init cX3_init 4 none ∈ wsL_law := wl_14 _ (List.mem_of_getElem? (i := 2) rfl)
theorem q_315 : Cond.methodLink RX3 1 objectInit ∈ wsL_law := wl_14 _ (List.mem_of_getElem? (i := 3) rfl)
theorem q_316 : Cond.fieldLink RX3 7 "MarketAwnings$Stall" "x" "I" ∈ wsL_law := wl_14 _ (List.mem_of_getElem? (i := 4) rfl)
theorem q_317 : Cond.fieldLink RX3 13 "MarketAwnings$Stall" "y" "I" ∈ wsL_law := wl_14 _ (List.mem_of_getElem? (i := 5) rfl)
theorem q_318 : Cond.fieldLink RX3 16 "MarketAwnings$Stall" "groundBefore" "I" ∈ wsL_law := wl_14 _ (List.mem_of_getElem? (i := 6) rfl)
theorem q_319 : Cond.methodLink RX4 132 yJx4a65c_add_9ea2d ∈ wsL_law := wl_14 _ (List.mem_of_getElem? (i := 7) rfl)
theorem q_320 : Cond.methodLink RL 59 yX4_rain ∈ wsL_law := wl_14 _ (List.mem_of_getElem? (i := 8) rfl)
theorem q_321 : Cond.instanceMethod yX4_rain ∈ wsL_law := wl_14 _ (List.mem_of_getElem? (i := 9) rfl)
theorem q_322 : Cond.selects RX4 yX4_rain yX4_rain ∈ wsL_law := wl_14 _ (List.mem_of_getElem? (i := 10) rfl)
theorem q_323 : Cond.code yX4_rain cX4_rain 4 (some .int) ∈ wsL_law := wl_14 _ (List.mem_of_getElem? (i := 11) rfl)
theorem q_324 : Cond.fieldLink RX4 145 "MarketAwnings$Awning" "dripped" "I" ∈ wsL_law := wl_14 _ (List.mem_of_getElem? (i := 12) rfl)
theorem q_325 : Cond.fieldLink RX4 152 "MarketAwnings$Shower" "onGround" "I" ∈ wsL_law := wl_14 _ (List.mem_of_getElem? (i := 13) rfl)
theorem q_326 : Cond.fieldLink RX4 155 "MarketAwnings$Shower" "ranOff" "I" ∈ wsL_law := wl_14 _ (List.mem_of_getElem? (i := 14) rfl)
theorem q_327 : Cond.methodLink RX4 136 yX4_requireDrops ∈ wsL_law := wl_14 _ (List.mem_of_getElem? (i := 15) rfl)
theorem q_328 : Cond.static yX4_requireDrops ∈ wsL_law := wl_14 _ (List.mem_of_getElem? (i := 16) rfl)
theorem q_329 : Cond.code yX4_requireDrops cX4_requireDrops 1 none ∈ wsL_law := wl_14 _ (List.mem_of_getElem? (i := 17) rfl)
theorem q_330 : Cond.methodLink RX4 139 yX2_pour ∈ wsL_law := wl_14 _ (List.mem_of_getElem? (i := 18) rfl)
theorem q_331 : Cond.instanceMethod yX2_pour ∈ wsL_law := wl_14 _ (List.mem_of_getElem? (i := 19) rfl)
theorem q_332 : Cond.selects RX2 yX2_pour yX2_pour ∈ wsL_law := wl_14 _ (List.mem_of_getElem? (i := 20) rfl)
theorem q_333 : Cond.code yX2_pour cX2_pour 4 none ∈ wsL_law := wl_14 _ (List.mem_of_getElem? (i := 21) rfl)
theorem q_334 : Cond.methodLink RX2 29 yX2_dry ∈ wsL_law := wl_14 _ (List.mem_of_getElem? (i := 22) rfl)
theorem q_335 : Cond.instanceMethod yX2_dry ∈ wsL_law := wl_14 _ (List.mem_of_getElem? (i := 23) rfl)
theorem q_336 : Cond.selects RX2 yX2_dry yX2_dry ∈ wsL_law := wl_15 _ (List.mem_of_getElem? (i := 0) rfl)
theorem q_337 : Cond.code yX2_dry cX2_dry 1 none ∈ wsL_law := wl_15 _ (List.mem_of_getElem? (i := 1) rfl)
theorem q_338 : Cond.methodLink RX2 44 yJ7_fill_53178 ∈ wsL_law := wl_15 _ (List.mem_of_getElem? (i := 2) rfl)
theorem q_339 : Cond.methodLink RX2 32 yX2_land ∈ wsL_law := wl_15 _ (List.mem_of_getElem? (i := 3) rfl)
theorem q_340 : Cond.instanceMethod yX2_land ∈ wsL_law := wl_15 _ (List.mem_of_getElem? (i := 4) rfl)
theorem q_341 : Cond.selects RX2 yX2_land yX2_land ∈ wsL_law := wl_15 _ (List.mem_of_getElem? (i := 5) rfl)
theorem q_342 : Cond.code yX2_land cX2_land 6 none ∈ wsL_law := wl_15 _ (List.mem_of_getElem? (i := 6) rfl)
theorem q_343 : Cond.methodLink RX2 86 yX1_highestBelow ∈ wsL_law := wl_15 _ (List.mem_of_getElem? (i := 7) rfl)
theorem q_344 : Cond.instanceMethod yX1_highestBelow ∈ wsL_law := wl_15 _ (List.mem_of_getElem? (i := 8) rfl)
theorem q_345 : Cond.selects RX1 yX1_highestBelow yX1_highestBelow ∈ wsL_law := wl_15 _ (List.mem_of_getElem? (i := 9) rfl)
theorem q_346 : Cond.code yX1_highestBelow cX1_highestBelow 8 (some .int) ∈ wsL_law := wl_15 _ (List.mem_of_getElem? (i := 10) rfl)
theorem q_347 : Cond.fieldLink RX1 89 "MarketAwnings$Awning" "level" "I" ∈ wsL_law := wl_15 _ (List.mem_of_getElem? (i := 11) rfl)
theorem q_348 : Cond.methodLink RX1 92 yX0_covers ∈ wsL_law := wl_15 _ (List.mem_of_getElem? (i := 12) rfl)
theorem q_349 : Cond.instanceMethod yX0_covers ∈ wsL_law := wl_15 _ (List.mem_of_getElem? (i := 13) rfl)
theorem q_350 : Cond.selects RX0 yX0_covers yX0_covers ∈ wsL_law := wl_15 _ (List.mem_of_getElem? (i := 14) rfl)
theorem q_351 : Cond.code yX0_covers cX0_covers 3 (some .boolean) ∈ wsL_law := wl_15 _ (List.mem_of_getElem? (i := 15) rfl)
theorem q_352 : Cond.methodLink RX2 36 yX2_dripFromLevel ∈ wsL_law := wl_15 _ (List.mem_of_getElem? (i := 16) rfl)
theorem q_353 : Cond.instanceMethod yX2_dripFromLevel ∈ wsL_law := wl_15 _ (List.mem_of_getElem? (i := 17) rfl)
theorem q_354 : Cond.selects RX2 yX2_dripFromLevel yX2_dripFromLevel ∈ wsL_law := wl_15 _ (List.mem_of_getElem? (i := 18) rfl)
theorem q_355 : Cond.code yX2_dripFromLevel cX2_dripFromLevel 4 none ∈ wsL_law := wl_15 _ (List.mem_of_getElem? (i := 19) rfl)
theorem q_356 : Cond.fieldLink RX2 60 "MarketAwnings$Awning" "out" "Z" ∈ wsL_law := wl_15 _ (List.mem_of_getElem? (i := 20) rfl)
theorem q_357 : Cond.fieldLink RX2 66 "MarketAwnings$Awning" "level" "I" ∈ wsL_law := wl_15 _ (List.mem_of_getElem? (i := 21) rfl)
theorem q_358 : Cond.methodLink RX2 50 yX1_size ∈ wsL_law := wl_15 _ (List.mem_of_getElem? (i := 22) rfl)
theorem q_359 : Cond.methodLink RX2 56 yX1_numbered ∈ wsL_law := wl_15 _ (List.mem_of_getElem? (i := 23) rfl)
theorem q_360 : Cond.methodLink RX2 69 yX2_caughtBy ∈ wsL_law := wl_16 _ (List.mem_of_getElem? (i := 0) rfl)
theorem q_361 : Cond.instanceMethod yX2_caughtBy ∈ wsL_law := wl_16 _ (List.mem_of_getElem? (i := 1) rfl)
theorem q_362 : Cond.selects RX2 yX2_caughtBy yX2_caughtBy ∈ wsL_law := wl_16 _ (List.mem_of_getElem? (i := 2) rfl)
theorem q_363 : Cond.code yX2_caughtBy cX2_caughtBy 2 (some .int) ∈ wsL_law := wl_16 _ (List.mem_of_getElem? (i := 3) rfl)
theorem q_364 : Cond.methodLink RX2 73 yX2_drip ∈ wsL_law := wl_16 _ (List.mem_of_getElem? (i := 4) rfl)
theorem q_365 : Cond.instanceMethod yX2_drip ∈ wsL_law := wl_16 _ (List.mem_of_getElem? (i := 5) rfl)
theorem q_366 : Cond.selects RX2 yX2_drip yX2_drip ∈ wsL_law := wl_16 _ (List.mem_of_getElem? (i := 6) rfl)
theorem q_367 : Cond.code yX2_drip cX2_drip 8 none ∈ wsL_law := wl_16 _ (List.mem_of_getElem? (i := 7) rfl)
theorem q_368 : Cond.methodLink RX2 77 yX0_cellsBeyond ∈ wsL_law := wl_16 _ (List.mem_of_getElem? (i := 8) rfl)
theorem q_369 : Cond.instanceMethod yX0_cellsBeyond ∈ wsL_law := wl_16 _ (List.mem_of_getElem? (i := 9) rfl)
theorem q_370 : Cond.selects RX0 yX0_cellsBeyond yX0_cellsBeyond ∈ wsL_law := wl_16 _ (List.mem_of_getElem? (i := 10) rfl)
theorem q_371 : Cond.code yX0_cellsBeyond cX0_cellsBeyond 1 (some .int) ∈ wsL_law := wl_16 _ (List.mem_of_getElem? (i := 11) rfl)
theorem q_372 : Cond.methodLink RX0 37 yX0_dripsAlongRows ∈ wsL_law := wl_16 _ (List.mem_of_getElem? (i := 12) rfl)
theorem q_373 : Cond.instanceMethod yX0_dripsAlongRows ∈ wsL_law := wl_16 _ (List.mem_of_getElem? (i := 13) rfl)
theorem q_374 : Cond.selects RX0 yX0_dripsAlongRows yX0_dripsAlongRows ∈ wsL_law := wl_16 _ (List.mem_of_getElem? (i := 14) rfl)
theorem q_375 : Cond.code yX0_dripsAlongRows cX0_dripsAlongRows 1 (some .boolean) ∈ wsL_law := wl_16 _ (List.mem_of_getElem? (i := 15) rfl)
theorem q_376 : Cond.methodLink RX2 80 yX0_columnBeyond ∈ wsL_law := wl_16 _ (List.mem_of_getElem? (i := 16) rfl)
theorem q_377 : Cond.instanceMethod yX0_columnBeyond ∈ wsL_law := wl_16 _ (List.mem_of_getElem? (i := 17) rfl)
theorem q_378 : Cond.selects RX0 yX0_columnBeyond yX0_columnBeyond ∈ wsL_law := wl_16 _ (List.mem_of_getElem? (i := 18) rfl)
theorem q_379 : Cond.code yX0_columnBeyond cX0_columnBeyond 2 (some .int) ∈ wsL_law := wl_16 _ (List.mem_of_getElem? (i := 19) rfl)
theorem q_380 : Cond.methodLink RX2 83 yX0_rowBeyond ∈ wsL_law := wl_16 _ (List.mem_of_getElem? (i := 20) rfl)
theorem q_381 : Cond.instanceMethod yX0_rowBeyond ∈ wsL_law := wl_16 _ (List.mem_of_getElem? (i := 21) rfl)
theorem q_382 : Cond.selects RX0 yX0_rowBeyond yX0_rowBeyond ∈ wsL_law := wl_16 _ (List.mem_of_getElem? (i := 22) rfl)
theorem q_383 : Cond.code yX0_rowBeyond cX0_rowBeyond 2 (some .int) ∈ wsL_law := wl_16 _ (List.mem_of_getElem? (i := 23) rfl)
theorem q_384 : Cond.methodLink RX4 142 yX2_fallenAt ∈ wsL_law := wl_17 _ (List.mem_of_getElem? (i := 0) rfl)
theorem q_385 : Cond.instanceMethod yX2_fallenAt ∈ wsL_law := wl_17 _ (List.mem_of_getElem? (i := 1) rfl)
theorem q_386 : Cond.selects RX2 yX2_fallenAt yX2_fallenAt ∈ wsL_law := wl_17 _ (List.mem_of_getElem? (i := 2) rfl)
theorem q_387 : Cond.code yX2_fallenAt cX2_fallenAt 3 (some .int) ∈ wsL_law := wl_17 _ (List.mem_of_getElem? (i := 3) rfl)
theorem q_388 : Cond.methodLink RX4 148 yX2_caughtBy ∈ wsL_law := wl_17 _ (List.mem_of_getElem? (i := 4) rfl)
theorem q_389 : Cond.methodLink RL 62 yX5_rain ∈ wsL_law := wl_17 _ (List.mem_of_getElem? (i := 5) rfl)
theorem q_390 : Cond.instanceMethod yX5_rain ∈ wsL_law := wl_17 _ (List.mem_of_getElem? (i := 6) rfl)
theorem q_391 : Cond.selects RX5 yX5_rain yX5_rain ∈ wsL_law := wl_17 _ (List.mem_of_getElem? (i := 7) rfl)
theorem q_392 : Cond.code yX5_rain cX5_rain 8 (some .int) ∈ wsL_law := wl_17 _ (List.mem_of_getElem? (i := 8) rfl)
theorem q_393 : Cond.fieldLink RX5 38 "MarketAwningsLaw$Sim" "off" "I" ∈ wsL_law := wl_17 _ (List.mem_of_getElem? (i := 9) rfl)
theorem q_394 : Cond.fieldLink RX5 42 "MarketAwningsLaw$Sim" "hours" "I" ∈ wsL_law := wl_17 _ (List.mem_of_getElem? (i := 10) rfl)
theorem q_395 : Cond.methodLink RX5 34 yX5_hour ∈ wsL_law := wl_17 _ (List.mem_of_getElem? (i := 11) rfl)
theorem q_396 : Cond.instanceMethod yX5_hour ∈ wsL_law := wl_17 _ (List.mem_of_getElem? (i := 12) rfl)
theorem q_397 : Cond.selects RX5 yX5_hour yX5_hour ∈ wsL_law := wl_17 _ (List.mem_of_getElem? (i := 13) rfl)
theorem q_398 : Cond.code yX5_hour cX5_hour 14 (some (.array (.array .int))) ∈ wsL_law := wl_17 _ (List.mem_of_getElem? (i := 14) rfl)
theorem q_399 : Cond.methodLink RX5 30 yX5_highest ∈ wsL_law := wl_17 _ (List.mem_of_getElem? (i := 15) rfl)
theorem q_400 : Cond.instanceMethod yX5_highest ∈ wsL_law := wl_17 _ (List.mem_of_getElem? (i := 16) rfl)
theorem q_401 : Cond.selects RX5 yX5_highest yX5_highest ∈ wsL_law := wl_17 _ (List.mem_of_getElem? (i := 17) rfl)
theorem q_402 : Cond.code yX5_highest cX5_highest 6 (some .int) ∈ wsL_law := wl_17 _ (List.mem_of_getElem? (i := 18) rfl)
theorem q_403 : Cond.methodLink RL 77 yX4_count ∈ wsL_law := wl_17 _ (List.mem_of_getElem? (i := 19) rfl)
theorem q_404 : Cond.instanceMethod yX4_count ∈ wsL_law := wl_17 _ (List.mem_of_getElem? (i := 20) rfl)
theorem q_405 : Cond.selects RX4 yX4_count yX4_count ∈ wsL_law := wl_17 _ (List.mem_of_getElem? (i := 21) rfl)
theorem q_406 : Cond.code yX4_count cX4_count 2 (some .int) ∈ wsL_law := wl_17 _ (List.mem_of_getElem? (i := 22) rfl)
theorem q_407 : Cond.methodLink RX4 158 yX4_requireWhat ∈ wsL_law := wl_17 _ (List.mem_of_getElem? (i := 23) rfl)
theorem q_408 : Cond.static yX4_requireWhat ∈ wsL_law := wl_18 _ (List.mem_of_getElem? (i := 0) rfl)
theorem q_409 : Cond.code yX4_requireWhat cX4_requireWhat 2 none ∈ wsL_law := wl_18 _ (List.mem_of_getElem? (i := 1) rfl)
theorem q_410 : Cond.methodLink RX4 213 yX1_sizeOut ∈ wsL_law := wl_18 _ (List.mem_of_getElem? (i := 2) rfl)
theorem q_411 : Cond.instanceMethod yX1_sizeOut ∈ wsL_law := wl_18 _ (List.mem_of_getElem? (i := 3) rfl)
theorem q_412 : Cond.selects RX1 yX1_sizeOut yX1_sizeOut ∈ wsL_law := wl_18 _ (List.mem_of_getElem? (i := 4) rfl)
theorem q_413 : Cond.code yX1_sizeOut cX1_sizeOut 3 (some .int) ∈ wsL_law := wl_18 _ (List.mem_of_getElem? (i := 5) rfl)
theorem q_414 : Cond.methodLink RX4 216 yX1_outline ∈ wsL_law := wl_18 _ (List.mem_of_getElem? (i := 6) rfl)
theorem q_415 : Cond.instanceMethod yX1_outline ∈ wsL_law := wl_18 _ (List.mem_of_getElem? (i := 7) rfl)
theorem q_416 : Cond.selects RX1 yX1_outline yX1_outline ∈ wsL_law := wl_18 _ (List.mem_of_getElem? (i := 8) rfl)
theorem q_417 : Cond.code yX1_outline cX1_outline 4 (some .int) ∈ wsL_law := wl_18 _ (List.mem_of_getElem? (i := 9) rfl)
theorem q_418 : Cond.methodLink RX1 99 yX1_layersAt ∈ wsL_law := wl_18 _ (List.mem_of_getElem? (i := 10) rfl)
theorem q_419 : Cond.instanceMethod yX1_layersAt ∈ wsL_law := wl_18 _ (List.mem_of_getElem? (i := 11) rfl)
theorem q_420 : Cond.selects RX1 yX1_layersAt yX1_layersAt ∈ wsL_law := wl_18 _ (List.mem_of_getElem? (i := 12) rfl)
theorem q_421 : Cond.code yX1_layersAt cX1_layersAt 3 (some .int) ∈ wsL_law := wl_18 _ (List.mem_of_getElem? (i := 13) rfl)
theorem q_422 : Cond.methodLink RX1 103 yX1_openSides ∈ wsL_law := wl_18 _ (List.mem_of_getElem? (i := 14) rfl)
theorem q_423 : Cond.instanceMethod yX1_openSides ∈ wsL_law := wl_18 _ (List.mem_of_getElem? (i := 15) rfl)
theorem q_424 : Cond.selects RX1 yX1_openSides yX1_openSides ∈ wsL_law := wl_18 _ (List.mem_of_getElem? (i := 16) rfl)
theorem q_425 : Cond.code yX1_openSides cX1_openSides 3 (some .int) ∈ wsL_law := wl_18 _ (List.mem_of_getElem? (i := 17) rfl)
theorem q_426 : Cond.methodLink RX1 106 yX1_openAt ∈ wsL_law := wl_18 _ (List.mem_of_getElem? (i := 18) rfl)
theorem q_427 : Cond.instanceMethod yX1_openAt ∈ wsL_law := wl_18 _ (List.mem_of_getElem? (i := 19) rfl)
theorem q_428 : Cond.selects RX1 yX1_openAt yX1_openAt ∈ wsL_law := wl_18 _ (List.mem_of_getElem? (i := 20) rfl)
theorem q_429 : Cond.code yX1_openAt cX1_openAt 3 (some .int) ∈ wsL_law := wl_18 _ (List.mem_of_getElem? (i := 21) rfl)
theorem q_430 : Cond.methodLink RX4 219 yX1_parts ∈ wsL_law := wl_18 _ (List.mem_of_getElem? (i := 22) rfl)
theorem q_431 : Cond.instanceMethod yX1_parts ∈ wsL_law := wl_18 _ (List.mem_of_getElem? (i := 23) rfl)
theorem q_432 : Cond.selects RX1 yX1_parts yX1_parts ∈ wsL_law := wl_19 _ (List.mem_of_getElem? (i := 0) rfl)
theorem q_433 : Cond.code yX1_parts cX1_parts 4 (some .int) ∈ wsL_law := wl_19 _ (List.mem_of_getElem? (i := 1) rfl)
theorem q_434 : Cond.methodLink RX1 109 yX1_reach ∈ wsL_law := wl_19 _ (List.mem_of_getElem? (i := 2) rfl)
theorem q_435 : Cond.instanceMethod yX1_reach ∈ wsL_law := wl_19 _ (List.mem_of_getElem? (i := 3) rfl)
theorem q_436 : Cond.selects RX1 yX1_reach yX1_reach ∈ wsL_law := wl_19 _ (List.mem_of_getElem? (i := 4) rfl)
theorem q_437 : Cond.code yX1_reach cX1_reach 4 none ∈ wsL_law := wl_19 _ (List.mem_of_getElem? (i := 5) rfl)
theorem q_438 : Cond.methodLink RX1 113 yX1_reachAllFromQueue ∈ wsL_law := wl_19 _ (List.mem_of_getElem? (i := 6) rfl)
theorem q_439 : Cond.instanceMethod yX1_reachAllFromQueue ∈ wsL_law := wl_19 _ (List.mem_of_getElem? (i := 7) rfl)
theorem q_440 : Cond.selects RX1 yX1_reachAllFromQueue yX1_reachAllFromQueue ∈ wsL_law := wl_19 _ (List.mem_of_getElem? (i := 8) rfl)
theorem q_441 : Cond.code yX1_reachAllFromQueue cX1_reachAllFromQueue 4 none ∈ wsL_law := wl_19 _ (List.mem_of_getElem? (i := 9) rfl)
theorem q_442 : Cond.methodLink RX4 222 yX1_cellsWithLayers ∈ wsL_law := wl_19 _ (List.mem_of_getElem? (i := 10) rfl)
theorem q_443 : Cond.methodLink RX4 225 yX4_stallsNotCovered ∈ wsL_law := wl_19 _ (List.mem_of_getElem? (i := 11) rfl)
theorem q_444 : Cond.instanceMethod yX4_stallsNotCovered ∈ wsL_law := wl_19 _ (List.mem_of_getElem? (i := 12) rfl)
theorem q_445 : Cond.selects RX4 yX4_stallsNotCovered yX4_stallsNotCovered ∈ wsL_law := wl_19 _ (List.mem_of_getElem? (i := 13) rfl)
theorem q_446 : Cond.code yX4_stallsNotCovered cX4_stallsNotCovered 4 (some .int) ∈ wsL_law := wl_19 _ (List.mem_of_getElem? (i := 14) rfl)
theorem q_447 : Cond.methodLink RX4 171 yX1_layersAt ∈ wsL_law := wl_19 _ (List.mem_of_getElem? (i := 15) rfl)
theorem q_448 : Cond.methodLink RL 80 yX4_digest ∈ wsL_law := wl_19 _ (List.mem_of_getElem? (i := 16) rfl)
theorem q_449 : Cond.instanceMethod yX4_digest ∈ wsL_law := wl_19 _ (List.mem_of_getElem? (i := 17) rfl)
theorem q_450 : Cond.selects RX4 yX4_digest yX4_digest ∈ wsL_law := wl_19 _ (List.mem_of_getElem? (i := 18) rfl)
theorem q_451 : Cond.code yX4_digest cX4_digest 5 (some .long) ∈ wsL_law := wl_19 _ (List.mem_of_getElem? (i := 19) rfl)
theorem q_452 : Cond.constantLong RX4 232 (1741) ∈ wsL_law := wl_19 _ (List.mem_of_getElem? (i := 20) rfl)
theorem q_453 : Cond.constantLong RX4 234 (31) ∈ wsL_law := wl_19 _ (List.mem_of_getElem? (i := 21) rfl)
theorem q_454 : Cond.methodLink RX4 236 yX4_count ∈ wsL_law := wl_19 _ (List.mem_of_getElem? (i := 22) rfl)
theorem q_455 : Cond.methodLink RX4 239 yX4_about ∈ wsL_law := wl_19 _ (List.mem_of_getElem? (i := 23) rfl)
theorem q_456 : Cond.instanceMethod yX4_about ∈ wsL_law := wl_20 _ (List.mem_of_getElem? (i := 0) rfl)
theorem q_457 : Cond.selects RX4 yX4_about yX4_about ∈ wsL_law := wl_20 _ (List.mem_of_getElem? (i := 1) rfl)
theorem q_458 : Cond.code yX4_about cX4_about 4 (some .int) ∈ wsL_law := wl_20 _ (List.mem_of_getElem? (i := 2) rfl)
theorem q_459 : Cond.fieldLink RX4 161 "MarketAwnings$Awning" "level" "I" ∈ wsL_law := wl_20 _ (List.mem_of_getElem? (i := 3) rfl)
theorem q_460 : Cond.fieldLink RX4 164 "MarketAwnings$Awning" "side" "I" ∈ wsL_law := wl_20 _ (List.mem_of_getElem? (i := 4) rfl)
theorem q_461 : Cond.methodLink RX4 167 yX1_coveredOnlyBy ∈ wsL_law := wl_20 _ (List.mem_of_getElem? (i := 5) rfl)
theorem q_462 : Cond.instanceMethod yX1_coveredOnlyBy ∈ wsL_law := wl_20 _ (List.mem_of_getElem? (i := 6) rfl)
theorem q_463 : Cond.selects RX1 yX1_coveredOnlyBy yX1_coveredOnlyBy ∈ wsL_law := wl_20 _ (List.mem_of_getElem? (i := 7) rfl)
theorem q_464 : Cond.code yX1_coveredOnlyBy cX1_coveredOnlyBy 5 (some .int) ∈ wsL_law := wl_20 _ (List.mem_of_getElem? (i := 8) rfl)
theorem q_465 : Cond.methodLink RX4 242 yX4_told ∈ wsL_law := wl_20 _ (List.mem_of_getElem? (i := 9) rfl)
theorem q_466 : Cond.instanceMethod yX4_told ∈ wsL_law := wl_20 _ (List.mem_of_getElem? (i := 10) rfl)
theorem q_467 : Cond.selects RX4 yX4_told yX4_told ∈ wsL_law := wl_20 _ (List.mem_of_getElem? (i := 11) rfl)
theorem q_468 : Cond.code yX4_told cX4_told 4 (some .int) ∈ wsL_law := wl_20 _ (List.mem_of_getElem? (i := 12) rfl)
theorem q_469 : Cond.methodLink RX4 195 yX4_numberedStall ∈ wsL_law := wl_20 _ (List.mem_of_getElem? (i := 13) rfl)
theorem q_470 : Cond.instanceMethod yX4_numberedStall ∈ wsL_law := wl_20 _ (List.mem_of_getElem? (i := 14) rfl)
theorem q_471 : Cond.selects RX4 yX4_numberedStall yX4_numberedStall ∈ wsL_law := wl_20 _ (List.mem_of_getElem? (i := 15) rfl)
theorem q_472 : Cond.code yX4_numberedStall cX4_numberedStall 2 (some (.object "MarketAwnings$Stall")) ∈ wsL_law := wl_20 _ (List.mem_of_getElem? (i := 16) rfl)
theorem q_473 : Cond.methodLink RX4 201 yX4_gotBy ∈ wsL_law := wl_20 _ (List.mem_of_getElem? (i := 17) rfl)
theorem q_474 : Cond.instanceMethod yX4_gotBy ∈ wsL_law := wl_20 _ (List.mem_of_getElem? (i := 18) rfl)
theorem q_475 : Cond.selects RX4 yX4_gotBy yX4_gotBy ∈ wsL_law := wl_20 _ (List.mem_of_getElem? (i := 19) rfl)
theorem q_476 : Cond.code yX4_gotBy cX4_gotBy 2 (some .int) ∈ wsL_law := wl_20 _ (List.mem_of_getElem? (i := 20) rfl)
theorem q_477 : Cond.fieldLink RX4 261 "MarketAwnings$Stall" "groundBefore" "I" ∈ wsL_law := wl_20 _ (List.mem_of_getElem? (i := 21) rfl)
theorem q_478 : Cond.methodLink RX4 245 yX4_digestOfColumn ∈ wsL_law := wl_20 _ (List.mem_of_getElem? (i := 22) rfl)
theorem q_479 : Cond.instanceMethod yX4_digestOfColumn ∈ wsL_law := wl_20 _ (List.mem_of_getElem? (i := 23) rfl)
theorem q_480 : Cond.selects RX4 yX4_digestOfColumn yX4_digestOfColumn ∈ wsL_law := wl_21 _ (List.mem_of_getElem? (i := 0) rfl)
theorem q_481 : Cond.code yX4_digestOfColumn cX4_digestOfColumn 8 (some .long) ∈ wsL_law := wl_21 _ (List.mem_of_getElem? (i := 1) rfl)
theorem q_482 : Cond.methodLink RX4 249 yX4_cord ∈ wsL_law := wl_21 _ (List.mem_of_getElem? (i := 2) rfl)
theorem q_483 : Cond.instanceMethod yX4_cord ∈ wsL_law := wl_21 _ (List.mem_of_getElem? (i := 3) rfl)
theorem q_484 : Cond.selects RX4 yX4_cord yX4_cord ∈ wsL_law := wl_21 _ (List.mem_of_getElem? (i := 4) rfl)
theorem q_485 : Cond.code yX4_cord cX4_cord 3 (some .int) ∈ wsL_law := wl_21 _ (List.mem_of_getElem? (i := 5) rfl)
theorem q_486 : Cond.methodLink RX4 183 yX1_coveredInColumn ∈ wsL_law := wl_21 _ (List.mem_of_getElem? (i := 6) rfl)
theorem q_487 : Cond.instanceMethod yX1_coveredInColumn ∈ wsL_law := wl_21 _ (List.mem_of_getElem? (i := 7) rfl)
theorem q_488 : Cond.selects RX1 yX1_coveredInColumn yX1_coveredInColumn ∈ wsL_law := wl_21 _ (List.mem_of_getElem? (i := 8) rfl)
theorem q_489 : Cond.code yX1_coveredInColumn cX1_coveredInColumn 4 (some .int) ∈ wsL_law := wl_21 _ (List.mem_of_getElem? (i := 9) rfl)
theorem q_490 : Cond.methodLink RX4 186 yX1_runsInColumn ∈ wsL_law := wl_21 _ (List.mem_of_getElem? (i := 10) rfl)
theorem q_491 : Cond.instanceMethod yX1_runsInColumn ∈ wsL_law := wl_21 _ (List.mem_of_getElem? (i := 11) rfl)
theorem q_492 : Cond.selects RX1 yX1_runsInColumn yX1_runsInColumn ∈ wsL_law := wl_21 _ (List.mem_of_getElem? (i := 12) rfl)
theorem q_493 : Cond.code yX1_runsInColumn cX1_runsInColumn 4 (some .int) ∈ wsL_law := wl_21 _ (List.mem_of_getElem? (i := 13) rfl)
theorem q_494 : Cond.methodLink RX4 189 yX1_longestRunInColumn ∈ wsL_law := wl_21 _ (List.mem_of_getElem? (i := 14) rfl)
theorem q_495 : Cond.instanceMethod yX1_longestRunInColumn ∈ wsL_law := wl_21 _ (List.mem_of_getElem? (i := 15) rfl)
theorem q_496 : Cond.selects RX1 yX1_longestRunInColumn yX1_longestRunInColumn ∈ wsL_law := wl_21 _ (List.mem_of_getElem? (i := 16) rfl)
theorem q_497 : Cond.code yX1_longestRunInColumn cX1_longestRunInColumn 5 (some .int) ∈ wsL_law := wl_21 _ (List.mem_of_getElem? (i := 17) rfl)
theorem q_498 : Cond.methodLink RX1 116 Lib.Math.max.name ∈ wsL_law := wl_21 _ (List.mem_of_getElem? (i := 18) rfl)
theorem q_499 : Cond.methodLink RX4 192 yX1_mostLayersInColumn ∈ wsL_law := wl_21 _ (List.mem_of_getElem? (i := 19) rfl)
theorem q_500 : Cond.instanceMethod yX1_mostLayersInColumn ∈ wsL_law := wl_21 _ (List.mem_of_getElem? (i := 20) rfl)
theorem q_501 : Cond.selects RX1 yX1_mostLayersInColumn yX1_mostLayersInColumn ∈ wsL_law := wl_21 _ (List.mem_of_getElem? (i := 21) rfl)
theorem q_502 : Cond.code yX1_mostLayersInColumn cX1_mostLayersInColumn 4 (some .int) ∈ wsL_law := wl_21 _ (List.mem_of_getElem? (i := 22) rfl)
theorem q_503 : Cond.methodLink RX4 252 yX4_cell ∈ wsL_law := wl_21 _ (List.mem_of_getElem? (i := 23) rfl)
theorem q_504 : Cond.instanceMethod yX4_cell ∈ wsL_law := wl_22 _ (List.mem_of_getElem? (i := 0) rfl)
theorem q_505 : Cond.selects RX4 yX4_cell yX4_cell ∈ wsL_law := wl_22 _ (List.mem_of_getElem? (i := 1) rfl)
theorem q_506 : Cond.code yX4_cell cX4_cell 4 (some .int) ∈ wsL_law := wl_22 _ (List.mem_of_getElem? (i := 2) rfl)
theorem q_507 : Cond.methodLink RX4 174 yX1_highestBelow ∈ wsL_law := wl_22 _ (List.mem_of_getElem? (i := 3) rfl)
theorem q_508 : Cond.methodLink RL 84 yX4_cord ∈ wsL_law := wl_22 _ (List.mem_of_getElem? (i := 4) rfl)
theorem q_509 : Cond.methodLink RL 87 yX4_cell ∈ wsL_law := wl_22 _ (List.mem_of_getElem? (i := 5) rfl)
theorem q_510 : Cond.methodLink RL 89 yX4_about ∈ wsL_law := wl_22 _ (List.mem_of_getElem? (i := 6) rfl)
theorem q_511 : Cond.methodLink RL 97 yX4_share ∈ wsL_law := wl_22 _ (List.mem_of_getElem? (i := 7) rfl)
theorem q_512 : Cond.instanceMethod yX4_share ∈ wsL_law := wl_22 _ (List.mem_of_getElem? (i := 8) rfl)
theorem q_513 : Cond.selects RX4 yX4_share yX4_share ∈ wsL_law := wl_22 _ (List.mem_of_getElem? (i := 9) rfl)
theorem q_514 : Cond.code yX4_share cX4_share 7 (some .int) ∈ wsL_law := wl_22 _ (List.mem_of_getElem? (i := 10) rfl)
theorem q_515 : Cond.methodLink RX4 205 Lib.Math.min.name ∈ wsL_law := wl_22 _ (List.mem_of_getElem? (i := 11) rfl)
theorem q_516 : Cond.methodLink RX4 210 Lib.Math.max.name ∈ wsL_law := wl_22 _ (List.mem_of_getElem? (i := 12) rfl)
theorem q_517 : Cond.methodLink RL 100 yX4_told ∈ wsL_law := wl_22 _ (List.mem_of_getElem? (i := 13) rfl)
theorem q_518 : Cond.methodLink RL 103 yX4_advise ∈ wsL_law := wl_22 _ (List.mem_of_getElem? (i := 14) rfl)
theorem q_519 : Cond.instanceMethod yX4_advise ∈ wsL_law := wl_22 _ (List.mem_of_getElem? (i := 15) rfl)
theorem q_520 : Cond.selects RX4 yX4_advise yX4_advise ∈ wsL_law := wl_22 _ (List.mem_of_getElem? (i := 16) rfl)
theorem q_521 : Cond.code yX4_advise cX4_advise 6 (some .int) ∈ wsL_law := wl_22 _ (List.mem_of_getElem? (i := 17) rfl)
theorem q_522 : Cond.methodLink RL 106 yX5_isSame ∈ wsL_law := wl_22 _ (List.mem_of_getElem? (i := 18) rfl)
theorem q_523 : Cond.instanceMethod yX5_isSame ∈ wsL_law := wl_22 _ (List.mem_of_getElem? (i := 19) rfl)
theorem q_524 : Cond.selects RX5 yX5_isSame yX5_isSame ∈ wsL_law := wl_22 _ (List.mem_of_getElem? (i := 20) rfl)
theorem q_525 : Cond.code yX5_isSame cX5_isSame 11 (some .boolean) ∈ wsL_law := wl_22 _ (List.mem_of_getElem? (i := 21) rfl)
theorem q_526 : Cond.methodLink RX5 49 Lib.Math.max.name ∈ wsL_law := wl_22 _ (List.mem_of_getElem? (i := 22) rfl)
theorem q_527 : Cond.methodLink RX5 54 yX5_covered ∈ wsL_law := wl_22 _ (List.mem_of_getElem? (i := 23) rfl)
theorem q_528 : Cond.methodLink RX5 58 yX5_outline ∈ wsL_law := wl_23 _ (List.mem_of_getElem? (i := 0) rfl)
theorem q_529 : Cond.instanceMethod yX5_outline ∈ wsL_law := wl_23 _ (List.mem_of_getElem? (i := 1) rfl)
theorem q_530 : Cond.selects RX5 yX5_outline yX5_outline ∈ wsL_law := wl_23 _ (List.mem_of_getElem? (i := 2) rfl)
theorem q_531 : Cond.code yX5_outline cX5_outline 4 (some .int) ∈ wsL_law := wl_23 _ (List.mem_of_getElem? (i := 3) rfl)
theorem q_532 : Cond.methodLink RX5 61 yX5_parts ∈ wsL_law := wl_23 _ (List.mem_of_getElem? (i := 4) rfl)
theorem q_533 : Cond.instanceMethod yX5_parts ∈ wsL_law := wl_23 _ (List.mem_of_getElem? (i := 5) rfl)
theorem q_534 : Cond.selects RX5 yX5_parts yX5_parts ∈ wsL_law := wl_23 _ (List.mem_of_getElem? (i := 6) rfl)
theorem q_535 : Cond.code yX5_parts cX5_parts 8 (some .int) ∈ wsL_law := wl_23 _ (List.mem_of_getElem? (i := 7) rfl)
theorem q_536 : Cond.methodLink RX5 64 yX4_cell ∈ wsL_law := wl_23 _ (List.mem_of_getElem? (i := 8) rfl)
theorem q_537 : Cond.methodLink RX5 69 yX4_cord ∈ wsL_law := wl_23 _ (List.mem_of_getElem? (i := 9) rfl)
theorem q_538 : Cond.methodLink RX5 72 yX4_about ∈ wsL_law := wl_23 _ (List.mem_of_getElem? (i := 10) rfl)
theorem q_539 : Cond.methodLink RX5 75 yX5_own ∈ wsL_law := wl_23 _ (List.mem_of_getElem? (i := 11) rfl)
theorem q_540 : Cond.instanceMethod yX5_own ∈ wsL_law := wl_23 _ (List.mem_of_getElem? (i := 12) rfl)
theorem q_541 : Cond.selects RX5 yX5_own yX5_own ∈ wsL_law := wl_23 _ (List.mem_of_getElem? (i := 13) rfl)
theorem q_542 : Cond.code yX5_own cX5_own 5 (some .int) ∈ wsL_law := wl_23 _ (List.mem_of_getElem? (i := 14) rfl)
theorem q_543 : Cond.methodLink RX5 79 yX4_share ∈ wsL_law := wl_23 _ (List.mem_of_getElem? (i := 15) rfl)
theorem q_544 : Cond.methodLink RX5 82 yX5_shared ∈ wsL_law := wl_23 _ (List.mem_of_getElem? (i := 16) rfl)
theorem q_545 : Cond.instanceMethod yX5_shared ∈ wsL_law := wl_23 _ (List.mem_of_getElem? (i := 17) rfl)
theorem q_546 : Cond.selects RX5 yX5_shared yX5_shared ∈ wsL_law := wl_23 _ (List.mem_of_getElem? (i := 18) rfl)
theorem q_547 : Cond.code yX5_shared cX5_shared 6 (some .int) ∈ wsL_law := wl_23 _ (List.mem_of_getElem? (i := 19) rfl)
theorem q_548 : Cond.methodLink RX5 85 yX4_told ∈ wsL_law := wl_23 _ (List.mem_of_getElem? (i := 20) rfl)
theorem q_549 : Cond.methodLink RX5 88 yX4_count ∈ wsL_law := wl_23 _ (List.mem_of_getElem? (i := 21) rfl)
theorem q_550 : Cond.methodLink RX5 91 yX4_mean ∈ wsL_law := wl_23 _ (List.mem_of_getElem? (i := 22) rfl)
theorem q_551 : Cond.instanceMethod yX4_mean ∈ wsL_law := wl_23 _ (List.mem_of_getElem? (i := 23) rfl)
theorem q_552 : Cond.selects RX4 yX4_mean yX4_mean ∈ wsL_law := wl_24 _ (List.mem_of_getElem? (i := 0) rfl)
theorem q_553 : Cond.code yX4_mean cX4_mean 4 (some .double) ∈ wsL_law := wl_24 _ (List.mem_of_getElem? (i := 1) rfl)
end
section
theorem dX0_init_0 : decode cX0_init 0 = .ok (.aload_n 0, 1) := by decide +kernel
theorem dX0_init_1 : decode cX0_init 1 = .ok (.invokespecial 3, 3) := by decide +kernel
theorem dX0_init_4 : decode cX0_init 4 = .ok (.aload_n 0, 1) := by decide +kernel
theorem dX0_init_5 : decode cX0_init 5 = .ok (.iload_n 1, 1) := by decide +kernel
theorem dX0_init_6 : decode cX0_init 6 = .ok (.putfield 9, 3) := by decide +kernel
theorem dX0_init_9 : decode cX0_init 9 = .ok (.aload_n 0, 1) := by decide +kernel
theorem dX0_init_10 : decode cX0_init 10 = .ok (.iload_n 2, 1) := by decide +kernel
theorem dX0_init_11 : decode cX0_init 11 = .ok (.putfield 15, 3) := by decide +kernel
theorem dX0_init_14 : decode cX0_init 14 = .ok (.aload_n 0, 1) := by decide +kernel
theorem dX0_init_15 : decode cX0_init 15 = .ok (.iload_n 3, 1) := by decide +kernel
theorem dX0_init_16 : decode cX0_init 16 = .ok (.putfield 18, 3) := by decide +kernel
theorem dX0_init_19 : decode cX0_init 19 = .ok (.aload_n 0, 1) := by decide +kernel
theorem dX0_init_20 : decode cX0_init 20 = .ok (.iload 4, 2) := by decide +kernel
theorem dX0_init_22 : decode cX0_init 22 = .ok (.putfield 21, 3) := by decide +kernel
theorem dX0_init_25 : decode cX0_init 25 = .ok (.aload_n 0, 1) := by decide +kernel
theorem dX0_init_26 : decode cX0_init 26 = .ok (.iload 5, 2) := by decide +kernel
theorem dX0_init_28 : decode cX0_init 28 = .ok (.putfield 24, 3) := by decide +kernel
theorem dX0_init_31 : decode cX0_init 31 = .ok (.aload_n 0, 1) := by decide +kernel
theorem dX0_init_32 : decode cX0_init 32 = .ok (.iload 6, 2) := by decide +kernel
theorem dX0_init_34 : decode cX0_init 34 = .ok (.putfield 27, 3) := by decide +kernel
theorem dX0_init_37 : decode cX0_init 37 = .ok (.aload_n 0, 1) := by decide +kernel
theorem dX0_init_38 : decode cX0_init 38 = .ok (.iconst 1, 1) := by decide +kernel
theorem dX0_init_39 : decode cX0_init 39 = .ok (.putfield 30, 3) := by decide +kernel
theorem dX0_init_42 : decode cX0_init 42 = .ok (.aload_n 0, 1) := by decide +kernel
theorem dX0_init_43 : decode cX0_init 43 = .ok (.iconst 0, 1) := by decide +kernel
theorem dX0_init_44 : decode cX0_init 44 = .ok (.putfield 34, 3) := by decide +kernel
theorem dX0_init_47 : decode cX0_init 47 = .ok (.return_, 1) := by decide +kernel
theorem dX0_covers_0 : decode cX0_covers 0 = .ok (.aload_n 0, 1) := by decide +kernel
theorem dX0_covers_1 : decode cX0_covers 1 = .ok (.getfield 30, 3) := by decide +kernel
theorem dX0_covers_4 : decode cX0_covers 4 = .ok (.ifCond .eq 49, 3) := by decide +kernel
theorem dX0_covers_7 : decode cX0_covers 7 = .ok (.iload_n 1, 1) := by decide +kernel
theorem dX0_covers_8 : decode cX0_covers 8 = .ok (.aload_n 0, 1) := by decide +kernel
theorem dX0_covers_9 : decode cX0_covers 9 = .ok (.getfield 9, 3) := by decide +kernel
theorem dX0_covers_12 : decode cX0_covers 12 = .ok (.if_icmp .lt 41, 3) := by decide +kernel
theorem dX0_covers_15 : decode cX0_covers 15 = .ok (.iload_n 1, 1) := by decide +kernel
theorem dX0_covers_16 : decode cX0_covers 16 = .ok (.aload_n 0, 1) := by decide +kernel
theorem dX0_covers_17 : decode cX0_covers 17 = .ok (.getfield 9, 3) := by decide +kernel
theorem dX0_covers_20 : decode cX0_covers 20 = .ok (.aload_n 0, 1) := by decide +kernel
theorem dX0_covers_21 : decode cX0_covers 21 = .ok (.getfield 18, 3) := by decide +kernel
theorem dX0_covers_24 : decode cX0_covers 24 = .ok (.iadd, 1) := by decide +kernel
theorem dX0_covers_25 : decode cX0_covers 25 = .ok (.if_icmp .ge 28, 3) := by decide +kernel
theorem dX0_covers_28 : decode cX0_covers 28 = .ok (.iload_n 2, 1) := by decide +kernel
theorem dX0_covers_29 : decode cX0_covers 29 = .ok (.aload_n 0, 1) := by decide +kernel
theorem dX0_covers_30 : decode cX0_covers 30 = .ok (.getfield 15, 3) := by decide +kernel
theorem dX0_covers_33 : decode cX0_covers 33 = .ok (.if_icmp .lt 20, 3) := by decide +kernel
theorem dX0_covers_36 : decode cX0_covers 36 = .ok (.iload_n 2, 1) := by decide +kernel
theorem dX0_covers_37 : decode cX0_covers 37 = .ok (.aload_n 0, 1) := by decide +kernel
theorem dX0_covers_38 : decode cX0_covers 38 = .ok (.getfield 15, 3) := by decide +kernel
theorem dX0_covers_41 : decode cX0_covers 41 = .ok (.aload_n 0, 1) := by decide +kernel
theorem dX0_covers_42 : decode cX0_covers 42 = .ok (.getfield 21, 3) := by decide +kernel
theorem dX0_covers_45 : decode cX0_covers 45 = .ok (.iadd, 1) := by decide +kernel
theorem dX0_covers_46 : decode cX0_covers 46 = .ok (.if_icmp .ge 7, 3) := by decide +kernel
theorem dX0_covers_49 : decode cX0_covers 49 = .ok (.iconst 1, 1) := by decide +kernel
theorem dX0_covers_50 : decode cX0_covers 50 = .ok (.goto 4, 3) := by decide +kernel
theorem dX0_covers_53 : decode cX0_covers 53 = .ok (.iconst 0, 1) := by decide +kernel
theorem dX0_covers_54 : decode cX0_covers 54 = .ok (.ireturn, 1) := by decide +kernel
theorem dX0_dripsAlongRows_0 : decode cX0_dripsAlongRows 0 = .ok (.aload_n 0, 1) := by decide +kernel
theorem dX0_dripsAlongRows_1 : decode cX0_dripsAlongRows 1 = .ok (.getfield 27, 3) := by decide +kernel
theorem dX0_dripsAlongRows_4 : decode cX0_dripsAlongRows 4 = .ok (.ifCond .eq 11, 3) := by decide +kernel
theorem dX0_dripsAlongRows_7 : decode cX0_dripsAlongRows 7 = .ok (.aload_n 0, 1) := by decide +kernel
theorem dX0_dripsAlongRows_8 : decode cX0_dripsAlongRows 8 = .ok (.getfield 27, 3) := by decide +kernel
theorem dX0_dripsAlongRows_11 : decode cX0_dripsAlongRows 11 = .ok (.iconst 2, 1) := by decide +kernel
theorem dX0_dripsAlongRows_12 : decode cX0_dripsAlongRows 12 = .ok (.if_icmp .ne 7, 3) := by decide +kernel
theorem dX0_dripsAlongRows_15 : decode cX0_dripsAlongRows 15 = .ok (.iconst 1, 1) := by decide +kernel
theorem dX0_dripsAlongRows_16 : decode cX0_dripsAlongRows 16 = .ok (.goto 4, 3) := by decide +kernel
theorem dX0_dripsAlongRows_19 : decode cX0_dripsAlongRows 19 = .ok (.iconst 0, 1) := by decide +kernel
theorem dX0_dripsAlongRows_20 : decode cX0_dripsAlongRows 20 = .ok (.ireturn, 1) := by decide +kernel
theorem dX0_cellsBeyond_0 : decode cX0_cellsBeyond 0 = .ok (.aload_n 0, 1) := by decide +kernel
theorem dX0_cellsBeyond_1 : decode cX0_cellsBeyond 1 = .ok (.invokevirtual 37, 3) := by decide +kernel
theorem dX0_cellsBeyond_4 : decode cX0_cellsBeyond 4 = .ok (.ifCond .eq 10, 3) := by decide +kernel
theorem dX0_cellsBeyond_7 : decode cX0_cellsBeyond 7 = .ok (.aload_n 0, 1) := by decide +kernel
theorem dX0_cellsBeyond_8 : decode cX0_cellsBeyond 8 = .ok (.getfield 21, 3) := by decide +kernel
theorem dX0_cellsBeyond_11 : decode cX0_cellsBeyond 11 = .ok (.goto 7, 3) := by decide +kernel
theorem dX0_cellsBeyond_14 : decode cX0_cellsBeyond 14 = .ok (.aload_n 0, 1) := by decide +kernel
theorem dX0_cellsBeyond_15 : decode cX0_cellsBeyond 15 = .ok (.getfield 18, 3) := by decide +kernel
theorem dX0_cellsBeyond_18 : decode cX0_cellsBeyond 18 = .ok (.ireturn, 1) := by decide +kernel
theorem dX0_columnBeyond_0 : decode cX0_columnBeyond 0 = .ok (.aload_n 0, 1) := by decide +kernel
theorem dX0_columnBeyond_1 : decode cX0_columnBeyond 1 = .ok (.invokevirtual 37, 3) := by decide +kernel
theorem dX0_columnBeyond_4 : decode cX0_columnBeyond 4 = .ok (.ifCond .eq 29, 3) := by decide +kernel
theorem dX0_columnBeyond_7 : decode cX0_columnBeyond 7 = .ok (.aload_n 0, 1) := by decide +kernel
theorem dX0_columnBeyond_8 : decode cX0_columnBeyond 8 = .ok (.getfield 27, 3) := by decide +kernel
theorem dX0_columnBeyond_11 : decode cX0_columnBeyond 11 = .ok (.ifCond .ne 12, 3) := by decide +kernel
theorem dX0_columnBeyond_14 : decode cX0_columnBeyond 14 = .ok (.aload_n 0, 1) := by decide +kernel
theorem dX0_columnBeyond_15 : decode cX0_columnBeyond 15 = .ok (.getfield 9, 3) := by decide +kernel
theorem dX0_columnBeyond_18 : decode cX0_columnBeyond 18 = .ok (.iconst 1, 1) := by decide +kernel
theorem dX0_columnBeyond_19 : decode cX0_columnBeyond 19 = .ok (.isub, 1) := by decide +kernel
theorem dX0_columnBeyond_20 : decode cX0_columnBeyond 20 = .ok (.goto 12, 3) := by decide +kernel
theorem dX0_columnBeyond_23 : decode cX0_columnBeyond 23 = .ok (.aload_n 0, 1) := by decide +kernel
theorem dX0_columnBeyond_24 : decode cX0_columnBeyond 24 = .ok (.getfield 9, 3) := by decide +kernel
theorem dX0_columnBeyond_27 : decode cX0_columnBeyond 27 = .ok (.aload_n 0, 1) := by decide +kernel
theorem dX0_columnBeyond_28 : decode cX0_columnBeyond 28 = .ok (.getfield 18, 3) := by decide +kernel
theorem dX0_columnBeyond_31 : decode cX0_columnBeyond 31 = .ok (.iadd, 1) := by decide +kernel
theorem dX0_columnBeyond_32 : decode cX0_columnBeyond 32 = .ok (.ireturn, 1) := by decide +kernel
theorem dX0_columnBeyond_33 : decode cX0_columnBeyond 33 = .ok (.aload_n 0, 1) := by decide +kernel
theorem dX0_columnBeyond_34 : decode cX0_columnBeyond 34 = .ok (.getfield 9, 3) := by decide +kernel
theorem dX0_columnBeyond_37 : decode cX0_columnBeyond 37 = .ok (.iload_n 1, 1) := by decide +kernel
theorem dX0_columnBeyond_38 : decode cX0_columnBeyond 38 = .ok (.iadd, 1) := by decide +kernel
theorem dX0_columnBeyond_39 : decode cX0_columnBeyond 39 = .ok (.ireturn, 1) := by decide +kernel
theorem dX0_rowBeyond_0 : decode cX0_rowBeyond 0 = .ok (.aload_n 0, 1) := by decide +kernel
theorem dX0_rowBeyond_1 : decode cX0_rowBeyond 1 = .ok (.invokevirtual 37, 3) := by decide +kernel
theorem dX0_rowBeyond_4 : decode cX0_rowBeyond 4 = .ok (.ifCond .eq 10, 3) := by decide +kernel
theorem dX0_rowBeyond_7 : decode cX0_rowBeyond 7 = .ok (.aload_n 0, 1) := by decide +kernel
theorem dX0_rowBeyond_8 : decode cX0_rowBeyond 8 = .ok (.getfield 15, 3) := by decide +kernel
theorem dX0_rowBeyond_11 : decode cX0_rowBeyond 11 = .ok (.iload_n 1, 1) := by decide +kernel
theorem dX0_rowBeyond_12 : decode cX0_rowBeyond 12 = .ok (.iadd, 1) := by decide +kernel
theorem dX0_rowBeyond_13 : decode cX0_rowBeyond 13 = .ok (.ireturn, 1) := by decide +kernel
theorem dX0_rowBeyond_14 : decode cX0_rowBeyond 14 = .ok (.aload_n 0, 1) := by decide +kernel
theorem dX0_rowBeyond_15 : decode cX0_rowBeyond 15 = .ok (.getfield 27, 3) := by decide +kernel
theorem dX0_rowBeyond_18 : decode cX0_rowBeyond 18 = .ok (.iconst 1, 1) := by decide +kernel
theorem dX0_rowBeyond_19 : decode cX0_rowBeyond 19 = .ok (.if_icmp .ne 12, 3) := by decide +kernel
theorem dX0_rowBeyond_22 : decode cX0_rowBeyond 22 = .ok (.aload_n 0, 1) := by decide +kernel
theorem dX0_rowBeyond_23 : decode cX0_rowBeyond 23 = .ok (.getfield 15, 3) := by decide +kernel
theorem dX0_rowBeyond_26 : decode cX0_rowBeyond 26 = .ok (.iconst 1, 1) := by decide +kernel
theorem dX0_rowBeyond_27 : decode cX0_rowBeyond 27 = .ok (.isub, 1) := by decide +kernel
theorem dX0_rowBeyond_28 : decode cX0_rowBeyond 28 = .ok (.goto 12, 3) := by decide +kernel
theorem dX0_rowBeyond_31 : decode cX0_rowBeyond 31 = .ok (.aload_n 0, 1) := by decide +kernel
theorem dX0_rowBeyond_32 : decode cX0_rowBeyond 32 = .ok (.getfield 15, 3) := by decide +kernel
theorem dX0_rowBeyond_35 : decode cX0_rowBeyond 35 = .ok (.aload_n 0, 1) := by decide +kernel
theorem dX0_rowBeyond_36 : decode cX0_rowBeyond 36 = .ok (.getfield 21, 3) := by decide +kernel
theorem dX0_rowBeyond_39 : decode cX0_rowBeyond 39 = .ok (.iadd, 1) := by decide +kernel
theorem dX0_rowBeyond_40 : decode cX0_rowBeyond 40 = .ok (.ireturn, 1) := by decide +kernel
theorem dX1_init_0 : decode cX1_init 0 = .ok (.aload_n 0, 1) := by decide +kernel
theorem dX1_init_1 : decode cX1_init 1 = .ok (.invokespecial 3, 3) := by decide +kernel
theorem dX1_init_4 : decode cX1_init 4 = .ok (.aload_n 0, 1) := by decide +kernel
theorem dX1_init_5 : decode cX1_init 5 = .ok (.new 9, 3) := by decide +kernel
theorem dX1_init_8 : decode cX1_init 8 = .ok (.dup, 1) := by decide +kernel
theorem dX1_init_9 : decode cX1_init 9 = .ok (.invokespecial 11, 3) := by decide +kernel
theorem dX1_init_12 : decode cX1_init 12 = .ok (.putfield 12, 3) := by decide +kernel
theorem dX1_init_15 : decode cX1_init 15 = .ok (.aload_n 0, 1) := by decide +kernel
theorem dX1_init_16 : decode cX1_init 16 = .ok (.sipush 576, 3) := by decide +kernel
theorem dX1_init_19 : decode cX1_init 19 = .ok (.newarray .int, 2) := by decide +kernel
theorem dX1_init_21 : decode cX1_init 21 = .ok (.putfield 18, 3) := by decide +kernel
theorem dX1_init_24 : decode cX1_init 24 = .ok (.aload_n 0, 1) := by decide +kernel
theorem dX1_init_25 : decode cX1_init 25 = .ok (.sipush 576, 3) := by decide +kernel
theorem dX1_init_28 : decode cX1_init 28 = .ok (.newarray .int, 2) := by decide +kernel
theorem dX1_init_30 : decode cX1_init 30 = .ok (.putfield 22, 3) := by decide +kernel
theorem dX1_init_33 : decode cX1_init 33 = .ok (.aload_n 0, 1) := by decide +kernel
theorem dX1_init_34 : decode cX1_init 34 = .ok (.sipush 576, 3) := by decide +kernel
theorem dX1_init_37 : decode cX1_init 37 = .ok (.newarray .int, 2) := by decide +kernel
theorem dX1_init_39 : decode cX1_init 39 = .ok (.putfield 25, 3) := by decide +kernel
theorem dX1_init_42 : decode cX1_init 42 = .ok (.aload_n 0, 1) := by decide +kernel
theorem dX1_init_43 : decode cX1_init 43 = .ok (.iconst 0, 1) := by decide +kernel
theorem dX1_init_44 : decode cX1_init 44 = .ok (.putfield 28, 3) := by decide +kernel
theorem dX1_init_47 : decode cX1_init 47 = .ok (.return_, 1) := by decide +kernel
theorem dX1_size_0 : decode cX1_size 0 = .ok (.aload_n 0, 1) := by decide +kernel
theorem dX1_size_1 : decode cX1_size 1 = .ok (.getfield 12, 3) := by decide +kernel
theorem dX1_size_4 : decode cX1_size 4 = .ok (.invokevirtual 32, 3) := by decide +kernel
theorem dX1_size_7 : decode cX1_size 7 = .ok (.ireturn, 1) := by decide +kernel
theorem dX1_sizeOut_0 : decode cX1_sizeOut 0 = .ok (.iconst 0, 1) := by decide +kernel
theorem dX1_sizeOut_1 : decode cX1_sizeOut 1 = .ok (.istore_n 1, 1) := by decide +kernel
theorem dX1_sizeOut_2 : decode cX1_sizeOut 2 = .ok (.iconst 0, 1) := by decide +kernel
theorem dX1_sizeOut_3 : decode cX1_sizeOut 3 = .ok (.istore_n 2, 1) := by decide +kernel
theorem dX1_sizeOut_4 : decode cX1_sizeOut 4 = .ok (.iload_n 2, 1) := by decide +kernel
theorem dX1_sizeOut_5 : decode cX1_sizeOut 5 = .ok (.aload_n 0, 1) := by decide +kernel
theorem dX1_sizeOut_6 : decode cX1_sizeOut 6 = .ok (.getfield 12, 3) := by decide +kernel
theorem dX1_sizeOut_9 : decode cX1_sizeOut 9 = .ok (.invokevirtual 32, 3) := by decide +kernel
theorem dX1_sizeOut_12 : decode cX1_sizeOut 12 = .ok (.if_icmp .ge 29, 3) := by decide +kernel
theorem dX1_sizeOut_15 : decode cX1_sizeOut 15 = .ok (.aload_n 0, 1) := by decide +kernel
theorem dX1_sizeOut_16 : decode cX1_sizeOut 16 = .ok (.getfield 12, 3) := by decide +kernel
theorem dX1_sizeOut_19 : decode cX1_sizeOut 19 = .ok (.iload_n 2, 1) := by decide +kernel
theorem dX1_sizeOut_20 : decode cX1_sizeOut 20 = .ok (.invokevirtual 36, 3) := by decide +kernel
theorem dX1_sizeOut_23 : decode cX1_sizeOut 23 = .ok (.checkcast 40, 3) := by decide +kernel
theorem dX1_sizeOut_26 : decode cX1_sizeOut 26 = .ok (.getfield 42, 3) := by decide +kernel
theorem dX1_sizeOut_29 : decode cX1_sizeOut 29 = .ok (.ifCond .eq 6, 3) := by decide +kernel
theorem dX1_sizeOut_32 : decode cX1_sizeOut 32 = .ok (.iinc 1 1, 3) := by decide +kernel
theorem dX1_sizeOut_35 : decode cX1_sizeOut 35 = .ok (.iinc 2 1, 3) := by decide +kernel
theorem dX1_sizeOut_38 : decode cX1_sizeOut 38 = .ok (.goto (-34), 3) := by decide +kernel
theorem dX1_sizeOut_41 : decode cX1_sizeOut 41 = .ok (.iload_n 1, 1) := by decide +kernel
theorem dX1_sizeOut_42 : decode cX1_sizeOut 42 = .ok (.ireturn, 1) := by decide +kernel
theorem dX1_numbered_0 : decode cX1_numbered 0 = .ok (.iload_n 1, 1) := by decide +kernel
theorem dX1_numbered_1 : decode cX1_numbered 1 = .ok (.ifCond .lt 14, 3) := by decide +kernel
theorem dX1_numbered_4 : decode cX1_numbered 4 = .ok (.iload_n 1, 1) := by decide +kernel
theorem dX1_numbered_5 : decode cX1_numbered 5 = .ok (.aload_n 0, 1) := by decide +kernel
theorem dX1_numbered_6 : decode cX1_numbered 6 = .ok (.getfield 12, 3) := by decide +kernel
theorem dX1_numbered_9 : decode cX1_numbered 9 = .ok (.invokevirtual 32, 3) := by decide +kernel
theorem dX1_numbered_12 : decode cX1_numbered 12 = .ok (.if_icmp .lt 13, 3) := by decide +kernel
theorem dX1_numbered_15 : decode cX1_numbered 15 = .ok (.new 46, 3) := by decide +kernel
theorem dX1_numbered_18 : decode cX1_numbered 18 = .ok (.dup, 1) := by decide +kernel
theorem dX1_numbered_19 : decode cX1_numbered 19 = .ok (.ldc 48, 2) := by decide +kernel
theorem dX1_numbered_21 : decode cX1_numbered 21 = .ok (.invokespecial 50, 3) := by decide +kernel
theorem dX1_numbered_24 : decode cX1_numbered 24 = .ok (.athrow, 1) := by decide +kernel
theorem dX1_numbered_25 : decode cX1_numbered 25 = .ok (.aload_n 0, 1) := by decide +kernel
theorem dX1_numbered_26 : decode cX1_numbered 26 = .ok (.getfield 12, 3) := by decide +kernel
theorem dX1_numbered_29 : decode cX1_numbered 29 = .ok (.iload_n 1, 1) := by decide +kernel
theorem dX1_numbered_30 : decode cX1_numbered 30 = .ok (.invokevirtual 36, 3) := by decide +kernel
theorem dX1_numbered_33 : decode cX1_numbered 33 = .ok (.checkcast 40, 3) := by decide +kernel
theorem dX1_numbered_36 : decode cX1_numbered 36 = .ok (.areturn, 1) := by decide +kernel
theorem dX1_append_0 : decode cX1_append 0 = .ok (.aload_n 0, 1) := by decide +kernel
theorem dX1_append_1 : decode cX1_append 1 = .ok (.getfield 12, 3) := by decide +kernel
theorem dX1_append_4 : decode cX1_append 4 = .ok (.aload_n 1, 1) := by decide +kernel
theorem dX1_append_5 : decode cX1_append 5 = .ok (.invokevirtual 53, 3) := by decide +kernel
theorem dX1_append_8 : decode cX1_append 8 = .ok (.pop, 1) := by decide +kernel
theorem dX1_append_9 : decode cX1_append 9 = .ok (.aload_n 0, 1) := by decide +kernel
theorem dX1_append_10 : decode cX1_append 10 = .ok (.invokevirtual 57, 3) := by decide +kernel
theorem dX1_append_13 : decode cX1_append 13 = .ok (.return_, 1) := by decide +kernel
theorem dX1_drop_0 : decode cX1_drop 0 = .ok (.iload_n 1, 1) := by decide +kernel
theorem dX1_drop_1 : decode cX1_drop 1 = .ok (.ifCond .lt 14, 3) := by decide +kernel
theorem dX1_drop_4 : decode cX1_drop 4 = .ok (.iload_n 1, 1) := by decide +kernel
theorem dX1_drop_5 : decode cX1_drop 5 = .ok (.aload_n 0, 1) := by decide +kernel
theorem dX1_drop_6 : decode cX1_drop 6 = .ok (.getfield 12, 3) := by decide +kernel
theorem dX1_drop_9 : decode cX1_drop 9 = .ok (.invokevirtual 32, 3) := by decide +kernel
theorem dX1_drop_12 : decode cX1_drop 12 = .ok (.if_icmp .lt 13, 3) := by decide +kernel
theorem dX1_drop_15 : decode cX1_drop 15 = .ok (.new 46, 3) := by decide +kernel
theorem dX1_drop_18 : decode cX1_drop 18 = .ok (.dup, 1) := by decide +kernel
theorem dX1_drop_19 : decode cX1_drop 19 = .ok (.ldc 48, 2) := by decide +kernel
theorem dX1_drop_21 : decode cX1_drop 21 = .ok (.invokespecial 50, 3) := by decide +kernel
theorem dX1_drop_24 : decode cX1_drop 24 = .ok (.athrow, 1) := by decide +kernel
theorem dX1_drop_25 : decode cX1_drop 25 = .ok (.aload_n 0, 1) := by decide +kernel
theorem dX1_drop_26 : decode cX1_drop 26 = .ok (.getfield 12, 3) := by decide +kernel
theorem dX1_drop_29 : decode cX1_drop 29 = .ok (.iload_n 1, 1) := by decide +kernel
theorem dX1_drop_30 : decode cX1_drop 30 = .ok (.invokevirtual 60, 3) := by decide +kernel
theorem dX1_drop_33 : decode cX1_drop 33 = .ok (.pop, 1) := by decide +kernel
theorem dX1_drop_34 : decode cX1_drop 34 = .ok (.aload_n 0, 1) := by decide +kernel
theorem dX1_drop_35 : decode cX1_drop 35 = .ok (.invokevirtual 57, 3) := by decide +kernel
theorem dX1_drop_38 : decode cX1_drop 38 = .ok (.return_, 1) := by decide +kernel
theorem dX1_layOut_0 : decode cX1_layOut 0 = .ok (.aload_n 0, 1) := by decide +kernel
theorem dX1_layOut_1 : decode cX1_layOut 1 = .ok (.getfield 18, 3) := by decide +kernel
theorem dX1_layOut_4 : decode cX1_layOut 4 = .ok (.iconst 0, 1) := by decide +kernel
theorem dX1_layOut_5 : decode cX1_layOut 5 = .ok (.invokestatic 63, 3) := by decide +kernel
theorem dX1_layOut_8 : decode cX1_layOut 8 = .ok (.iconst 0, 1) := by decide +kernel
theorem dX1_layOut_9 : decode cX1_layOut 9 = .ok (.istore_n 1, 1) := by decide +kernel
theorem dX1_layOut_10 : decode cX1_layOut 10 = .ok (.iload_n 1, 1) := by decide +kernel
theorem dX1_layOut_11 : decode cX1_layOut 11 = .ok (.aload_n 0, 1) := by decide +kernel
theorem dX1_layOut_12 : decode cX1_layOut 12 = .ok (.getfield 12, 3) := by decide +kernel
theorem dX1_layOut_15 : decode cX1_layOut 15 = .ok (.invokevirtual 32, 3) := by decide +kernel
theorem dX1_layOut_18 : decode cX1_layOut 18 = .ok (.if_icmp .ge 41, 3) := by decide +kernel
theorem dX1_layOut_21 : decode cX1_layOut 21 = .ok (.aload_n 0, 1) := by decide +kernel
theorem dX1_layOut_22 : decode cX1_layOut 22 = .ok (.getfield 12, 3) := by decide +kernel
theorem dX1_layOut_25 : decode cX1_layOut 25 = .ok (.iload_n 1, 1) := by decide +kernel
theorem dX1_layOut_26 : decode cX1_layOut 26 = .ok (.invokevirtual 36, 3) := by decide +kernel
theorem dX1_layOut_29 : decode cX1_layOut 29 = .ok (.checkcast 40, 3) := by decide +kernel
theorem dX1_layOut_32 : decode cX1_layOut 32 = .ok (.getfield 42, 3) := by decide +kernel
theorem dX1_layOut_35 : decode cX1_layOut 35 = .ok (.ifCond .eq 18, 3) := by decide +kernel
theorem dX1_layOut_38 : decode cX1_layOut 38 = .ok (.aload_n 0, 1) := by decide +kernel
theorem dX1_layOut_39 : decode cX1_layOut 39 = .ok (.aload_n 0, 1) := by decide +kernel
theorem dX1_layOut_40 : decode cX1_layOut 40 = .ok (.getfield 12, 3) := by decide +kernel
theorem dX1_layOut_43 : decode cX1_layOut 43 = .ok (.iload_n 1, 1) := by decide +kernel
theorem dX1_layOut_44 : decode cX1_layOut 44 = .ok (.invokevirtual 36, 3) := by decide +kernel
theorem dX1_layOut_47 : decode cX1_layOut 47 = .ok (.checkcast 40, 3) := by decide +kernel
theorem dX1_layOut_50 : decode cX1_layOut 50 = .ok (.invokevirtual 69, 3) := by decide +kernel
theorem dX1_layOut_53 : decode cX1_layOut 53 = .ok (.iinc 1 1, 3) := by decide +kernel
theorem dX1_layOut_56 : decode cX1_layOut 56 = .ok (.goto (-46), 3) := by decide +kernel
theorem dX1_layOut_59 : decode cX1_layOut 59 = .ok (.return_, 1) := by decide +kernel
theorem dX1_layOver_0 : decode cX1_layOver 0 = .ok (.aload_n 1, 1) := by decide +kernel
theorem dX1_layOver_1 : decode cX1_layOver 1 = .ok (.getfield 73, 3) := by decide +kernel
theorem dX1_layOver_4 : decode cX1_layOver 4 = .ok (.istore_n 2, 1) := by decide +kernel
theorem dX1_layOver_5 : decode cX1_layOver 5 = .ok (.iload_n 2, 1) := by decide +kernel
theorem dX1_layOver_6 : decode cX1_layOver 6 = .ok (.aload_n 1, 1) := by decide +kernel
theorem dX1_layOver_7 : decode cX1_layOver 7 = .ok (.getfield 73, 3) := by decide +kernel
theorem dX1_layOver_10 : decode cX1_layOver 10 = .ok (.aload_n 1, 1) := by decide +kernel
theorem dX1_layOver_11 : decode cX1_layOver 11 = .ok (.getfield 76, 3) := by decide +kernel
theorem dX1_layOver_14 : decode cX1_layOver 14 = .ok (.iadd, 1) := by decide +kernel
theorem dX1_layOver_15 : decode cX1_layOver 15 = .ok (.if_icmp .ge 56, 3) := by decide +kernel
theorem dX1_layOver_18 : decode cX1_layOver 18 = .ok (.aload_n 1, 1) := by decide +kernel
theorem dX1_layOver_19 : decode cX1_layOver 19 = .ok (.getfield 79, 3) := by decide +kernel
theorem dX1_layOver_22 : decode cX1_layOver 22 = .ok (.istore_n 3, 1) := by decide +kernel
theorem dX1_layOver_23 : decode cX1_layOver 23 = .ok (.iload_n 3, 1) := by decide +kernel
theorem dX1_layOver_24 : decode cX1_layOver 24 = .ok (.aload_n 1, 1) := by decide +kernel
theorem dX1_layOver_25 : decode cX1_layOver 25 = .ok (.getfield 79, 3) := by decide +kernel
theorem dX1_layOver_28 : decode cX1_layOver 28 = .ok (.aload_n 1, 1) := by decide +kernel
theorem dX1_layOver_29 : decode cX1_layOver 29 = .ok (.getfield 82, 3) := by decide +kernel
theorem dX1_layOver_32 : decode cX1_layOver 32 = .ok (.iadd, 1) := by decide +kernel
theorem dX1_layOver_33 : decode cX1_layOver 33 = .ok (.if_icmp .ge 32, 3) := by decide +kernel
theorem dX1_layOver_36 : decode cX1_layOver 36 = .ok (.iload_n 3, 1) := by decide +kernel
theorem dX1_layOver_37 : decode cX1_layOver 37 = .ok (.iload_n 2, 1) := by decide +kernel
theorem dX1_layOver_38 : decode cX1_layOver 38 = .ok (.invokestatic 85, 3) := by decide +kernel
theorem dX1_layOver_41 : decode cX1_layOver 41 = .ok (.ifCond .eq 18, 3) := by decide +kernel
theorem dX1_layOver_44 : decode cX1_layOver 44 = .ok (.aload_n 0, 1) := by decide +kernel
theorem dX1_layOver_45 : decode cX1_layOver 45 = .ok (.getfield 18, 3) := by decide +kernel
theorem dX1_layOver_48 : decode cX1_layOver 48 = .ok (.iload_n 2, 1) := by decide +kernel
theorem dX1_layOver_49 : decode cX1_layOver 49 = .ok (.bipush 24, 2) := by decide +kernel
theorem dX1_layOver_51 : decode cX1_layOver 51 = .ok (.imul, 1) := by decide +kernel
theorem dX1_layOver_52 : decode cX1_layOver 52 = .ok (.iload_n 3, 1) := by decide +kernel
theorem dX1_layOver_53 : decode cX1_layOver 53 = .ok (.iadd, 1) := by decide +kernel
theorem dX1_layOver_54 : decode cX1_layOver 54 = .ok (.dup2, 1) := by decide +kernel
theorem dX1_layOver_55 : decode cX1_layOver 55 = .ok (.iaload, 1) := by decide +kernel
theorem dX1_layOver_56 : decode cX1_layOver 56 = .ok (.iconst 1, 1) := by decide +kernel
theorem dX1_layOver_57 : decode cX1_layOver 57 = .ok (.iadd, 1) := by decide +kernel
theorem dX1_layOver_58 : decode cX1_layOver 58 = .ok (.iastore, 1) := by decide +kernel
theorem dX1_layOver_59 : decode cX1_layOver 59 = .ok (.iinc 3 1, 3) := by decide +kernel
theorem dX1_layOver_62 : decode cX1_layOver 62 = .ok (.goto (-39), 3) := by decide +kernel
theorem dX1_layOver_65 : decode cX1_layOver 65 = .ok (.iinc 2 1, 3) := by decide +kernel
theorem dX1_layOver_68 : decode cX1_layOver 68 = .ok (.goto (-63), 3) := by decide +kernel
theorem dX1_layOver_71 : decode cX1_layOver 71 = .ok (.return_, 1) := by decide +kernel
theorem dX1_layersAt_0 : decode cX1_layersAt 0 = .ok (.iload_n 1, 1) := by decide +kernel
theorem dX1_layersAt_1 : decode cX1_layersAt 1 = .ok (.iload_n 2, 1) := by decide +kernel
theorem dX1_layersAt_2 : decode cX1_layersAt 2 = .ok (.invokestatic 85, 3) := by decide +kernel
theorem dX1_layersAt_5 : decode cX1_layersAt 5 = .ok (.ifCond .eq 17, 3) := by decide +kernel
theorem dX1_layersAt_8 : decode cX1_layersAt 8 = .ok (.aload_n 0, 1) := by decide +kernel
theorem dX1_layersAt_9 : decode cX1_layersAt 9 = .ok (.getfield 18, 3) := by decide +kernel
theorem dX1_layersAt_12 : decode cX1_layersAt 12 = .ok (.iload_n 2, 1) := by decide +kernel
theorem dX1_layersAt_13 : decode cX1_layersAt 13 = .ok (.bipush 24, 2) := by decide +kernel
theorem dX1_layersAt_15 : decode cX1_layersAt 15 = .ok (.imul, 1) := by decide +kernel
theorem dX1_layersAt_16 : decode cX1_layersAt 16 = .ok (.iload_n 1, 1) := by decide +kernel
theorem dX1_layersAt_17 : decode cX1_layersAt 17 = .ok (.iadd, 1) := by decide +kernel
theorem dX1_layersAt_18 : decode cX1_layersAt 18 = .ok (.iaload, 1) := by decide +kernel
theorem dX1_layersAt_19 : decode cX1_layersAt 19 = .ok (.goto 4, 3) := by decide +kernel
theorem dX1_layersAt_22 : decode cX1_layersAt 22 = .ok (.iconst 0, 1) := by decide +kernel
theorem dX1_layersAt_23 : decode cX1_layersAt 23 = .ok (.ireturn, 1) := by decide +kernel
theorem dX1_highestBelow_0 : decode cX1_highestBelow 0 = .ok (.iconst (-1), 1) := by decide +kernel
theorem dX1_highestBelow_1 : decode cX1_highestBelow 1 = .ok (.istore 4, 2) := by decide +kernel
theorem dX1_highestBelow_3 : decode cX1_highestBelow 3 = .ok (.iconst 0, 1) := by decide +kernel
theorem dX1_highestBelow_4 : decode cX1_highestBelow 4 = .ok (.istore 5, 2) := by decide +kernel
theorem dX1_highestBelow_6 : decode cX1_highestBelow 6 = .ok (.iconst 0, 1) := by decide +kernel
theorem dX1_highestBelow_7 : decode cX1_highestBelow 7 = .ok (.istore 6, 2) := by decide +kernel
theorem dX1_highestBelow_9 : decode cX1_highestBelow 9 = .ok (.iload 6, 2) := by decide +kernel
theorem dX1_highestBelow_11 : decode cX1_highestBelow 11 = .ok (.aload_n 0, 1) := by decide +kernel
theorem dX1_highestBelow_12 : decode cX1_highestBelow 12 = .ok (.getfield 12, 3) := by decide +kernel
theorem dX1_highestBelow_15 : decode cX1_highestBelow 15 = .ok (.invokevirtual 32, 3) := by decide +kernel
theorem dX1_highestBelow_18 : decode cX1_highestBelow 18 = .ok (.if_icmp .ge 63, 3) := by decide +kernel
theorem dX1_highestBelow_21 : decode cX1_highestBelow 21 = .ok (.aload_n 0, 1) := by decide +kernel
theorem dX1_highestBelow_22 : decode cX1_highestBelow 22 = .ok (.getfield 12, 3) := by decide +kernel
theorem dX1_highestBelow_25 : decode cX1_highestBelow 25 = .ok (.iload 6, 2) := by decide +kernel
theorem dX1_highestBelow_27 : decode cX1_highestBelow 27 = .ok (.invokevirtual 36, 3) := by decide +kernel
theorem dX1_highestBelow_30 : decode cX1_highestBelow 30 = .ok (.checkcast 40, 3) := by decide +kernel
theorem dX1_highestBelow_33 : decode cX1_highestBelow 33 = .ok (.astore 7, 2) := by decide +kernel
theorem dX1_highestBelow_35 : decode cX1_highestBelow 35 = .ok (.aload 7, 2) := by decide +kernel
theorem dX1_highestBelow_37 : decode cX1_highestBelow 37 = .ok (.getfield 89, 3) := by decide +kernel
theorem dX1_highestBelow_40 : decode cX1_highestBelow 40 = .ok (.iload_n 1, 1) := by decide +kernel
theorem dX1_highestBelow_41 : decode cX1_highestBelow 41 = .ok (.if_icmp .ge 34, 3) := by decide +kernel
theorem dX1_highestBelow_44 : decode cX1_highestBelow 44 = .ok (.aload 7, 2) := by decide +kernel
theorem dX1_highestBelow_46 : decode cX1_highestBelow 46 = .ok (.getfield 89, 3) := by decide +kernel
theorem dX1_highestBelow_49 : decode cX1_highestBelow 49 = .ok (.iload 5, 2) := by decide +kernel
theorem dX1_highestBelow_51 : decode cX1_highestBelow 51 = .ok (.if_icmp .le 24, 3) := by decide +kernel
theorem dX1_highestBelow_54 : decode cX1_highestBelow 54 = .ok (.aload 7, 2) := by decide +kernel
theorem dX1_highestBelow_56 : decode cX1_highestBelow 56 = .ok (.iload_n 2, 1) := by decide +kernel
theorem dX1_highestBelow_57 : decode cX1_highestBelow 57 = .ok (.iload_n 3, 1) := by decide +kernel
theorem dX1_highestBelow_58 : decode cX1_highestBelow 58 = .ok (.invokevirtual 92, 3) := by decide +kernel
theorem dX1_highestBelow_61 : decode cX1_highestBelow 61 = .ok (.ifCond .eq 14, 3) := by decide +kernel
theorem dX1_highestBelow_64 : decode cX1_highestBelow 64 = .ok (.iload 6, 2) := by decide +kernel
theorem dX1_highestBelow_66 : decode cX1_highestBelow 66 = .ok (.istore 4, 2) := by decide +kernel
theorem dX1_highestBelow_68 : decode cX1_highestBelow 68 = .ok (.aload 7, 2) := by decide +kernel
theorem dX1_highestBelow_70 : decode cX1_highestBelow 70 = .ok (.getfield 89, 3) := by decide +kernel
theorem dX1_highestBelow_73 : decode cX1_highestBelow 73 = .ok (.istore 5, 2) := by decide +kernel
theorem dX1_highestBelow_75 : decode cX1_highestBelow 75 = .ok (.iinc 6 1, 3) := by decide +kernel
theorem dX1_highestBelow_78 : decode cX1_highestBelow 78 = .ok (.goto (-69), 3) := by decide +kernel
theorem dX1_highestBelow_81 : decode cX1_highestBelow 81 = .ok (.iload 4, 2) := by decide +kernel
theorem dX1_highestBelow_83 : decode cX1_highestBelow 83 = .ok (.ireturn, 1) := by decide +kernel
theorem dX1_covered_0 : decode cX1_covered 0 = .ok (.aload_n 0, 1) := by decide +kernel
theorem dX1_covered_1 : decode cX1_covered 1 = .ok (.iconst 1, 1) := by decide +kernel
theorem dX1_covered_2 : decode cX1_covered 2 = .ok (.invokevirtual 95, 3) := by decide +kernel
theorem dX1_covered_5 : decode cX1_covered 5 = .ok (.ireturn, 1) := by decide +kernel
theorem dX1_cellsWithLayers_0 : decode cX1_cellsWithLayers 0 = .ok (.iconst 0, 1) := by decide +kernel
theorem dX1_cellsWithLayers_1 : decode cX1_cellsWithLayers 1 = .ok (.istore_n 2, 1) := by decide +kernel
theorem dX1_cellsWithLayers_2 : decode cX1_cellsWithLayers 2 = .ok (.iconst 0, 1) := by decide +kernel
theorem dX1_cellsWithLayers_3 : decode cX1_cellsWithLayers 3 = .ok (.istore_n 3, 1) := by decide +kernel
theorem dX1_cellsWithLayers_4 : decode cX1_cellsWithLayers 4 = .ok (.iload_n 3, 1) := by decide +kernel
theorem dX1_cellsWithLayers_5 : decode cX1_cellsWithLayers 5 = .ok (.sipush 576, 3) := by decide +kernel
theorem dX1_cellsWithLayers_8 : decode cX1_cellsWithLayers 8 = .ok (.if_icmp .ge 22, 3) := by decide +kernel
theorem dX1_cellsWithLayers_11 : decode cX1_cellsWithLayers 11 = .ok (.aload_n 0, 1) := by decide +kernel
theorem dX1_cellsWithLayers_12 : decode cX1_cellsWithLayers 12 = .ok (.getfield 18, 3) := by decide +kernel
theorem dX1_cellsWithLayers_15 : decode cX1_cellsWithLayers 15 = .ok (.iload_n 3, 1) := by decide +kernel
theorem dX1_cellsWithLayers_16 : decode cX1_cellsWithLayers 16 = .ok (.iaload, 1) := by decide +kernel
theorem dX1_cellsWithLayers_17 : decode cX1_cellsWithLayers 17 = .ok (.iload_n 1, 1) := by decide +kernel
theorem dX1_cellsWithLayers_18 : decode cX1_cellsWithLayers 18 = .ok (.if_icmp .lt 6, 3) := by decide +kernel
theorem dX1_cellsWithLayers_21 : decode cX1_cellsWithLayers 21 = .ok (.iinc 2 1, 3) := by decide +kernel
theorem dX1_cellsWithLayers_24 : decode cX1_cellsWithLayers 24 = .ok (.iinc 3 1, 3) := by decide +kernel
theorem dX1_cellsWithLayers_27 : decode cX1_cellsWithLayers 27 = .ok (.goto (-23), 3) := by decide +kernel
theorem dX1_cellsWithLayers_30 : decode cX1_cellsWithLayers 30 = .ok (.iload_n 2, 1) := by decide +kernel
theorem dX1_cellsWithLayers_31 : decode cX1_cellsWithLayers 31 = .ok (.ireturn, 1) := by decide +kernel
theorem dX1_coveredOnlyBy_0 : decode cX1_coveredOnlyBy 0 = .ok (.aload_n 1, 1) := by decide +kernel
theorem dX1_coveredOnlyBy_1 : decode cX1_coveredOnlyBy 1 = .ok (.getfield 42, 3) := by decide +kernel
theorem dX1_coveredOnlyBy_4 : decode cX1_coveredOnlyBy 4 = .ok (.ifCond .ne 5, 3) := by decide +kernel
theorem dX1_coveredOnlyBy_7 : decode cX1_coveredOnlyBy 7 = .ok (.iconst 0, 1) := by decide +kernel
theorem dX1_coveredOnlyBy_8 : decode cX1_coveredOnlyBy 8 = .ok (.ireturn, 1) := by decide +kernel
theorem dX1_coveredOnlyBy_9 : decode cX1_coveredOnlyBy 9 = .ok (.iconst 0, 1) := by decide +kernel
theorem dX1_coveredOnlyBy_10 : decode cX1_coveredOnlyBy 10 = .ok (.istore_n 2, 1) := by decide +kernel
theorem dX1_coveredOnlyBy_11 : decode cX1_coveredOnlyBy 11 = .ok (.aload_n 1, 1) := by decide +kernel
theorem dX1_coveredOnlyBy_12 : decode cX1_coveredOnlyBy 12 = .ok (.getfield 73, 3) := by decide +kernel
theorem dX1_coveredOnlyBy_15 : decode cX1_coveredOnlyBy 15 = .ok (.istore_n 3, 1) := by decide +kernel
theorem dX1_coveredOnlyBy_16 : decode cX1_coveredOnlyBy 16 = .ok (.iload_n 3, 1) := by decide +kernel
theorem dX1_coveredOnlyBy_17 : decode cX1_coveredOnlyBy 17 = .ok (.aload_n 1, 1) := by decide +kernel
theorem dX1_coveredOnlyBy_18 : decode cX1_coveredOnlyBy 18 = .ok (.getfield 73, 3) := by decide +kernel
theorem dX1_coveredOnlyBy_21 : decode cX1_coveredOnlyBy 21 = .ok (.aload_n 1, 1) := by decide +kernel
theorem dX1_coveredOnlyBy_22 : decode cX1_coveredOnlyBy 22 = .ok (.getfield 76, 3) := by decide +kernel
theorem dX1_coveredOnlyBy_25 : decode cX1_coveredOnlyBy 25 = .ok (.iadd, 1) := by decide +kernel
theorem dX1_coveredOnlyBy_26 : decode cX1_coveredOnlyBy 26 = .ok (.if_icmp .ge 49, 3) := by decide +kernel
theorem dX1_coveredOnlyBy_29 : decode cX1_coveredOnlyBy 29 = .ok (.aload_n 1, 1) := by decide +kernel
theorem dX1_coveredOnlyBy_30 : decode cX1_coveredOnlyBy 30 = .ok (.getfield 79, 3) := by decide +kernel
theorem dX1_coveredOnlyBy_33 : decode cX1_coveredOnlyBy 33 = .ok (.istore 4, 2) := by decide +kernel
theorem dX1_coveredOnlyBy_35 : decode cX1_coveredOnlyBy 35 = .ok (.iload 4, 2) := by decide +kernel
theorem dX1_coveredOnlyBy_37 : decode cX1_coveredOnlyBy 37 = .ok (.aload_n 1, 1) := by decide +kernel
theorem dX1_coveredOnlyBy_38 : decode cX1_coveredOnlyBy 38 = .ok (.getfield 79, 3) := by decide +kernel
theorem dX1_coveredOnlyBy_41 : decode cX1_coveredOnlyBy 41 = .ok (.aload_n 1, 1) := by decide +kernel
theorem dX1_coveredOnlyBy_42 : decode cX1_coveredOnlyBy 42 = .ok (.getfield 82, 3) := by decide +kernel
theorem dX1_coveredOnlyBy_45 : decode cX1_coveredOnlyBy 45 = .ok (.iadd, 1) := by decide +kernel
theorem dX1_coveredOnlyBy_46 : decode cX1_coveredOnlyBy 46 = .ok (.if_icmp .ge 23, 3) := by decide +kernel
theorem dX1_coveredOnlyBy_49 : decode cX1_coveredOnlyBy 49 = .ok (.aload_n 0, 1) := by decide +kernel
theorem dX1_coveredOnlyBy_50 : decode cX1_coveredOnlyBy 50 = .ok (.iload 4, 2) := by decide +kernel
theorem dX1_coveredOnlyBy_52 : decode cX1_coveredOnlyBy 52 = .ok (.iload_n 3, 1) := by decide +kernel
theorem dX1_coveredOnlyBy_53 : decode cX1_coveredOnlyBy 53 = .ok (.invokevirtual 99, 3) := by decide +kernel
theorem dX1_coveredOnlyBy_56 : decode cX1_coveredOnlyBy 56 = .ok (.iconst 1, 1) := by decide +kernel
theorem dX1_coveredOnlyBy_57 : decode cX1_coveredOnlyBy 57 = .ok (.if_icmp .ne 6, 3) := by decide +kernel
theorem dX1_coveredOnlyBy_60 : decode cX1_coveredOnlyBy 60 = .ok (.iinc 2 1, 3) := by decide +kernel
theorem dX1_coveredOnlyBy_63 : decode cX1_coveredOnlyBy 63 = .ok (.iinc 4 1, 3) := by decide +kernel
theorem dX1_coveredOnlyBy_66 : decode cX1_coveredOnlyBy 66 = .ok (.goto (-31), 3) := by decide +kernel
theorem dX1_coveredOnlyBy_69 : decode cX1_coveredOnlyBy 69 = .ok (.iinc 3 1, 3) := by decide +kernel
theorem dX1_coveredOnlyBy_72 : decode cX1_coveredOnlyBy 72 = .ok (.goto (-56), 3) := by decide +kernel
theorem dX1_coveredOnlyBy_75 : decode cX1_coveredOnlyBy 75 = .ok (.iload_n 2, 1) := by decide +kernel
theorem dX1_coveredOnlyBy_76 : decode cX1_coveredOnlyBy 76 = .ok (.ireturn, 1) := by decide +kernel
theorem dX1_outline_0 : decode cX1_outline 0 = .ok (.iconst 0, 1) := by decide +kernel
theorem dX1_outline_1 : decode cX1_outline 1 = .ok (.istore_n 1, 1) := by decide +kernel
theorem dX1_outline_2 : decode cX1_outline 2 = .ok (.iconst 0, 1) := by decide +kernel
theorem dX1_outline_3 : decode cX1_outline 3 = .ok (.istore_n 2, 1) := by decide +kernel
theorem dX1_outline_4 : decode cX1_outline 4 = .ok (.iload_n 2, 1) := by decide +kernel
theorem dX1_outline_5 : decode cX1_outline 5 = .ok (.bipush 24, 2) := by decide +kernel
theorem dX1_outline_7 : decode cX1_outline 7 = .ok (.if_icmp .ge 41, 3) := by decide +kernel
theorem dX1_outline_10 : decode cX1_outline 10 = .ok (.iconst 0, 1) := by decide +kernel
theorem dX1_outline_11 : decode cX1_outline 11 = .ok (.istore_n 3, 1) := by decide +kernel
theorem dX1_outline_12 : decode cX1_outline 12 = .ok (.iload_n 3, 1) := by decide +kernel
theorem dX1_outline_13 : decode cX1_outline 13 = .ok (.bipush 24, 2) := by decide +kernel
theorem dX1_outline_15 : decode cX1_outline 15 = .ok (.if_icmp .ge 27, 3) := by decide +kernel
theorem dX1_outline_18 : decode cX1_outline 18 = .ok (.aload_n 0, 1) := by decide +kernel
theorem dX1_outline_19 : decode cX1_outline 19 = .ok (.iload_n 3, 1) := by decide +kernel
theorem dX1_outline_20 : decode cX1_outline 20 = .ok (.iload_n 2, 1) := by decide +kernel
theorem dX1_outline_21 : decode cX1_outline 21 = .ok (.invokevirtual 99, 3) := by decide +kernel
theorem dX1_outline_24 : decode cX1_outline 24 = .ok (.ifCond .le 12, 3) := by decide +kernel
theorem dX1_outline_27 : decode cX1_outline 27 = .ok (.iload_n 1, 1) := by decide +kernel
theorem dX1_outline_28 : decode cX1_outline 28 = .ok (.aload_n 0, 1) := by decide +kernel
theorem dX1_outline_29 : decode cX1_outline 29 = .ok (.iload_n 3, 1) := by decide +kernel
theorem dX1_outline_30 : decode cX1_outline 30 = .ok (.iload_n 2, 1) := by decide +kernel
theorem dX1_outline_31 : decode cX1_outline 31 = .ok (.invokevirtual 103, 3) := by decide +kernel
theorem dX1_outline_34 : decode cX1_outline 34 = .ok (.iadd, 1) := by decide +kernel
theorem dX1_outline_35 : decode cX1_outline 35 = .ok (.istore_n 1, 1) := by decide +kernel
theorem dX1_outline_36 : decode cX1_outline 36 = .ok (.iinc 3 1, 3) := by decide +kernel
theorem dX1_outline_39 : decode cX1_outline 39 = .ok (.goto (-27), 3) := by decide +kernel
theorem dX1_outline_42 : decode cX1_outline 42 = .ok (.iinc 2 1, 3) := by decide +kernel
theorem dX1_outline_45 : decode cX1_outline 45 = .ok (.goto (-41), 3) := by decide +kernel
theorem dX1_outline_48 : decode cX1_outline 48 = .ok (.iload_n 1, 1) := by decide +kernel
theorem dX1_outline_49 : decode cX1_outline 49 = .ok (.ireturn, 1) := by decide +kernel
theorem dX1_openSides_0 : decode cX1_openSides 0 = .ok (.aload_n 0, 1) := by decide +kernel
theorem dX1_openSides_1 : decode cX1_openSides 1 = .ok (.iload_n 1, 1) := by decide +kernel
theorem dX1_openSides_2 : decode cX1_openSides 2 = .ok (.iconst 1, 1) := by decide +kernel
theorem dX1_openSides_3 : decode cX1_openSides 3 = .ok (.isub, 1) := by decide +kernel
theorem dX1_openSides_4 : decode cX1_openSides 4 = .ok (.iload_n 2, 1) := by decide +kernel
theorem dX1_openSides_5 : decode cX1_openSides 5 = .ok (.invokevirtual 106, 3) := by decide +kernel
theorem dX1_openSides_8 : decode cX1_openSides 8 = .ok (.aload_n 0, 1) := by decide +kernel
theorem dX1_openSides_9 : decode cX1_openSides 9 = .ok (.iload_n 1, 1) := by decide +kernel
theorem dX1_openSides_10 : decode cX1_openSides 10 = .ok (.iload_n 2, 1) := by decide +kernel
theorem dX1_openSides_11 : decode cX1_openSides 11 = .ok (.iconst 1, 1) := by decide +kernel
theorem dX1_openSides_12 : decode cX1_openSides 12 = .ok (.isub, 1) := by decide +kernel
theorem dX1_openSides_13 : decode cX1_openSides 13 = .ok (.invokevirtual 106, 3) := by decide +kernel
theorem dX1_openSides_16 : decode cX1_openSides 16 = .ok (.iadd, 1) := by decide +kernel
theorem dX1_openSides_17 : decode cX1_openSides 17 = .ok (.aload_n 0, 1) := by decide +kernel
theorem dX1_openSides_18 : decode cX1_openSides 18 = .ok (.iload_n 1, 1) := by decide +kernel
theorem dX1_openSides_19 : decode cX1_openSides 19 = .ok (.iconst 1, 1) := by decide +kernel
theorem dX1_openSides_20 : decode cX1_openSides 20 = .ok (.iadd, 1) := by decide +kernel
theorem dX1_openSides_21 : decode cX1_openSides 21 = .ok (.iload_n 2, 1) := by decide +kernel
theorem dX1_openSides_22 : decode cX1_openSides 22 = .ok (.invokevirtual 106, 3) := by decide +kernel
theorem dX1_openSides_25 : decode cX1_openSides 25 = .ok (.iadd, 1) := by decide +kernel
theorem dX1_openSides_26 : decode cX1_openSides 26 = .ok (.aload_n 0, 1) := by decide +kernel
theorem dX1_openSides_27 : decode cX1_openSides 27 = .ok (.iload_n 1, 1) := by decide +kernel
theorem dX1_openSides_28 : decode cX1_openSides 28 = .ok (.iload_n 2, 1) := by decide +kernel
theorem dX1_openSides_29 : decode cX1_openSides 29 = .ok (.iconst 1, 1) := by decide +kernel
theorem dX1_openSides_30 : decode cX1_openSides 30 = .ok (.iadd, 1) := by decide +kernel
theorem dX1_openSides_31 : decode cX1_openSides 31 = .ok (.invokevirtual 106, 3) := by decide +kernel
theorem dX1_openSides_34 : decode cX1_openSides 34 = .ok (.iadd, 1) := by decide +kernel
theorem dX1_openSides_35 : decode cX1_openSides 35 = .ok (.ireturn, 1) := by decide +kernel
theorem dX1_openAt_0 : decode cX1_openAt 0 = .ok (.aload_n 0, 1) := by decide +kernel
theorem dX1_openAt_1 : decode cX1_openAt 1 = .ok (.iload_n 1, 1) := by decide +kernel
theorem dX1_openAt_2 : decode cX1_openAt 2 = .ok (.iload_n 2, 1) := by decide +kernel
theorem dX1_openAt_3 : decode cX1_openAt 3 = .ok (.invokevirtual 99, 3) := by decide +kernel
theorem dX1_openAt_6 : decode cX1_openAt 6 = .ok (.ifCond .ne 7, 3) := by decide +kernel
theorem dX1_openAt_9 : decode cX1_openAt 9 = .ok (.iconst 1, 1) := by decide +kernel
theorem dX1_openAt_10 : decode cX1_openAt 10 = .ok (.goto 4, 3) := by decide +kernel
theorem dX1_openAt_13 : decode cX1_openAt 13 = .ok (.iconst 0, 1) := by decide +kernel
theorem dX1_openAt_14 : decode cX1_openAt 14 = .ok (.ireturn, 1) := by decide +kernel
theorem dX1_parts_0 : decode cX1_parts 0 = .ok (.aload_n 0, 1) := by decide +kernel
theorem dX1_parts_1 : decode cX1_parts 1 = .ok (.getfield 22, 3) := by decide +kernel
theorem dX1_parts_4 : decode cX1_parts 4 = .ok (.iconst 0, 1) := by decide +kernel
theorem dX1_parts_5 : decode cX1_parts 5 = .ok (.invokestatic 63, 3) := by decide +kernel
theorem dX1_parts_8 : decode cX1_parts 8 = .ok (.iconst 0, 1) := by decide +kernel
theorem dX1_parts_9 : decode cX1_parts 9 = .ok (.istore_n 1, 1) := by decide +kernel
theorem dX1_parts_10 : decode cX1_parts 10 = .ok (.iconst 0, 1) := by decide +kernel
theorem dX1_parts_11 : decode cX1_parts 11 = .ok (.istore_n 2, 1) := by decide +kernel
theorem dX1_parts_12 : decode cX1_parts 12 = .ok (.iload_n 2, 1) := by decide +kernel
theorem dX1_parts_13 : decode cX1_parts 13 = .ok (.bipush 24, 2) := by decide +kernel
theorem dX1_parts_15 : decode cX1_parts 15 = .ok (.if_icmp .ge 48, 3) := by decide +kernel
theorem dX1_parts_18 : decode cX1_parts 18 = .ok (.iconst 0, 1) := by decide +kernel
theorem dX1_parts_19 : decode cX1_parts 19 = .ok (.istore_n 3, 1) := by decide +kernel
theorem dX1_parts_20 : decode cX1_parts 20 = .ok (.iload_n 3, 1) := by decide +kernel
theorem dX1_parts_21 : decode cX1_parts 21 = .ok (.bipush 24, 2) := by decide +kernel
theorem dX1_parts_23 : decode cX1_parts 23 = .ok (.if_icmp .ge 34, 3) := by decide +kernel
theorem dX1_parts_26 : decode cX1_parts 26 = .ok (.aload_n 0, 1) := by decide +kernel
theorem dX1_parts_27 : decode cX1_parts 27 = .ok (.iconst 0, 1) := by decide +kernel
theorem dX1_parts_28 : decode cX1_parts 28 = .ok (.putfield 28, 3) := by decide +kernel
theorem dX1_parts_31 : decode cX1_parts 31 = .ok (.aload_n 0, 1) := by decide +kernel
theorem dX1_parts_32 : decode cX1_parts 32 = .ok (.iload_n 3, 1) := by decide +kernel
theorem dX1_parts_33 : decode cX1_parts 33 = .ok (.iload_n 2, 1) := by decide +kernel
theorem dX1_parts_34 : decode cX1_parts 34 = .ok (.invokevirtual 109, 3) := by decide +kernel
theorem dX1_parts_37 : decode cX1_parts 37 = .ok (.aload_n 0, 1) := by decide +kernel
theorem dX1_parts_38 : decode cX1_parts 38 = .ok (.getfield 28, 3) := by decide +kernel
theorem dX1_parts_41 : decode cX1_parts 41 = .ok (.ifCond .le 10, 3) := by decide +kernel
theorem dX1_parts_44 : decode cX1_parts 44 = .ok (.iinc 1 1, 3) := by decide +kernel
theorem dX1_parts_47 : decode cX1_parts 47 = .ok (.aload_n 0, 1) := by decide +kernel
theorem dX1_parts_48 : decode cX1_parts 48 = .ok (.invokevirtual 113, 3) := by decide +kernel
theorem dX1_parts_51 : decode cX1_parts 51 = .ok (.iinc 3 1, 3) := by decide +kernel
theorem dX1_parts_54 : decode cX1_parts 54 = .ok (.goto (-34), 3) := by decide +kernel
theorem dX1_parts_57 : decode cX1_parts 57 = .ok (.iinc 2 1, 3) := by decide +kernel
theorem dX1_parts_60 : decode cX1_parts 60 = .ok (.goto (-48), 3) := by decide +kernel
theorem dX1_parts_63 : decode cX1_parts 63 = .ok (.iload_n 1, 1) := by decide +kernel
theorem dX1_parts_64 : decode cX1_parts 64 = .ok (.ireturn, 1) := by decide +kernel
theorem dX1_reachAllFromQueue_0 : decode cX1_reachAllFromQueue 0 = .ok (.iconst 0, 1) := by decide +kernel
theorem dX1_reachAllFromQueue_1 : decode cX1_reachAllFromQueue 1 = .ok (.istore_n 1, 1) := by decide +kernel
theorem dX1_reachAllFromQueue_2 : decode cX1_reachAllFromQueue 2 = .ok (.iload_n 1, 1) := by decide +kernel
theorem dX1_reachAllFromQueue_3 : decode cX1_reachAllFromQueue 3 = .ok (.aload_n 0, 1) := by decide +kernel
theorem dX1_reachAllFromQueue_4 : decode cX1_reachAllFromQueue 4 = .ok (.getfield 28, 3) := by decide +kernel
theorem dX1_reachAllFromQueue_7 : decode cX1_reachAllFromQueue 7 = .ok (.if_icmp .ge 68, 3) := by decide +kernel
theorem dX1_reachAllFromQueue_10 : decode cX1_reachAllFromQueue 10 = .ok (.iload_n 1, 1) := by decide +kernel
theorem dX1_reachAllFromQueue_11 : decode cX1_reachAllFromQueue 11 = .ok (.sipush 576, 3) := by decide +kernel
theorem dX1_reachAllFromQueue_14 : decode cX1_reachAllFromQueue 14 = .ok (.if_icmp .ge 61, 3) := by decide +kernel
theorem dX1_reachAllFromQueue_17 : decode cX1_reachAllFromQueue 17 = .ok (.aload_n 0, 1) := by decide +kernel
theorem dX1_reachAllFromQueue_18 : decode cX1_reachAllFromQueue 18 = .ok (.getfield 25, 3) := by decide +kernel
theorem dX1_reachAllFromQueue_21 : decode cX1_reachAllFromQueue 21 = .ok (.iload_n 1, 1) := by decide +kernel
theorem dX1_reachAllFromQueue_22 : decode cX1_reachAllFromQueue 22 = .ok (.iaload, 1) := by decide +kernel
theorem dX1_reachAllFromQueue_23 : decode cX1_reachAllFromQueue 23 = .ok (.bipush 24, 2) := by decide +kernel
theorem dX1_reachAllFromQueue_25 : decode cX1_reachAllFromQueue 25 = .ok (.irem, 1) := by decide +kernel
theorem dX1_reachAllFromQueue_26 : decode cX1_reachAllFromQueue 26 = .ok (.istore_n 2, 1) := by decide +kernel
theorem dX1_reachAllFromQueue_27 : decode cX1_reachAllFromQueue 27 = .ok (.aload_n 0, 1) := by decide +kernel
theorem dX1_reachAllFromQueue_28 : decode cX1_reachAllFromQueue 28 = .ok (.getfield 25, 3) := by decide +kernel
theorem dX1_reachAllFromQueue_31 : decode cX1_reachAllFromQueue 31 = .ok (.iload_n 1, 1) := by decide +kernel
theorem dX1_reachAllFromQueue_32 : decode cX1_reachAllFromQueue 32 = .ok (.iaload, 1) := by decide +kernel
theorem dX1_reachAllFromQueue_33 : decode cX1_reachAllFromQueue 33 = .ok (.bipush 24, 2) := by decide +kernel
theorem dX1_reachAllFromQueue_35 : decode cX1_reachAllFromQueue 35 = .ok (.idiv, 1) := by decide +kernel
theorem dX1_reachAllFromQueue_36 : decode cX1_reachAllFromQueue 36 = .ok (.istore_n 3, 1) := by decide +kernel
theorem dX1_reachAllFromQueue_37 : decode cX1_reachAllFromQueue 37 = .ok (.aload_n 0, 1) := by decide +kernel
theorem dX1_reachAllFromQueue_38 : decode cX1_reachAllFromQueue 38 = .ok (.iload_n 2, 1) := by decide +kernel
theorem dX1_reachAllFromQueue_39 : decode cX1_reachAllFromQueue 39 = .ok (.iconst 1, 1) := by decide +kernel
theorem dX1_reachAllFromQueue_40 : decode cX1_reachAllFromQueue 40 = .ok (.isub, 1) := by decide +kernel
theorem dX1_reachAllFromQueue_41 : decode cX1_reachAllFromQueue 41 = .ok (.iload_n 3, 1) := by decide +kernel
theorem dX1_reachAllFromQueue_42 : decode cX1_reachAllFromQueue 42 = .ok (.invokevirtual 109, 3) := by decide +kernel
theorem dX1_reachAllFromQueue_45 : decode cX1_reachAllFromQueue 45 = .ok (.aload_n 0, 1) := by decide +kernel
theorem dX1_reachAllFromQueue_46 : decode cX1_reachAllFromQueue 46 = .ok (.iload_n 2, 1) := by decide +kernel
theorem dX1_reachAllFromQueue_47 : decode cX1_reachAllFromQueue 47 = .ok (.iload_n 3, 1) := by decide +kernel
theorem dX1_reachAllFromQueue_48 : decode cX1_reachAllFromQueue 48 = .ok (.iconst 1, 1) := by decide +kernel
theorem dX1_reachAllFromQueue_49 : decode cX1_reachAllFromQueue 49 = .ok (.isub, 1) := by decide +kernel
theorem dX1_reachAllFromQueue_50 : decode cX1_reachAllFromQueue 50 = .ok (.invokevirtual 109, 3) := by decide +kernel
theorem dX1_reachAllFromQueue_53 : decode cX1_reachAllFromQueue 53 = .ok (.aload_n 0, 1) := by decide +kernel
theorem dX1_reachAllFromQueue_54 : decode cX1_reachAllFromQueue 54 = .ok (.iload_n 2, 1) := by decide +kernel
theorem dX1_reachAllFromQueue_55 : decode cX1_reachAllFromQueue 55 = .ok (.iconst 1, 1) := by decide +kernel
theorem dX1_reachAllFromQueue_56 : decode cX1_reachAllFromQueue 56 = .ok (.iadd, 1) := by decide +kernel
theorem dX1_reachAllFromQueue_57 : decode cX1_reachAllFromQueue 57 = .ok (.iload_n 3, 1) := by decide +kernel
theorem dX1_reachAllFromQueue_58 : decode cX1_reachAllFromQueue 58 = .ok (.invokevirtual 109, 3) := by decide +kernel
theorem dX1_reachAllFromQueue_61 : decode cX1_reachAllFromQueue 61 = .ok (.aload_n 0, 1) := by decide +kernel
theorem dX1_reachAllFromQueue_62 : decode cX1_reachAllFromQueue 62 = .ok (.iload_n 2, 1) := by decide +kernel
theorem dX1_reachAllFromQueue_63 : decode cX1_reachAllFromQueue 63 = .ok (.iload_n 3, 1) := by decide +kernel
theorem dX1_reachAllFromQueue_64 : decode cX1_reachAllFromQueue 64 = .ok (.iconst 1, 1) := by decide +kernel
theorem dX1_reachAllFromQueue_65 : decode cX1_reachAllFromQueue 65 = .ok (.iadd, 1) := by decide +kernel
theorem dX1_reachAllFromQueue_66 : decode cX1_reachAllFromQueue 66 = .ok (.invokevirtual 109, 3) := by decide +kernel
theorem dX1_reachAllFromQueue_69 : decode cX1_reachAllFromQueue 69 = .ok (.iinc 1 1, 3) := by decide +kernel
theorem dX1_reachAllFromQueue_72 : decode cX1_reachAllFromQueue 72 = .ok (.goto (-70), 3) := by decide +kernel
theorem dX1_reachAllFromQueue_75 : decode cX1_reachAllFromQueue 75 = .ok (.return_, 1) := by decide +kernel
theorem dX1_reach_0 : decode cX1_reach 0 = .ok (.aload_n 0, 1) := by decide +kernel
theorem dX1_reach_1 : decode cX1_reach 1 = .ok (.iload_n 1, 1) := by decide +kernel
theorem dX1_reach_2 : decode cX1_reach 2 = .ok (.iload_n 2, 1) := by decide +kernel
theorem dX1_reach_3 : decode cX1_reach 3 = .ok (.invokevirtual 99, 3) := by decide +kernel
theorem dX1_reach_6 : decode cX1_reach 6 = .ok (.ifCond .eq 11, 3) := by decide +kernel
theorem dX1_reach_9 : decode cX1_reach 9 = .ok (.iload_n 1, 1) := by decide +kernel
theorem dX1_reach_10 : decode cX1_reach 10 = .ok (.iload_n 2, 1) := by decide +kernel
theorem dX1_reach_11 : decode cX1_reach 11 = .ok (.invokestatic 85, 3) := by decide +kernel
theorem dX1_reach_14 : decode cX1_reach 14 = .ok (.ifCond .ne 4, 3) := by decide +kernel
theorem dX1_reach_17 : decode cX1_reach 17 = .ok (.return_, 1) := by decide +kernel
theorem dX1_reach_18 : decode cX1_reach 18 = .ok (.iload_n 2, 1) := by decide +kernel
theorem dX1_reach_19 : decode cX1_reach 19 = .ok (.bipush 24, 2) := by decide +kernel
theorem dX1_reach_21 : decode cX1_reach 21 = .ok (.imul, 1) := by decide +kernel
theorem dX1_reach_22 : decode cX1_reach 22 = .ok (.iload_n 1, 1) := by decide +kernel
theorem dX1_reach_23 : decode cX1_reach 23 = .ok (.iadd, 1) := by decide +kernel
theorem dX1_reach_24 : decode cX1_reach 24 = .ok (.istore_n 3, 1) := by decide +kernel
theorem dX1_reach_25 : decode cX1_reach 25 = .ok (.aload_n 0, 1) := by decide +kernel
theorem dX1_reach_26 : decode cX1_reach 26 = .ok (.getfield 22, 3) := by decide +kernel
theorem dX1_reach_29 : decode cX1_reach 29 = .ok (.iload_n 3, 1) := by decide +kernel
theorem dX1_reach_30 : decode cX1_reach 30 = .ok (.iaload, 1) := by decide +kernel
theorem dX1_reach_31 : decode cX1_reach 31 = .ok (.ifCond .ne 47, 3) := by decide +kernel
theorem dX1_reach_34 : decode cX1_reach 34 = .ok (.aload_n 0, 1) := by decide +kernel
theorem dX1_reach_35 : decode cX1_reach 35 = .ok (.getfield 28, 3) := by decide +kernel
theorem dX1_reach_38 : decode cX1_reach 38 = .ok (.ifCond .lt 40, 3) := by decide +kernel
theorem dX1_reach_41 : decode cX1_reach 41 = .ok (.aload_n 0, 1) := by decide +kernel
theorem dX1_reach_42 : decode cX1_reach 42 = .ok (.getfield 28, 3) := by decide +kernel
theorem dX1_reach_45 : decode cX1_reach 45 = .ok (.sipush 576, 3) := by decide +kernel
theorem dX1_reach_48 : decode cX1_reach 48 = .ok (.if_icmp .ge 30, 3) := by decide +kernel
theorem dX1_reach_51 : decode cX1_reach 51 = .ok (.aload_n 0, 1) := by decide +kernel
theorem dX1_reach_52 : decode cX1_reach 52 = .ok (.getfield 22, 3) := by decide +kernel
theorem dX1_reach_55 : decode cX1_reach 55 = .ok (.iload_n 3, 1) := by decide +kernel
theorem dX1_reach_56 : decode cX1_reach 56 = .ok (.iconst 1, 1) := by decide +kernel
theorem dX1_reach_57 : decode cX1_reach 57 = .ok (.iastore, 1) := by decide +kernel
theorem dX1_reach_58 : decode cX1_reach 58 = .ok (.aload_n 0, 1) := by decide +kernel
theorem dX1_reach_59 : decode cX1_reach 59 = .ok (.getfield 25, 3) := by decide +kernel
theorem dX1_reach_62 : decode cX1_reach 62 = .ok (.aload_n 0, 1) := by decide +kernel
theorem dX1_reach_63 : decode cX1_reach 63 = .ok (.getfield 28, 3) := by decide +kernel
theorem dX1_reach_66 : decode cX1_reach 66 = .ok (.iload_n 3, 1) := by decide +kernel
theorem dX1_reach_67 : decode cX1_reach 67 = .ok (.iastore, 1) := by decide +kernel
theorem dX1_reach_68 : decode cX1_reach 68 = .ok (.aload_n 0, 1) := by decide +kernel
theorem dX1_reach_69 : decode cX1_reach 69 = .ok (.dup, 1) := by decide +kernel
theorem dX1_reach_70 : decode cX1_reach 70 = .ok (.getfield 28, 3) := by decide +kernel
theorem dX1_reach_73 : decode cX1_reach 73 = .ok (.iconst 1, 1) := by decide +kernel
theorem dX1_reach_74 : decode cX1_reach 74 = .ok (.iadd, 1) := by decide +kernel
theorem dX1_reach_75 : decode cX1_reach 75 = .ok (.putfield 28, 3) := by decide +kernel
theorem dX1_reach_78 : decode cX1_reach 78 = .ok (.return_, 1) := by decide +kernel
theorem dX1_coveredInColumn_0 : decode cX1_coveredInColumn 0 = .ok (.iconst 0, 1) := by decide +kernel
theorem dX1_coveredInColumn_1 : decode cX1_coveredInColumn 1 = .ok (.istore_n 2, 1) := by decide +kernel
theorem dX1_coveredInColumn_2 : decode cX1_coveredInColumn 2 = .ok (.iconst 0, 1) := by decide +kernel
theorem dX1_coveredInColumn_3 : decode cX1_coveredInColumn 3 = .ok (.istore_n 3, 1) := by decide +kernel
theorem dX1_coveredInColumn_4 : decode cX1_coveredInColumn 4 = .ok (.iload_n 3, 1) := by decide +kernel
theorem dX1_coveredInColumn_5 : decode cX1_coveredInColumn 5 = .ok (.bipush 24, 2) := by decide +kernel
theorem dX1_coveredInColumn_7 : decode cX1_coveredInColumn 7 = .ok (.if_icmp .ge 21, 3) := by decide +kernel
theorem dX1_coveredInColumn_10 : decode cX1_coveredInColumn 10 = .ok (.aload_n 0, 1) := by decide +kernel
theorem dX1_coveredInColumn_11 : decode cX1_coveredInColumn 11 = .ok (.iload_n 1, 1) := by decide +kernel
theorem dX1_coveredInColumn_12 : decode cX1_coveredInColumn 12 = .ok (.iload_n 3, 1) := by decide +kernel
theorem dX1_coveredInColumn_13 : decode cX1_coveredInColumn 13 = .ok (.invokevirtual 99, 3) := by decide +kernel
theorem dX1_coveredInColumn_16 : decode cX1_coveredInColumn 16 = .ok (.ifCond .le 6, 3) := by decide +kernel
theorem dX1_coveredInColumn_19 : decode cX1_coveredInColumn 19 = .ok (.iinc 2 1, 3) := by decide +kernel
theorem dX1_coveredInColumn_22 : decode cX1_coveredInColumn 22 = .ok (.iinc 3 1, 3) := by decide +kernel
theorem dX1_coveredInColumn_25 : decode cX1_coveredInColumn 25 = .ok (.goto (-21), 3) := by decide +kernel
theorem dX1_coveredInColumn_28 : decode cX1_coveredInColumn 28 = .ok (.iload_n 2, 1) := by decide +kernel
theorem dX1_coveredInColumn_29 : decode cX1_coveredInColumn 29 = .ok (.ireturn, 1) := by decide +kernel
theorem dX1_runsInColumn_0 : decode cX1_runsInColumn 0 = .ok (.iconst 0, 1) := by decide +kernel
theorem dX1_runsInColumn_1 : decode cX1_runsInColumn 1 = .ok (.istore_n 2, 1) := by decide +kernel
theorem dX1_runsInColumn_2 : decode cX1_runsInColumn 2 = .ok (.iconst 0, 1) := by decide +kernel
theorem dX1_runsInColumn_3 : decode cX1_runsInColumn 3 = .ok (.istore_n 3, 1) := by decide +kernel
theorem dX1_runsInColumn_4 : decode cX1_runsInColumn 4 = .ok (.iload_n 3, 1) := by decide +kernel
theorem dX1_runsInColumn_5 : decode cX1_runsInColumn 5 = .ok (.bipush 24, 2) := by decide +kernel
theorem dX1_runsInColumn_7 : decode cX1_runsInColumn 7 = .ok (.if_icmp .ge 32, 3) := by decide +kernel
theorem dX1_runsInColumn_10 : decode cX1_runsInColumn 10 = .ok (.aload_n 0, 1) := by decide +kernel
theorem dX1_runsInColumn_11 : decode cX1_runsInColumn 11 = .ok (.iload_n 1, 1) := by decide +kernel
theorem dX1_runsInColumn_12 : decode cX1_runsInColumn 12 = .ok (.iload_n 3, 1) := by decide +kernel
theorem dX1_runsInColumn_13 : decode cX1_runsInColumn 13 = .ok (.invokevirtual 99, 3) := by decide +kernel
theorem dX1_runsInColumn_16 : decode cX1_runsInColumn 16 = .ok (.ifCond .le 17, 3) := by decide +kernel
theorem dX1_runsInColumn_19 : decode cX1_runsInColumn 19 = .ok (.aload_n 0, 1) := by decide +kernel
theorem dX1_runsInColumn_20 : decode cX1_runsInColumn 20 = .ok (.iload_n 1, 1) := by decide +kernel
theorem dX1_runsInColumn_21 : decode cX1_runsInColumn 21 = .ok (.iload_n 3, 1) := by decide +kernel
theorem dX1_runsInColumn_22 : decode cX1_runsInColumn 22 = .ok (.iconst 1, 1) := by decide +kernel
theorem dX1_runsInColumn_23 : decode cX1_runsInColumn 23 = .ok (.isub, 1) := by decide +kernel
theorem dX1_runsInColumn_24 : decode cX1_runsInColumn 24 = .ok (.invokevirtual 99, 3) := by decide +kernel
theorem dX1_runsInColumn_27 : decode cX1_runsInColumn 27 = .ok (.ifCond .ne 6, 3) := by decide +kernel
theorem dX1_runsInColumn_30 : decode cX1_runsInColumn 30 = .ok (.iinc 2 1, 3) := by decide +kernel
theorem dX1_runsInColumn_33 : decode cX1_runsInColumn 33 = .ok (.iinc 3 1, 3) := by decide +kernel
theorem dX1_runsInColumn_36 : decode cX1_runsInColumn 36 = .ok (.goto (-32), 3) := by decide +kernel
theorem dX1_runsInColumn_39 : decode cX1_runsInColumn 39 = .ok (.iload_n 2, 1) := by decide +kernel
theorem dX1_runsInColumn_40 : decode cX1_runsInColumn 40 = .ok (.ireturn, 1) := by decide +kernel
theorem dX1_longestRunInColumn_0 : decode cX1_longestRunInColumn 0 = .ok (.iconst 0, 1) := by decide +kernel
theorem dX1_longestRunInColumn_1 : decode cX1_longestRunInColumn 1 = .ok (.istore_n 2, 1) := by decide +kernel
theorem dX1_longestRunInColumn_2 : decode cX1_longestRunInColumn 2 = .ok (.iconst 0, 1) := by decide +kernel
theorem dX1_longestRunInColumn_3 : decode cX1_longestRunInColumn 3 = .ok (.istore_n 3, 1) := by decide +kernel
theorem dX1_longestRunInColumn_4 : decode cX1_longestRunInColumn 4 = .ok (.iconst 0, 1) := by decide +kernel
theorem dX1_longestRunInColumn_5 : decode cX1_longestRunInColumn 5 = .ok (.istore 4, 2) := by decide +kernel
theorem dX1_longestRunInColumn_7 : decode cX1_longestRunInColumn 7 = .ok (.iload 4, 2) := by decide +kernel
theorem dX1_longestRunInColumn_9 : decode cX1_longestRunInColumn 9 = .ok (.bipush 24, 2) := by decide +kernel
theorem dX1_longestRunInColumn_11 : decode cX1_longestRunInColumn 11 = .ok (.if_icmp .ge 33, 3) := by decide +kernel
theorem dX1_longestRunInColumn_14 : decode cX1_longestRunInColumn 14 = .ok (.aload_n 0, 1) := by decide +kernel
theorem dX1_longestRunInColumn_15 : decode cX1_longestRunInColumn 15 = .ok (.iload_n 1, 1) := by decide +kernel
theorem dX1_longestRunInColumn_16 : decode cX1_longestRunInColumn 16 = .ok (.iload 4, 2) := by decide +kernel
theorem dX1_longestRunInColumn_18 : decode cX1_longestRunInColumn 18 = .ok (.invokevirtual 99, 3) := by decide +kernel
theorem dX1_longestRunInColumn_21 : decode cX1_longestRunInColumn 21 = .ok (.ifCond .le 9, 3) := by decide +kernel
theorem dX1_longestRunInColumn_24 : decode cX1_longestRunInColumn 24 = .ok (.iload_n 3, 1) := by decide +kernel
theorem dX1_longestRunInColumn_25 : decode cX1_longestRunInColumn 25 = .ok (.iconst 1, 1) := by decide +kernel
theorem dX1_longestRunInColumn_26 : decode cX1_longestRunInColumn 26 = .ok (.iadd, 1) := by decide +kernel
theorem dX1_longestRunInColumn_27 : decode cX1_longestRunInColumn 27 = .ok (.goto 4, 3) := by decide +kernel
theorem dX1_longestRunInColumn_30 : decode cX1_longestRunInColumn 30 = .ok (.iconst 0, 1) := by decide +kernel
theorem dX1_longestRunInColumn_31 : decode cX1_longestRunInColumn 31 = .ok (.istore_n 3, 1) := by decide +kernel
theorem dX1_longestRunInColumn_32 : decode cX1_longestRunInColumn 32 = .ok (.iload_n 2, 1) := by decide +kernel
theorem dX1_longestRunInColumn_33 : decode cX1_longestRunInColumn 33 = .ok (.iload_n 3, 1) := by decide +kernel
theorem dX1_longestRunInColumn_34 : decode cX1_longestRunInColumn 34 = .ok (.invokestatic 116, 3) := by decide +kernel
theorem dX1_longestRunInColumn_37 : decode cX1_longestRunInColumn 37 = .ok (.istore_n 2, 1) := by decide +kernel
theorem dX1_longestRunInColumn_38 : decode cX1_longestRunInColumn 38 = .ok (.iinc 4 1, 3) := by decide +kernel
theorem dX1_longestRunInColumn_41 : decode cX1_longestRunInColumn 41 = .ok (.goto (-34), 3) := by decide +kernel
theorem dX1_longestRunInColumn_44 : decode cX1_longestRunInColumn 44 = .ok (.iload_n 2, 1) := by decide +kernel
theorem dX1_longestRunInColumn_45 : decode cX1_longestRunInColumn 45 = .ok (.ireturn, 1) := by decide +kernel
theorem dX1_mostLayersInColumn_0 : decode cX1_mostLayersInColumn 0 = .ok (.iconst 0, 1) := by decide +kernel
theorem dX1_mostLayersInColumn_1 : decode cX1_mostLayersInColumn 1 = .ok (.istore_n 2, 1) := by decide +kernel
theorem dX1_mostLayersInColumn_2 : decode cX1_mostLayersInColumn 2 = .ok (.iconst 0, 1) := by decide +kernel
theorem dX1_mostLayersInColumn_3 : decode cX1_mostLayersInColumn 3 = .ok (.istore_n 3, 1) := by decide +kernel
theorem dX1_mostLayersInColumn_4 : decode cX1_mostLayersInColumn 4 = .ok (.iload_n 3, 1) := by decide +kernel
theorem dX1_mostLayersInColumn_5 : decode cX1_mostLayersInColumn 5 = .ok (.bipush 24, 2) := by decide +kernel
theorem dX1_mostLayersInColumn_7 : decode cX1_mostLayersInColumn 7 = .ok (.if_icmp .ge 20, 3) := by decide +kernel
theorem dX1_mostLayersInColumn_10 : decode cX1_mostLayersInColumn 10 = .ok (.iload_n 2, 1) := by decide +kernel
theorem dX1_mostLayersInColumn_11 : decode cX1_mostLayersInColumn 11 = .ok (.aload_n 0, 1) := by decide +kernel
theorem dX1_mostLayersInColumn_12 : decode cX1_mostLayersInColumn 12 = .ok (.iload_n 1, 1) := by decide +kernel
theorem dX1_mostLayersInColumn_13 : decode cX1_mostLayersInColumn 13 = .ok (.iload_n 3, 1) := by decide +kernel
theorem dX1_mostLayersInColumn_14 : decode cX1_mostLayersInColumn 14 = .ok (.invokevirtual 99, 3) := by decide +kernel
theorem dX1_mostLayersInColumn_17 : decode cX1_mostLayersInColumn 17 = .ok (.invokestatic 116, 3) := by decide +kernel
theorem dX1_mostLayersInColumn_20 : decode cX1_mostLayersInColumn 20 = .ok (.istore_n 2, 1) := by decide +kernel
theorem dX1_mostLayersInColumn_21 : decode cX1_mostLayersInColumn 21 = .ok (.iinc 3 1, 3) := by decide +kernel
theorem dX1_mostLayersInColumn_24 : decode cX1_mostLayersInColumn 24 = .ok (.goto (-20), 3) := by decide +kernel
theorem dX1_mostLayersInColumn_27 : decode cX1_mostLayersInColumn 27 = .ok (.iload_n 2, 1) := by decide +kernel
theorem dX1_mostLayersInColumn_28 : decode cX1_mostLayersInColumn 28 = .ok (.ireturn, 1) := by decide +kernel
theorem dX2_init_0 : decode cX2_init 0 = .ok (.aload_n 0, 1) := by decide +kernel
theorem dX2_init_1 : decode cX2_init 1 = .ok (.invokespecial 3, 3) := by decide +kernel
theorem dX2_init_4 : decode cX2_init 4 = .ok (.aload_n 0, 1) := by decide +kernel
theorem dX2_init_5 : decode cX2_init 5 = .ok (.aload_n 1, 1) := by decide +kernel
theorem dX2_init_6 : decode cX2_init 6 = .ok (.putfield 9, 3) := by decide +kernel
theorem dX2_init_9 : decode cX2_init 9 = .ok (.aload_n 0, 1) := by decide +kernel
theorem dX2_init_10 : decode cX2_init 10 = .ok (.sipush 576, 3) := by decide +kernel
theorem dX2_init_13 : decode cX2_init 13 = .ok (.newarray .int, 2) := by decide +kernel
theorem dX2_init_15 : decode cX2_init 15 = .ok (.putfield 15, 3) := by decide +kernel
theorem dX2_init_18 : decode cX2_init 18 = .ok (.aload_n 0, 1) := by decide +kernel
theorem dX2_init_19 : decode cX2_init 19 = .ok (.bipush 10, 2) := by decide +kernel
theorem dX2_init_21 : decode cX2_init 21 = .ok (.newarray .int, 2) := by decide +kernel
theorem dX2_init_23 : decode cX2_init 23 = .ok (.putfield 19, 3) := by decide +kernel
theorem dX2_init_26 : decode cX2_init 26 = .ok (.aload_n 0, 1) := by decide +kernel
theorem dX2_init_27 : decode cX2_init 27 = .ok (.iconst 0, 1) := by decide +kernel
theorem dX2_init_28 : decode cX2_init 28 = .ok (.putfield 22, 3) := by decide +kernel
theorem dX2_init_31 : decode cX2_init 31 = .ok (.aload_n 0, 1) := by decide +kernel
theorem dX2_init_32 : decode cX2_init 32 = .ok (.iconst 0, 1) := by decide +kernel
theorem dX2_init_33 : decode cX2_init 33 = .ok (.putfield 26, 3) := by decide +kernel
theorem dX2_init_36 : decode cX2_init 36 = .ok (.return_, 1) := by decide +kernel
theorem dX2_pour_0 : decode cX2_pour 0 = .ok (.aload_n 0, 1) := by decide +kernel
theorem dX2_pour_1 : decode cX2_pour 1 = .ok (.invokevirtual 29, 3) := by decide +kernel
theorem dX2_pour_4 : decode cX2_pour 4 = .ok (.iconst 0, 1) := by decide +kernel
theorem dX2_pour_5 : decode cX2_pour 5 = .ok (.istore_n 2, 1) := by decide +kernel
theorem dX2_pour_6 : decode cX2_pour 6 = .ok (.iload_n 2, 1) := by decide +kernel
theorem dX2_pour_7 : decode cX2_pour 7 = .ok (.bipush 24, 2) := by decide +kernel
theorem dX2_pour_9 : decode cX2_pour 9 = .ok (.if_icmp .ge 32, 3) := by decide +kernel
theorem dX2_pour_12 : decode cX2_pour 12 = .ok (.iconst 0, 1) := by decide +kernel
theorem dX2_pour_13 : decode cX2_pour 13 = .ok (.istore_n 3, 1) := by decide +kernel
theorem dX2_pour_14 : decode cX2_pour 14 = .ok (.iload_n 3, 1) := by decide +kernel
theorem dX2_pour_15 : decode cX2_pour 15 = .ok (.bipush 24, 2) := by decide +kernel
theorem dX2_pour_17 : decode cX2_pour 17 = .ok (.if_icmp .ge 18, 3) := by decide +kernel
theorem dX2_pour_20 : decode cX2_pour 20 = .ok (.aload_n 0, 1) := by decide +kernel
theorem dX2_pour_21 : decode cX2_pour 21 = .ok (.iload_n 1, 1) := by decide +kernel
theorem dX2_pour_22 : decode cX2_pour 22 = .ok (.iload_n 3, 1) := by decide +kernel
theorem dX2_pour_23 : decode cX2_pour 23 = .ok (.iload_n 2, 1) := by decide +kernel
theorem dX2_pour_24 : decode cX2_pour 24 = .ok (.bipush 10, 2) := by decide +kernel
theorem dX2_pour_26 : decode cX2_pour 26 = .ok (.invokevirtual 32, 3) := by decide +kernel
theorem dX2_pour_29 : decode cX2_pour 29 = .ok (.iinc 3 1, 3) := by decide +kernel
theorem dX2_pour_32 : decode cX2_pour 32 = .ok (.goto (-18), 3) := by decide +kernel
theorem dX2_pour_35 : decode cX2_pour 35 = .ok (.iinc 2 1, 3) := by decide +kernel
theorem dX2_pour_38 : decode cX2_pour 38 = .ok (.goto (-32), 3) := by decide +kernel
theorem dX2_pour_41 : decode cX2_pour 41 = .ok (.bipush 9, 2) := by decide +kernel
theorem dX2_pour_43 : decode cX2_pour 43 = .ok (.istore_n 2, 1) := by decide +kernel
theorem dX2_pour_44 : decode cX2_pour 44 = .ok (.iload_n 2, 1) := by decide +kernel
theorem dX2_pour_45 : decode cX2_pour 45 = .ok (.iconst 1, 1) := by decide +kernel
theorem dX2_pour_46 : decode cX2_pour 46 = .ok (.if_icmp .lt 14, 3) := by decide +kernel
theorem dX2_pour_49 : decode cX2_pour 49 = .ok (.aload_n 0, 1) := by decide +kernel
theorem dX2_pour_50 : decode cX2_pour 50 = .ok (.iload_n 2, 1) := by decide +kernel
theorem dX2_pour_51 : decode cX2_pour 51 = .ok (.invokevirtual 36, 3) := by decide +kernel
theorem dX2_pour_54 : decode cX2_pour 54 = .ok (.iinc 2 (-1), 3) := by decide +kernel
theorem dX2_pour_57 : decode cX2_pour 57 = .ok (.goto (-13), 3) := by decide +kernel
theorem dX2_pour_60 : decode cX2_pour 60 = .ok (.return_, 1) := by decide +kernel
theorem dX2_fallenAt_0 : decode cX2_fallenAt 0 = .ok (.iload_n 1, 1) := by decide +kernel
theorem dX2_fallenAt_1 : decode cX2_fallenAt 1 = .ok (.iload_n 2, 1) := by decide +kernel
theorem dX2_fallenAt_2 : decode cX2_fallenAt 2 = .ok (.invokestatic 40, 3) := by decide +kernel
theorem dX2_fallenAt_5 : decode cX2_fallenAt 5 = .ok (.ifCond .eq 17, 3) := by decide +kernel
theorem dX2_fallenAt_8 : decode cX2_fallenAt 8 = .ok (.aload_n 0, 1) := by decide +kernel
theorem dX2_fallenAt_9 : decode cX2_fallenAt 9 = .ok (.getfield 15, 3) := by decide +kernel
theorem dX2_fallenAt_12 : decode cX2_fallenAt 12 = .ok (.iload_n 2, 1) := by decide +kernel
theorem dX2_fallenAt_13 : decode cX2_fallenAt 13 = .ok (.bipush 24, 2) := by decide +kernel
theorem dX2_fallenAt_15 : decode cX2_fallenAt 15 = .ok (.imul, 1) := by decide +kernel
theorem dX2_fallenAt_16 : decode cX2_fallenAt 16 = .ok (.iload_n 1, 1) := by decide +kernel
theorem dX2_fallenAt_17 : decode cX2_fallenAt 17 = .ok (.iadd, 1) := by decide +kernel
theorem dX2_fallenAt_18 : decode cX2_fallenAt 18 = .ok (.iaload, 1) := by decide +kernel
theorem dX2_fallenAt_19 : decode cX2_fallenAt 19 = .ok (.goto 4, 3) := by decide +kernel
theorem dX2_fallenAt_22 : decode cX2_fallenAt 22 = .ok (.iconst 0, 1) := by decide +kernel
theorem dX2_fallenAt_23 : decode cX2_fallenAt 23 = .ok (.ireturn, 1) := by decide +kernel
theorem dX2_caughtBy_0 : decode cX2_caughtBy 0 = .ok (.iload_n 1, 1) := by decide +kernel
theorem dX2_caughtBy_1 : decode cX2_caughtBy 1 = .ok (.ifCond .lt 21, 3) := by decide +kernel
theorem dX2_caughtBy_4 : decode cX2_caughtBy 4 = .ok (.iload_n 1, 1) := by decide +kernel
theorem dX2_caughtBy_5 : decode cX2_caughtBy 5 = .ok (.aload_n 0, 1) := by decide +kernel
theorem dX2_caughtBy_6 : decode cX2_caughtBy 6 = .ok (.getfield 19, 3) := by decide +kernel
theorem dX2_caughtBy_9 : decode cX2_caughtBy 9 = .ok (.arraylength, 1) := by decide +kernel
theorem dX2_caughtBy_10 : decode cX2_caughtBy 10 = .ok (.if_icmp .ge 12, 3) := by decide +kernel
theorem dX2_caughtBy_13 : decode cX2_caughtBy 13 = .ok (.aload_n 0, 1) := by decide +kernel
theorem dX2_caughtBy_14 : decode cX2_caughtBy 14 = .ok (.getfield 19, 3) := by decide +kernel
theorem dX2_caughtBy_17 : decode cX2_caughtBy 17 = .ok (.iload_n 1, 1) := by decide +kernel
theorem dX2_caughtBy_18 : decode cX2_caughtBy 18 = .ok (.iaload, 1) := by decide +kernel
theorem dX2_caughtBy_19 : decode cX2_caughtBy 19 = .ok (.goto 4, 3) := by decide +kernel
theorem dX2_caughtBy_22 : decode cX2_caughtBy 22 = .ok (.iconst 0, 1) := by decide +kernel
theorem dX2_caughtBy_23 : decode cX2_caughtBy 23 = .ok (.ireturn, 1) := by decide +kernel
theorem dX2_dry_0 : decode cX2_dry 0 = .ok (.aload_n 0, 1) := by decide +kernel
theorem dX2_dry_1 : decode cX2_dry 1 = .ok (.getfield 15, 3) := by decide +kernel
theorem dX2_dry_4 : decode cX2_dry 4 = .ok (.iconst 0, 1) := by decide +kernel
theorem dX2_dry_5 : decode cX2_dry 5 = .ok (.invokestatic 44, 3) := by decide +kernel
theorem dX2_dry_8 : decode cX2_dry 8 = .ok (.aload_n 0, 1) := by decide +kernel
theorem dX2_dry_9 : decode cX2_dry 9 = .ok (.getfield 19, 3) := by decide +kernel
theorem dX2_dry_12 : decode cX2_dry 12 = .ok (.iconst 0, 1) := by decide +kernel
theorem dX2_dry_13 : decode cX2_dry 13 = .ok (.invokestatic 44, 3) := by decide +kernel
theorem dX2_dry_16 : decode cX2_dry 16 = .ok (.aload_n 0, 1) := by decide +kernel
theorem dX2_dry_17 : decode cX2_dry 17 = .ok (.iconst 0, 1) := by decide +kernel
theorem dX2_dry_18 : decode cX2_dry 18 = .ok (.putfield 22, 3) := by decide +kernel
theorem dX2_dry_21 : decode cX2_dry 21 = .ok (.aload_n 0, 1) := by decide +kernel
theorem dX2_dry_22 : decode cX2_dry 22 = .ok (.iconst 0, 1) := by decide +kernel
theorem dX2_dry_23 : decode cX2_dry 23 = .ok (.putfield 26, 3) := by decide +kernel
theorem dX2_dry_26 : decode cX2_dry 26 = .ok (.return_, 1) := by decide +kernel
theorem dX2_dripFromLevel_0 : decode cX2_dripFromLevel 0 = .ok (.iconst 0, 1) := by decide +kernel
theorem dX2_dripFromLevel_1 : decode cX2_dripFromLevel 1 = .ok (.istore_n 2, 1) := by decide +kernel
theorem dX2_dripFromLevel_2 : decode cX2_dripFromLevel 2 = .ok (.iload_n 2, 1) := by decide +kernel
theorem dX2_dripFromLevel_3 : decode cX2_dripFromLevel 3 = .ok (.aload_n 0, 1) := by decide +kernel
theorem dX2_dripFromLevel_4 : decode cX2_dripFromLevel 4 = .ok (.getfield 9, 3) := by decide +kernel
theorem dX2_dripFromLevel_7 : decode cX2_dripFromLevel 7 = .ok (.invokevirtual 50, 3) := by decide +kernel
theorem dX2_dripFromLevel_10 : decode cX2_dripFromLevel 10 = .ok (.if_icmp .ge 43, 3) := by decide +kernel
theorem dX2_dripFromLevel_13 : decode cX2_dripFromLevel 13 = .ok (.aload_n 0, 1) := by decide +kernel
theorem dX2_dripFromLevel_14 : decode cX2_dripFromLevel 14 = .ok (.getfield 9, 3) := by decide +kernel
theorem dX2_dripFromLevel_17 : decode cX2_dripFromLevel 17 = .ok (.iload_n 2, 1) := by decide +kernel
theorem dX2_dripFromLevel_18 : decode cX2_dripFromLevel 18 = .ok (.invokevirtual 56, 3) := by decide +kernel
theorem dX2_dripFromLevel_21 : decode cX2_dripFromLevel 21 = .ok (.astore_n 3, 1) := by decide +kernel
theorem dX2_dripFromLevel_22 : decode cX2_dripFromLevel 22 = .ok (.aload_n 3, 1) := by decide +kernel
theorem dX2_dripFromLevel_23 : decode cX2_dripFromLevel 23 = .ok (.getfield 60, 3) := by decide +kernel
theorem dX2_dripFromLevel_26 : decode cX2_dripFromLevel 26 = .ok (.ifCond .eq 21, 3) := by decide +kernel
theorem dX2_dripFromLevel_29 : decode cX2_dripFromLevel 29 = .ok (.aload_n 3, 1) := by decide +kernel
theorem dX2_dripFromLevel_30 : decode cX2_dripFromLevel 30 = .ok (.getfield 66, 3) := by decide +kernel
theorem dX2_dripFromLevel_33 : decode cX2_dripFromLevel 33 = .ok (.iload_n 1, 1) := by decide +kernel
theorem dX2_dripFromLevel_34 : decode cX2_dripFromLevel 34 = .ok (.if_icmp .ne 13, 3) := by decide +kernel
theorem dX2_dripFromLevel_37 : decode cX2_dripFromLevel 37 = .ok (.aload_n 0, 1) := by decide +kernel
theorem dX2_dripFromLevel_38 : decode cX2_dripFromLevel 38 = .ok (.aload_n 3, 1) := by decide +kernel
theorem dX2_dripFromLevel_39 : decode cX2_dripFromLevel 39 = .ok (.aload_n 0, 1) := by decide +kernel
theorem dX2_dripFromLevel_40 : decode cX2_dripFromLevel 40 = .ok (.iload_n 2, 1) := by decide +kernel
theorem dX2_dripFromLevel_41 : decode cX2_dripFromLevel 41 = .ok (.invokevirtual 69, 3) := by decide +kernel
theorem dX2_dripFromLevel_44 : decode cX2_dripFromLevel 44 = .ok (.invokevirtual 73, 3) := by decide +kernel
theorem dX2_dripFromLevel_47 : decode cX2_dripFromLevel 47 = .ok (.iinc 2 1, 3) := by decide +kernel
theorem dX2_dripFromLevel_50 : decode cX2_dripFromLevel 50 = .ok (.goto (-48), 3) := by decide +kernel
theorem dX2_dripFromLevel_53 : decode cX2_dripFromLevel 53 = .ok (.return_, 1) := by decide +kernel
theorem dX2_drip_0 : decode cX2_drip 0 = .ok (.aload_n 1, 1) := by decide +kernel
theorem dX2_drip_1 : decode cX2_drip 1 = .ok (.invokevirtual 77, 3) := by decide +kernel
theorem dX2_drip_4 : decode cX2_drip 4 = .ok (.istore_n 3, 1) := by decide +kernel
theorem dX2_drip_5 : decode cX2_drip 5 = .ok (.iload_n 3, 1) := by decide +kernel
theorem dX2_drip_6 : decode cX2_drip 6 = .ok (.iconst 1, 1) := by decide +kernel
theorem dX2_drip_7 : decode cX2_drip 7 = .ok (.if_icmp .ge 4, 3) := by decide +kernel
theorem dX2_drip_10 : decode cX2_drip 10 = .ok (.return_, 1) := by decide +kernel
theorem dX2_drip_11 : decode cX2_drip 11 = .ok (.iload_n 2, 1) := by decide +kernel
theorem dX2_drip_12 : decode cX2_drip 12 = .ok (.iload_n 3, 1) := by decide +kernel
theorem dX2_drip_13 : decode cX2_drip 13 = .ok (.idiv, 1) := by decide +kernel
theorem dX2_drip_14 : decode cX2_drip 14 = .ok (.istore 4, 2) := by decide +kernel
theorem dX2_drip_16 : decode cX2_drip 16 = .ok (.iload_n 2, 1) := by decide +kernel
theorem dX2_drip_17 : decode cX2_drip 17 = .ok (.iload_n 3, 1) := by decide +kernel
theorem dX2_drip_18 : decode cX2_drip 18 = .ok (.irem, 1) := by decide +kernel
theorem dX2_drip_19 : decode cX2_drip 19 = .ok (.istore 5, 2) := by decide +kernel
theorem dX2_drip_21 : decode cX2_drip 21 = .ok (.iconst 0, 1) := by decide +kernel
theorem dX2_drip_22 : decode cX2_drip 22 = .ok (.istore 6, 2) := by decide +kernel
theorem dX2_drip_24 : decode cX2_drip 24 = .ok (.iload 6, 2) := by decide +kernel
theorem dX2_drip_26 : decode cX2_drip 26 = .ok (.iload_n 3, 1) := by decide +kernel
theorem dX2_drip_27 : decode cX2_drip 27 = .ok (.if_icmp .ge 49, 3) := by decide +kernel
theorem dX2_drip_30 : decode cX2_drip 30 = .ok (.iload 6, 2) := by decide +kernel
theorem dX2_drip_32 : decode cX2_drip 32 = .ok (.iload 5, 2) := by decide +kernel
theorem dX2_drip_34 : decode cX2_drip 34 = .ok (.if_icmp .ge 10, 3) := by decide +kernel
theorem dX2_drip_37 : decode cX2_drip 37 = .ok (.iload 4, 2) := by decide +kernel
theorem dX2_drip_39 : decode cX2_drip 39 = .ok (.iconst 1, 1) := by decide +kernel
theorem dX2_drip_40 : decode cX2_drip 40 = .ok (.iadd, 1) := by decide +kernel
theorem dX2_drip_41 : decode cX2_drip 41 = .ok (.goto 5, 3) := by decide +kernel
theorem dX2_drip_44 : decode cX2_drip 44 = .ok (.iload 4, 2) := by decide +kernel
theorem dX2_drip_46 : decode cX2_drip 46 = .ok (.istore 7, 2) := by decide +kernel
theorem dX2_drip_48 : decode cX2_drip 48 = .ok (.aload_n 0, 1) := by decide +kernel
theorem dX2_drip_49 : decode cX2_drip 49 = .ok (.iload 7, 2) := by decide +kernel
theorem dX2_drip_51 : decode cX2_drip 51 = .ok (.aload_n 1, 1) := by decide +kernel
theorem dX2_drip_52 : decode cX2_drip 52 = .ok (.iload 6, 2) := by decide +kernel
theorem dX2_drip_54 : decode cX2_drip 54 = .ok (.invokevirtual 80, 3) := by decide +kernel
theorem dX2_drip_57 : decode cX2_drip 57 = .ok (.aload_n 1, 1) := by decide +kernel
theorem dX2_drip_58 : decode cX2_drip 58 = .ok (.iload 6, 2) := by decide +kernel
theorem dX2_drip_60 : decode cX2_drip 60 = .ok (.invokevirtual 83, 3) := by decide +kernel
theorem dX2_drip_63 : decode cX2_drip 63 = .ok (.aload_n 1, 1) := by decide +kernel
theorem dX2_drip_64 : decode cX2_drip 64 = .ok (.getfield 66, 3) := by decide +kernel
theorem dX2_drip_67 : decode cX2_drip 67 = .ok (.invokevirtual 32, 3) := by decide +kernel
theorem dX2_drip_70 : decode cX2_drip 70 = .ok (.iinc 6 1, 3) := by decide +kernel
theorem dX2_drip_73 : decode cX2_drip 73 = .ok (.goto (-49), 3) := by decide +kernel
theorem dX2_drip_76 : decode cX2_drip 76 = .ok (.return_, 1) := by decide +kernel
theorem dX2_land_0 : decode cX2_land 0 = .ok (.iload_n 2, 1) := by decide +kernel
theorem dX2_land_1 : decode cX2_land 1 = .ok (.iload_n 3, 1) := by decide +kernel
theorem dX2_land_2 : decode cX2_land 2 = .ok (.invokestatic 40, 3) := by decide +kernel
theorem dX2_land_5 : decode cX2_land 5 = .ok (.ifCond .ne 14, 3) := by decide +kernel
theorem dX2_land_8 : decode cX2_land 8 = .ok (.aload_n 0, 1) := by decide +kernel
theorem dX2_land_9 : decode cX2_land 9 = .ok (.dup, 1) := by decide +kernel
theorem dX2_land_10 : decode cX2_land 10 = .ok (.getfield 26, 3) := by decide +kernel
theorem dX2_land_13 : decode cX2_land 13 = .ok (.iload_n 1, 1) := by decide +kernel
theorem dX2_land_14 : decode cX2_land 14 = .ok (.iadd, 1) := by decide +kernel
theorem dX2_land_15 : decode cX2_land 15 = .ok (.putfield 26, 3) := by decide +kernel
theorem dX2_land_18 : decode cX2_land 18 = .ok (.return_, 1) := by decide +kernel
theorem dX2_land_19 : decode cX2_land 19 = .ok (.aload_n 0, 1) := by decide +kernel
theorem dX2_land_20 : decode cX2_land 20 = .ok (.getfield 9, 3) := by decide +kernel
theorem dX2_land_23 : decode cX2_land 23 = .ok (.iload 4, 2) := by decide +kernel
theorem dX2_land_25 : decode cX2_land 25 = .ok (.iload_n 2, 1) := by decide +kernel
theorem dX2_land_26 : decode cX2_land 26 = .ok (.iload_n 3, 1) := by decide +kernel
theorem dX2_land_27 : decode cX2_land 27 = .ok (.invokevirtual 86, 3) := by decide +kernel
theorem dX2_land_30 : decode cX2_land 30 = .ok (.istore 5, 2) := by decide +kernel
theorem dX2_land_32 : decode cX2_land 32 = .ok (.iload 5, 2) := by decide +kernel
theorem dX2_land_34 : decode cX2_land 34 = .ok (.ifCond .lt 27, 3) := by decide +kernel
theorem dX2_land_37 : decode cX2_land 37 = .ok (.iload 5, 2) := by decide +kernel
theorem dX2_land_39 : decode cX2_land 39 = .ok (.aload_n 0, 1) := by decide +kernel
theorem dX2_land_40 : decode cX2_land 40 = .ok (.getfield 19, 3) := by decide +kernel
theorem dX2_land_43 : decode cX2_land 43 = .ok (.arraylength, 1) := by decide +kernel
theorem dX2_land_44 : decode cX2_land 44 = .ok (.if_icmp .ge 17, 3) := by decide +kernel
theorem dX2_land_47 : decode cX2_land 47 = .ok (.aload_n 0, 1) := by decide +kernel
theorem dX2_land_48 : decode cX2_land 48 = .ok (.getfield 19, 3) := by decide +kernel
theorem dX2_land_51 : decode cX2_land 51 = .ok (.iload 5, 2) := by decide +kernel
theorem dX2_land_53 : decode cX2_land 53 = .ok (.dup2, 1) := by decide +kernel
theorem dX2_land_54 : decode cX2_land 54 = .ok (.iaload, 1) := by decide +kernel
theorem dX2_land_55 : decode cX2_land 55 = .ok (.iload_n 1, 1) := by decide +kernel
theorem dX2_land_56 : decode cX2_land 56 = .ok (.iadd, 1) := by decide +kernel
theorem dX2_land_57 : decode cX2_land 57 = .ok (.iastore, 1) := by decide +kernel
theorem dX2_land_58 : decode cX2_land 58 = .ok (.goto 28, 3) := by decide +kernel
theorem dX2_land_61 : decode cX2_land 61 = .ok (.aload_n 0, 1) := by decide +kernel
theorem dX2_land_62 : decode cX2_land 62 = .ok (.getfield 15, 3) := by decide +kernel
theorem dX2_land_65 : decode cX2_land 65 = .ok (.iload_n 3, 1) := by decide +kernel
theorem dX2_land_66 : decode cX2_land 66 = .ok (.bipush 24, 2) := by decide +kernel
theorem dX2_land_68 : decode cX2_land 68 = .ok (.imul, 1) := by decide +kernel
theorem dX2_land_69 : decode cX2_land 69 = .ok (.iload_n 2, 1) := by decide +kernel
theorem dX2_land_70 : decode cX2_land 70 = .ok (.iadd, 1) := by decide +kernel
theorem dX2_land_71 : decode cX2_land 71 = .ok (.dup2, 1) := by decide +kernel
theorem dX2_land_72 : decode cX2_land 72 = .ok (.iaload, 1) := by decide +kernel
theorem dX2_land_73 : decode cX2_land 73 = .ok (.iload_n 1, 1) := by decide +kernel
theorem dX2_land_74 : decode cX2_land 74 = .ok (.iadd, 1) := by decide +kernel
theorem dX2_land_75 : decode cX2_land 75 = .ok (.iastore, 1) := by decide +kernel
theorem dX2_land_76 : decode cX2_land 76 = .ok (.aload_n 0, 1) := by decide +kernel
theorem dX2_land_77 : decode cX2_land 77 = .ok (.dup, 1) := by decide +kernel
theorem dX2_land_78 : decode cX2_land 78 = .ok (.getfield 22, 3) := by decide +kernel
theorem dX2_land_81 : decode cX2_land 81 = .ok (.iload_n 1, 1) := by decide +kernel
theorem dX2_land_82 : decode cX2_land 82 = .ok (.iadd, 1) := by decide +kernel
theorem dX2_land_83 : decode cX2_land 83 = .ok (.putfield 22, 3) := by decide +kernel
theorem dX2_land_86 : decode cX2_land 86 = .ok (.return_, 1) := by decide +kernel
theorem dX3_init_0 : decode cX3_init 0 = .ok (.aload_n 0, 1) := by decide +kernel
theorem dX3_init_1 : decode cX3_init 1 = .ok (.invokespecial 1, 3) := by decide +kernel
theorem dX3_init_4 : decode cX3_init 4 = .ok (.aload_n 0, 1) := by decide +kernel
theorem dX3_init_5 : decode cX3_init 5 = .ok (.iload_n 1, 1) := by decide +kernel
theorem dX3_init_6 : decode cX3_init 6 = .ok (.putfield 7, 3) := by decide +kernel
theorem dX3_init_9 : decode cX3_init 9 = .ok (.aload_n 0, 1) := by decide +kernel
theorem dX3_init_10 : decode cX3_init 10 = .ok (.iload_n 2, 1) := by decide +kernel
theorem dX3_init_11 : decode cX3_init 11 = .ok (.putfield 13, 3) := by decide +kernel
theorem dX3_init_14 : decode cX3_init 14 = .ok (.aload_n 0, 1) := by decide +kernel
theorem dX3_init_15 : decode cX3_init 15 = .ok (.iload_n 3, 1) := by decide +kernel
theorem dX3_init_16 : decode cX3_init 16 = .ok (.putfield 16, 3) := by decide +kernel
theorem dX3_init_19 : decode cX3_init 19 = .ok (.return_, 1) := by decide +kernel
theorem dX4_init_0 : decode cX4_init 0 = .ok (.aload_n 0, 1) := by decide +kernel
theorem dX4_init_1 : decode cX4_init 1 = .ok (.invokespecial 3, 3) := by decide +kernel
theorem dX4_init_4 : decode cX4_init 4 = .ok (.aload_n 0, 1) := by decide +kernel
theorem dX4_init_5 : decode cX4_init 5 = .ok (.new 9, 3) := by decide +kernel
theorem dX4_init_8 : decode cX4_init 8 = .ok (.dup, 1) := by decide +kernel
theorem dX4_init_9 : decode cX4_init 9 = .ok (.invokespecial 11, 3) := by decide +kernel
theorem dX4_init_12 : decode cX4_init 12 = .ok (.putfield 12, 3) := by decide +kernel
theorem dX4_init_15 : decode cX4_init 15 = .ok (.aload_n 0, 1) := by decide +kernel
theorem dX4_init_16 : decode cX4_init 16 = .ok (.new 16, 3) := by decide +kernel
theorem dX4_init_19 : decode cX4_init 19 = .ok (.dup, 1) := by decide +kernel
theorem dX4_init_20 : decode cX4_init 20 = .ok (.aload_n 0, 1) := by decide +kernel
theorem dX4_init_21 : decode cX4_init 21 = .ok (.getfield 12, 3) := by decide +kernel
theorem dX4_init_24 : decode cX4_init 24 = .ok (.invokespecial 18, 3) := by decide +kernel
theorem dX4_init_27 : decode cX4_init 27 = .ok (.putfield 21, 3) := by decide +kernel
theorem dX4_init_30 : decode cX4_init 30 = .ok (.aload_n 0, 1) := by decide +kernel
theorem dX4_init_31 : decode cX4_init 31 = .ok (.new 25, 3) := by decide +kernel
theorem dX4_init_34 : decode cX4_init 34 = .ok (.dup, 1) := by decide +kernel
theorem dX4_init_35 : decode cX4_init 35 = .ok (.invokespecial 27, 3) := by decide +kernel
theorem dX4_init_38 : decode cX4_init 38 = .ok (.putfield 28, 3) := by decide +kernel
theorem dX4_init_41 : decode cX4_init 41 = .ok (.aload_n 0, 1) := by decide +kernel
theorem dX4_init_42 : decode cX4_init 42 = .ok (.sipush 576, 3) := by decide +kernel
theorem dX4_init_45 : decode cX4_init 45 = .ok (.newarray .int, 2) := by decide +kernel
theorem dX4_init_47 : decode cX4_init 47 = .ok (.putfield 32, 3) := by decide +kernel
theorem dX4_init_50 : decode cX4_init 50 = .ok (.aload_n 0, 1) := by decide +kernel
theorem dX4_init_51 : decode cX4_init 51 = .ok (.iconst 0, 1) := by decide +kernel
theorem dX4_init_52 : decode cX4_init 52 = .ok (.putfield 36, 3) := by decide +kernel
theorem dX4_init_55 : decode cX4_init 55 = .ok (.aload_n 0, 1) := by decide +kernel
theorem dX4_init_56 : decode cX4_init 56 = .ok (.iconst 0, 1) := by decide +kernel
theorem dX4_init_57 : decode cX4_init 57 = .ok (.putfield 40, 3) := by decide +kernel
theorem dX4_init_60 : decode cX4_init 60 = .ok (.aload_n 0, 1) := by decide +kernel
theorem dX4_init_61 : decode cX4_init 61 = .ok (.iconst 0, 1) := by decide +kernel
theorem dX4_init_62 : decode cX4_init 62 = .ok (.putfield 43, 3) := by decide +kernel
theorem dX4_init_65 : decode cX4_init 65 = .ok (.return_, 1) := by decide +kernel
theorem dX4_hang_0 : decode cX4_hang 0 = .ok (.iload_n 3, 1) := by decide +kernel
theorem dX4_hang_1 : decode cX4_hang 1 = .ok (.iload 4, 2) := by decide +kernel
theorem dX4_hang_3 : decode cX4_hang 3 = .ok (.invokestatic 46, 3) := by decide +kernel
theorem dX4_hang_6 : decode cX4_hang 6 = .ok (.iload 5, 2) := by decide +kernel
theorem dX4_hang_8 : decode cX4_hang 8 = .ok (.iconst 1, 1) := by decide +kernel
theorem dX4_hang_9 : decode cX4_hang 9 = .ok (.if_icmp .lt 10, 3) := by decide +kernel
theorem dX4_hang_12 : decode cX4_hang 12 = .ok (.iload 5, 2) := by decide +kernel
theorem dX4_hang_14 : decode cX4_hang 14 = .ok (.bipush 9, 2) := by decide +kernel
theorem dX4_hang_16 : decode cX4_hang 16 = .ok (.if_icmp .le 13, 3) := by decide +kernel
theorem dX4_hang_19 : decode cX4_hang 19 = .ok (.new 50, 3) := by decide +kernel
theorem dX4_hang_22 : decode cX4_hang 22 = .ok (.dup, 1) := by decide +kernel
theorem dX4_hang_23 : decode cX4_hang 23 = .ok (.ldc 52, 2) := by decide +kernel
theorem dX4_hang_25 : decode cX4_hang 25 = .ok (.invokespecial 54, 3) := by decide +kernel
theorem dX4_hang_28 : decode cX4_hang 28 = .ok (.athrow, 1) := by decide +kernel
theorem dX4_hang_29 : decode cX4_hang 29 = .ok (.iload 6, 2) := by decide +kernel
theorem dX4_hang_31 : decode cX4_hang 31 = .ok (.ifCond .lt 9, 3) := by decide +kernel
theorem dX4_hang_34 : decode cX4_hang 34 = .ok (.iload 6, 2) := by decide +kernel
theorem dX4_hang_36 : decode cX4_hang 36 = .ok (.iconst 3, 1) := by decide +kernel
theorem dX4_hang_37 : decode cX4_hang 37 = .ok (.if_icmp .le 13, 3) := by decide +kernel
theorem dX4_hang_40 : decode cX4_hang 40 = .ok (.new 50, 3) := by decide +kernel
theorem dX4_hang_43 : decode cX4_hang 43 = .ok (.dup, 1) := by decide +kernel
theorem dX4_hang_44 : decode cX4_hang 44 = .ok (.ldc 57, 2) := by decide +kernel
theorem dX4_hang_46 : decode cX4_hang 46 = .ok (.invokespecial 54, 3) := by decide +kernel
theorem dX4_hang_49 : decode cX4_hang 49 = .ok (.athrow, 1) := by decide +kernel
theorem dX4_hang_50 : decode cX4_hang 50 = .ok (.iload_n 1, 1) := by decide +kernel
theorem dX4_hang_51 : decode cX4_hang 51 = .ok (.iload_n 2, 1) := by decide +kernel
theorem dX4_hang_52 : decode cX4_hang 52 = .ok (.iload_n 3, 1) := by decide +kernel
theorem dX4_hang_53 : decode cX4_hang 53 = .ok (.iload 4, 2) := by decide +kernel
theorem dX4_hang_55 : decode cX4_hang 55 = .ok (.invokestatic 59, 3) := by decide +kernel
theorem dX4_hang_58 : decode cX4_hang 58 = .ok (.aload_n 0, 1) := by decide +kernel
theorem dX4_hang_59 : decode cX4_hang 59 = .ok (.getfield 12, 3) := by decide +kernel
theorem dX4_hang_62 : decode cX4_hang 62 = .ok (.invokevirtual 63, 3) := by decide +kernel
theorem dX4_hang_65 : decode cX4_hang 65 = .ok (.bipush 10, 2) := by decide +kernel
theorem dX4_hang_67 : decode cX4_hang 67 = .ok (.if_icmp .lt 13, 3) := by decide +kernel
theorem dX4_hang_70 : decode cX4_hang 70 = .ok (.new 67, 3) := by decide +kernel
theorem dX4_hang_73 : decode cX4_hang 73 = .ok (.dup, 1) := by decide +kernel
theorem dX4_hang_74 : decode cX4_hang 74 = .ok (.ldc 69, 2) := by decide +kernel
theorem dX4_hang_76 : decode cX4_hang 76 = .ok (.invokespecial 71, 3) := by decide +kernel
theorem dX4_hang_79 : decode cX4_hang 79 = .ok (.athrow, 1) := by decide +kernel
theorem dX4_hang_80 : decode cX4_hang 80 = .ok (.aload_n 0, 1) := by decide +kernel
theorem dX4_hang_81 : decode cX4_hang 81 = .ok (.getfield 12, 3) := by decide +kernel
theorem dX4_hang_84 : decode cX4_hang 84 = .ok (.new 72, 3) := by decide +kernel
theorem dX4_hang_87 : decode cX4_hang 87 = .ok (.dup, 1) := by decide +kernel
theorem dX4_hang_88 : decode cX4_hang 88 = .ok (.iload_n 1, 1) := by decide +kernel
theorem dX4_hang_89 : decode cX4_hang 89 = .ok (.iload_n 2, 1) := by decide +kernel
theorem dX4_hang_90 : decode cX4_hang 90 = .ok (.iload_n 3, 1) := by decide +kernel
theorem dX4_hang_91 : decode cX4_hang 91 = .ok (.iload 4, 2) := by decide +kernel
theorem dX4_hang_93 : decode cX4_hang 93 = .ok (.iload 5, 2) := by decide +kernel
theorem dX4_hang_95 : decode cX4_hang 95 = .ok (.iload 6, 2) := by decide +kernel
end
section
theorem dX4_hang_97 : decode cX4_hang 97 = .ok (.invokespecial 74, 3) := by decide +kernel
theorem dX4_hang_100 : decode cX4_hang 100 = .ok (.invokevirtual 77, 3) := by decide +kernel
theorem dX4_hang_103 : decode cX4_hang 103 = .ok (.aload_n 0, 1) := by decide +kernel
theorem dX4_hang_104 : decode cX4_hang 104 = .ok (.getfield 12, 3) := by decide +kernel
theorem dX4_hang_107 : decode cX4_hang 107 = .ok (.invokevirtual 63, 3) := by decide +kernel
theorem dX4_hang_110 : decode cX4_hang 110 = .ok (.iconst 1, 1) := by decide +kernel
theorem dX4_hang_111 : decode cX4_hang 111 = .ok (.isub, 1) := by decide +kernel
theorem dX4_hang_112 : decode cX4_hang 112 = .ok (.ireturn, 1) := by decide +kernel
theorem dX4_roll_0 : decode cX4_roll 0 = .ok (.aload_n 0, 1) := by decide +kernel
theorem dX4_roll_1 : decode cX4_roll 1 = .ok (.getfield 12, 3) := by decide +kernel
theorem dX4_roll_4 : decode cX4_roll 4 = .ok (.iload_n 1, 1) := by decide +kernel
theorem dX4_roll_5 : decode cX4_roll 5 = .ok (.invokevirtual 81, 3) := by decide +kernel
theorem dX4_roll_8 : decode cX4_roll 8 = .ok (.astore_n 2, 1) := by decide +kernel
theorem dX4_roll_9 : decode cX4_roll 9 = .ok (.aload_n 2, 1) := by decide +kernel
theorem dX4_roll_10 : decode cX4_roll 10 = .ok (.aload_n 2, 1) := by decide +kernel
theorem dX4_roll_11 : decode cX4_roll 11 = .ok (.getfield 85, 3) := by decide +kernel
theorem dX4_roll_14 : decode cX4_roll 14 = .ok (.ifCond .ne 7, 3) := by decide +kernel
theorem dX4_roll_17 : decode cX4_roll 17 = .ok (.iconst 1, 1) := by decide +kernel
theorem dX4_roll_18 : decode cX4_roll 18 = .ok (.goto 4, 3) := by decide +kernel
theorem dX4_roll_21 : decode cX4_roll 21 = .ok (.iconst 0, 1) := by decide +kernel
theorem dX4_roll_22 : decode cX4_roll 22 = .ok (.putfield 85, 3) := by decide +kernel
theorem dX4_roll_25 : decode cX4_roll 25 = .ok (.aload_n 0, 1) := by decide +kernel
theorem dX4_roll_26 : decode cX4_roll 26 = .ok (.getfield 12, 3) := by decide +kernel
theorem dX4_roll_29 : decode cX4_roll 29 = .ok (.invokevirtual 89, 3) := by decide +kernel
theorem dX4_roll_32 : decode cX4_roll 32 = .ok (.aload_n 2, 1) := by decide +kernel
theorem dX4_roll_33 : decode cX4_roll 33 = .ok (.getfield 85, 3) := by decide +kernel
theorem dX4_roll_36 : decode cX4_roll 36 = .ok (.ireturn, 1) := by decide +kernel
theorem dX4_move_0 : decode cX4_move 0 = .ok (.aload_n 0, 1) := by decide +kernel
theorem dX4_move_1 : decode cX4_move 1 = .ok (.getfield 12, 3) := by decide +kernel
theorem dX4_move_4 : decode cX4_move 4 = .ok (.iload_n 1, 1) := by decide +kernel
theorem dX4_move_5 : decode cX4_move 5 = .ok (.invokevirtual 81, 3) := by decide +kernel
theorem dX4_move_8 : decode cX4_move 8 = .ok (.astore 4, 2) := by decide +kernel
theorem dX4_move_10 : decode cX4_move 10 = .ok (.iload_n 2, 1) := by decide +kernel
theorem dX4_move_11 : decode cX4_move 11 = .ok (.iload_n 3, 1) := by decide +kernel
theorem dX4_move_12 : decode cX4_move 12 = .ok (.aload 4, 2) := by decide +kernel
theorem dX4_move_14 : decode cX4_move 14 = .ok (.getfield 92, 3) := by decide +kernel
theorem dX4_move_17 : decode cX4_move 17 = .ok (.aload 4, 2) := by decide +kernel
theorem dX4_move_19 : decode cX4_move 19 = .ok (.getfield 95, 3) := by decide +kernel
theorem dX4_move_22 : decode cX4_move 22 = .ok (.invokestatic 59, 3) := by decide +kernel
theorem dX4_move_25 : decode cX4_move 25 = .ok (.aload 4, 2) := by decide +kernel
theorem dX4_move_27 : decode cX4_move 27 = .ok (.iload_n 2, 1) := by decide +kernel
theorem dX4_move_28 : decode cX4_move 28 = .ok (.putfield 98, 3) := by decide +kernel
theorem dX4_move_31 : decode cX4_move 31 = .ok (.aload 4, 2) := by decide +kernel
theorem dX4_move_33 : decode cX4_move 33 = .ok (.iload_n 3, 1) := by decide +kernel
theorem dX4_move_34 : decode cX4_move 34 = .ok (.putfield 101, 3) := by decide +kernel
theorem dX4_move_37 : decode cX4_move 37 = .ok (.aload_n 0, 1) := by decide +kernel
theorem dX4_move_38 : decode cX4_move 38 = .ok (.getfield 12, 3) := by decide +kernel
theorem dX4_move_41 : decode cX4_move 41 = .ok (.invokevirtual 89, 3) := by decide +kernel
theorem dX4_move_44 : decode cX4_move 44 = .ok (.aload_n 0, 1) := by decide +kernel
theorem dX4_move_45 : decode cX4_move 45 = .ok (.getfield 12, 3) := by decide +kernel
theorem dX4_move_48 : decode cX4_move 48 = .ok (.invokevirtual 104, 3) := by decide +kernel
theorem dX4_move_51 : decode cX4_move 51 = .ok (.ireturn, 1) := by decide +kernel
theorem dX4_take_0 : decode cX4_take 0 = .ok (.aload_n 0, 1) := by decide +kernel
theorem dX4_take_1 : decode cX4_take 1 = .ok (.getfield 12, 3) := by decide +kernel
theorem dX4_take_4 : decode cX4_take 4 = .ok (.iload_n 1, 1) := by decide +kernel
theorem dX4_take_5 : decode cX4_take 5 = .ok (.invokevirtual 107, 3) := by decide +kernel
theorem dX4_take_8 : decode cX4_take 8 = .ok (.aload_n 0, 1) := by decide +kernel
theorem dX4_take_9 : decode cX4_take 9 = .ok (.getfield 12, 3) := by decide +kernel
theorem dX4_take_12 : decode cX4_take 12 = .ok (.invokevirtual 63, 3) := by decide +kernel
theorem dX4_take_15 : decode cX4_take 15 = .ok (.ireturn, 1) := by decide +kernel
theorem dX4_stall_0 : decode cX4_stall 0 = .ok (.iload_n 1, 1) := by decide +kernel
theorem dX4_stall_1 : decode cX4_stall 1 = .ok (.iload_n 2, 1) := by decide +kernel
theorem dX4_stall_2 : decode cX4_stall 2 = .ok (.invokestatic 111, 3) := by decide +kernel
theorem dX4_stall_5 : decode cX4_stall 5 = .ok (.aload_n 0, 1) := by decide +kernel
theorem dX4_stall_6 : decode cX4_stall 6 = .ok (.getfield 28, 3) := by decide +kernel
theorem dX4_stall_9 : decode cX4_stall 9 = .ok (.invokevirtual 114, 3) := by decide +kernel
theorem dX4_stall_12 : decode cX4_stall 12 = .ok (.bipush 8, 2) := by decide +kernel
theorem dX4_stall_14 : decode cX4_stall 14 = .ok (.if_icmp .lt 13, 3) := by decide +kernel
theorem dX4_stall_17 : decode cX4_stall 17 = .ok (.new 67, 3) := by decide +kernel
theorem dX4_stall_20 : decode cX4_stall 20 = .ok (.dup, 1) := by decide +kernel
theorem dX4_stall_21 : decode cX4_stall 21 = .ok (.ldc 115, 2) := by decide +kernel
theorem dX4_stall_23 : decode cX4_stall 23 = .ok (.invokespecial 71, 3) := by decide +kernel
theorem dX4_stall_26 : decode cX4_stall 26 = .ok (.athrow, 1) := by decide +kernel
theorem dX4_stall_27 : decode cX4_stall 27 = .ok (.aload_n 0, 1) := by decide +kernel
theorem dX4_stall_28 : decode cX4_stall 28 = .ok (.iload_n 1, 1) := by decide +kernel
theorem dX4_stall_29 : decode cX4_stall 29 = .ok (.iload_n 2, 1) := by decide +kernel
theorem dX4_stall_30 : decode cX4_stall 30 = .ok (.invokevirtual 117, 3) := by decide +kernel
theorem dX4_stall_33 : decode cX4_stall 33 = .ok (.ifCond .eq 13, 3) := by decide +kernel
theorem dX4_stall_36 : decode cX4_stall 36 = .ok (.new 67, 3) := by decide +kernel
theorem dX4_stall_39 : decode cX4_stall 39 = .ok (.dup, 1) := by decide +kernel
theorem dX4_stall_40 : decode cX4_stall 40 = .ok (.ldc 121, 2) := by decide +kernel
theorem dX4_stall_42 : decode cX4_stall 42 = .ok (.invokespecial 71, 3) := by decide +kernel
theorem dX4_stall_45 : decode cX4_stall 45 = .ok (.athrow, 1) := by decide +kernel
theorem dX4_stall_46 : decode cX4_stall 46 = .ok (.aload_n 0, 1) := by decide +kernel
theorem dX4_stall_47 : decode cX4_stall 47 = .ok (.getfield 28, 3) := by decide +kernel
theorem dX4_stall_50 : decode cX4_stall 50 = .ok (.new 123, 3) := by decide +kernel
theorem dX4_stall_53 : decode cX4_stall 53 = .ok (.dup, 1) := by decide +kernel
theorem dX4_stall_54 : decode cX4_stall 54 = .ok (.iload_n 1, 1) := by decide +kernel
theorem dX4_stall_55 : decode cX4_stall 55 = .ok (.iload_n 2, 1) := by decide +kernel
theorem dX4_stall_56 : decode cX4_stall 56 = .ok (.aload_n 0, 1) := by decide +kernel
theorem dX4_stall_57 : decode cX4_stall 57 = .ok (.iload_n 1, 1) := by decide +kernel
theorem dX4_stall_58 : decode cX4_stall 58 = .ok (.iload_n 2, 1) := by decide +kernel
theorem dX4_stall_59 : decode cX4_stall 59 = .ok (.invokevirtual 125, 3) := by decide +kernel
theorem dX4_stall_62 : decode cX4_stall 62 = .ok (.invokespecial 129, 3) := by decide +kernel
theorem dX4_stall_65 : decode cX4_stall 65 = .ok (.invokevirtual 132, 3) := by decide +kernel
theorem dX4_stall_68 : decode cX4_stall 68 = .ok (.pop, 1) := by decide +kernel
theorem dX4_stall_69 : decode cX4_stall 69 = .ok (.aload_n 0, 1) := by decide +kernel
theorem dX4_stall_70 : decode cX4_stall 70 = .ok (.getfield 28, 3) := by decide +kernel
theorem dX4_stall_73 : decode cX4_stall 73 = .ok (.invokevirtual 114, 3) := by decide +kernel
theorem dX4_stall_76 : decode cX4_stall 76 = .ok (.iconst 1, 1) := by decide +kernel
theorem dX4_stall_77 : decode cX4_stall 77 = .ok (.isub, 1) := by decide +kernel
theorem dX4_stall_78 : decode cX4_stall 78 = .ok (.ireturn, 1) := by decide +kernel
theorem dX4_rain_0 : decode cX4_rain 0 = .ok (.iload_n 1, 1) := by decide +kernel
theorem dX4_rain_1 : decode cX4_rain 1 = .ok (.invokestatic 136, 3) := by decide +kernel
theorem dX4_rain_4 : decode cX4_rain 4 = .ok (.aload_n 0, 1) := by decide +kernel
theorem dX4_rain_5 : decode cX4_rain 5 = .ok (.getfield 21, 3) := by decide +kernel
theorem dX4_rain_8 : decode cX4_rain 8 = .ok (.iload_n 1, 1) := by decide +kernel
theorem dX4_rain_9 : decode cX4_rain 9 = .ok (.invokevirtual 139, 3) := by decide +kernel
theorem dX4_rain_12 : decode cX4_rain 12 = .ok (.iconst 0, 1) := by decide +kernel
theorem dX4_rain_13 : decode cX4_rain 13 = .ok (.istore_n 2, 1) := by decide +kernel
theorem dX4_rain_14 : decode cX4_rain 14 = .ok (.iload_n 2, 1) := by decide +kernel
theorem dX4_rain_15 : decode cX4_rain 15 = .ok (.bipush 24, 2) := by decide +kernel
theorem dX4_rain_17 : decode cX4_rain 17 = .ok (.if_icmp .ge 46, 3) := by decide +kernel
theorem dX4_rain_20 : decode cX4_rain 20 = .ok (.iconst 0, 1) := by decide +kernel
theorem dX4_rain_21 : decode cX4_rain 21 = .ok (.istore_n 3, 1) := by decide +kernel
theorem dX4_rain_22 : decode cX4_rain 22 = .ok (.iload_n 3, 1) := by decide +kernel
theorem dX4_rain_23 : decode cX4_rain 23 = .ok (.bipush 24, 2) := by decide +kernel
theorem dX4_rain_25 : decode cX4_rain 25 = .ok (.if_icmp .ge 32, 3) := by decide +kernel
theorem dX4_rain_28 : decode cX4_rain 28 = .ok (.aload_n 0, 1) := by decide +kernel
theorem dX4_rain_29 : decode cX4_rain 29 = .ok (.getfield 32, 3) := by decide +kernel
theorem dX4_rain_32 : decode cX4_rain 32 = .ok (.iload_n 2, 1) := by decide +kernel
theorem dX4_rain_33 : decode cX4_rain 33 = .ok (.bipush 24, 2) := by decide +kernel
theorem dX4_rain_35 : decode cX4_rain 35 = .ok (.imul, 1) := by decide +kernel
theorem dX4_rain_36 : decode cX4_rain 36 = .ok (.iload_n 3, 1) := by decide +kernel
theorem dX4_rain_37 : decode cX4_rain 37 = .ok (.iadd, 1) := by decide +kernel
theorem dX4_rain_38 : decode cX4_rain 38 = .ok (.dup2, 1) := by decide +kernel
theorem dX4_rain_39 : decode cX4_rain 39 = .ok (.iaload, 1) := by decide +kernel
theorem dX4_rain_40 : decode cX4_rain 40 = .ok (.aload_n 0, 1) := by decide +kernel
theorem dX4_rain_41 : decode cX4_rain 41 = .ok (.getfield 21, 3) := by decide +kernel
theorem dX4_rain_44 : decode cX4_rain 44 = .ok (.iload_n 3, 1) := by decide +kernel
theorem dX4_rain_45 : decode cX4_rain 45 = .ok (.iload_n 2, 1) := by decide +kernel
theorem dX4_rain_46 : decode cX4_rain 46 = .ok (.invokevirtual 142, 3) := by decide +kernel
theorem dX4_rain_49 : decode cX4_rain 49 = .ok (.iadd, 1) := by decide +kernel
theorem dX4_rain_50 : decode cX4_rain 50 = .ok (.iastore, 1) := by decide +kernel
theorem dX4_rain_51 : decode cX4_rain 51 = .ok (.iinc 3 1, 3) := by decide +kernel
theorem dX4_rain_54 : decode cX4_rain 54 = .ok (.goto (-32), 3) := by decide +kernel
theorem dX4_rain_57 : decode cX4_rain 57 = .ok (.iinc 2 1, 3) := by decide +kernel
theorem dX4_rain_60 : decode cX4_rain 60 = .ok (.goto (-46), 3) := by decide +kernel
theorem dX4_rain_63 : decode cX4_rain 63 = .ok (.iconst 0, 1) := by decide +kernel
theorem dX4_rain_64 : decode cX4_rain 64 = .ok (.istore_n 2, 1) := by decide +kernel
theorem dX4_rain_65 : decode cX4_rain 65 = .ok (.iload_n 2, 1) := by decide +kernel
theorem dX4_rain_66 : decode cX4_rain 66 = .ok (.aload_n 0, 1) := by decide +kernel
theorem dX4_rain_67 : decode cX4_rain 67 = .ok (.getfield 12, 3) := by decide +kernel
theorem dX4_rain_70 : decode cX4_rain 70 = .ok (.invokevirtual 63, 3) := by decide +kernel
theorem dX4_rain_73 : decode cX4_rain 73 = .ok (.if_icmp .ge 33, 3) := by decide +kernel
theorem dX4_rain_76 : decode cX4_rain 76 = .ok (.aload_n 0, 1) := by decide +kernel
theorem dX4_rain_77 : decode cX4_rain 77 = .ok (.getfield 12, 3) := by decide +kernel
theorem dX4_rain_80 : decode cX4_rain 80 = .ok (.iload_n 2, 1) := by decide +kernel
theorem dX4_rain_81 : decode cX4_rain 81 = .ok (.invokevirtual 81, 3) := by decide +kernel
theorem dX4_rain_84 : decode cX4_rain 84 = .ok (.dup, 1) := by decide +kernel
theorem dX4_rain_85 : decode cX4_rain 85 = .ok (.getfield 145, 3) := by decide +kernel
theorem dX4_rain_88 : decode cX4_rain 88 = .ok (.aload_n 0, 1) := by decide +kernel
theorem dX4_rain_89 : decode cX4_rain 89 = .ok (.getfield 21, 3) := by decide +kernel
theorem dX4_rain_92 : decode cX4_rain 92 = .ok (.iload_n 2, 1) := by decide +kernel
theorem dX4_rain_93 : decode cX4_rain 93 = .ok (.invokevirtual 148, 3) := by decide +kernel
theorem dX4_rain_96 : decode cX4_rain 96 = .ok (.iadd, 1) := by decide +kernel
theorem dX4_rain_97 : decode cX4_rain 97 = .ok (.putfield 145, 3) := by decide +kernel
theorem dX4_rain_100 : decode cX4_rain 100 = .ok (.iinc 2 1, 3) := by decide +kernel
theorem dX4_rain_103 : decode cX4_rain 103 = .ok (.goto (-38), 3) := by decide +kernel
theorem dX4_rain_106 : decode cX4_rain 106 = .ok (.aload_n 0, 1) := by decide +kernel
theorem dX4_rain_107 : decode cX4_rain 107 = .ok (.dup, 1) := by decide +kernel
theorem dX4_rain_108 : decode cX4_rain 108 = .ok (.getfield 36, 3) := by decide +kernel
theorem dX4_rain_111 : decode cX4_rain 111 = .ok (.iconst 1, 1) := by decide +kernel
theorem dX4_rain_112 : decode cX4_rain 112 = .ok (.iadd, 1) := by decide +kernel
theorem dX4_rain_113 : decode cX4_rain 113 = .ok (.putfield 36, 3) := by decide +kernel
theorem dX4_rain_116 : decode cX4_rain 116 = .ok (.aload_n 0, 1) := by decide +kernel
theorem dX4_rain_117 : decode cX4_rain 117 = .ok (.dup, 1) := by decide +kernel
theorem dX4_rain_118 : decode cX4_rain 118 = .ok (.getfield 40, 3) := by decide +kernel
theorem dX4_rain_121 : decode cX4_rain 121 = .ok (.aload_n 0, 1) := by decide +kernel
theorem dX4_rain_122 : decode cX4_rain 122 = .ok (.getfield 21, 3) := by decide +kernel
theorem dX4_rain_125 : decode cX4_rain 125 = .ok (.getfield 152, 3) := by decide +kernel
theorem dX4_rain_128 : decode cX4_rain 128 = .ok (.iadd, 1) := by decide +kernel
theorem dX4_rain_129 : decode cX4_rain 129 = .ok (.putfield 40, 3) := by decide +kernel
theorem dX4_rain_132 : decode cX4_rain 132 = .ok (.aload_n 0, 1) := by decide +kernel
theorem dX4_rain_133 : decode cX4_rain 133 = .ok (.dup, 1) := by decide +kernel
theorem dX4_rain_134 : decode cX4_rain 134 = .ok (.getfield 43, 3) := by decide +kernel
theorem dX4_rain_137 : decode cX4_rain 137 = .ok (.aload_n 0, 1) := by decide +kernel
theorem dX4_rain_138 : decode cX4_rain 138 = .ok (.getfield 21, 3) := by decide +kernel
theorem dX4_rain_141 : decode cX4_rain 141 = .ok (.getfield 155, 3) := by decide +kernel
theorem dX4_rain_144 : decode cX4_rain 144 = .ok (.iadd, 1) := by decide +kernel
theorem dX4_rain_145 : decode cX4_rain 145 = .ok (.putfield 43, 3) := by decide +kernel
theorem dX4_rain_148 : decode cX4_rain 148 = .ok (.aload_n 0, 1) := by decide +kernel
theorem dX4_rain_149 : decode cX4_rain 149 = .ok (.getfield 21, 3) := by decide +kernel
theorem dX4_rain_152 : decode cX4_rain 152 = .ok (.getfield 152, 3) := by decide +kernel
theorem dX4_rain_155 : decode cX4_rain 155 = .ok (.ireturn, 1) := by decide +kernel
theorem dX4_about_0 : decode cX4_about 0 = .ok (.aload_n 0, 1) := by decide +kernel
theorem dX4_about_1 : decode cX4_about 1 = .ok (.getfield 12, 3) := by decide +kernel
theorem dX4_about_4 : decode cX4_about 4 = .ok (.iload_n 1, 1) := by decide +kernel
theorem dX4_about_5 : decode cX4_about 5 = .ok (.invokevirtual 81, 3) := by decide +kernel
theorem dX4_about_8 : decode cX4_about 8 = .ok (.astore_n 3, 1) := by decide +kernel
theorem dX4_about_9 : decode cX4_about 9 = .ok (.iload_n 2, 1) := by decide +kernel
theorem dX4_about_10 : decode cX4_about 10 = .ok (.bipush 8, 2) := by decide +kernel
theorem dX4_about_12 : decode cX4_about 12 = .ok (.invokestatic 158, 3) := by decide +kernel
theorem dX4_about_15 : decode cX4_about 15 = .ok (.iload_n 2, 1) := by decide +kernel
theorem dX4_about_16 : decode cX4_about 16 = .ok (.tableswitch 100 0 7 #[48, 53, 58, 63, 68, 73, 78, 91], 48) := by decide +kernel
theorem dX4_about_64 : decode cX4_about 64 = .ok (.aload_n 3, 1) := by decide +kernel
theorem dX4_about_65 : decode cX4_about 65 = .ok (.getfield 98, 3) := by decide +kernel
theorem dX4_about_68 : decode cX4_about 68 = .ok (.ireturn, 1) := by decide +kernel
theorem dX4_about_69 : decode cX4_about 69 = .ok (.aload_n 3, 1) := by decide +kernel
theorem dX4_about_70 : decode cX4_about 70 = .ok (.getfield 101, 3) := by decide +kernel
theorem dX4_about_73 : decode cX4_about 73 = .ok (.ireturn, 1) := by decide +kernel
theorem dX4_about_74 : decode cX4_about 74 = .ok (.aload_n 3, 1) := by decide +kernel
theorem dX4_about_75 : decode cX4_about 75 = .ok (.getfield 92, 3) := by decide +kernel
theorem dX4_about_78 : decode cX4_about 78 = .ok (.ireturn, 1) := by decide +kernel
theorem dX4_about_79 : decode cX4_about 79 = .ok (.aload_n 3, 1) := by decide +kernel
theorem dX4_about_80 : decode cX4_about 80 = .ok (.getfield 95, 3) := by decide +kernel
theorem dX4_about_83 : decode cX4_about 83 = .ok (.ireturn, 1) := by decide +kernel
theorem dX4_about_84 : decode cX4_about 84 = .ok (.aload_n 3, 1) := by decide +kernel
theorem dX4_about_85 : decode cX4_about 85 = .ok (.getfield 161, 3) := by decide +kernel
theorem dX4_about_88 : decode cX4_about 88 = .ok (.ireturn, 1) := by decide +kernel
theorem dX4_about_89 : decode cX4_about 89 = .ok (.aload_n 3, 1) := by decide +kernel
theorem dX4_about_90 : decode cX4_about 90 = .ok (.getfield 164, 3) := by decide +kernel
theorem dX4_about_93 : decode cX4_about 93 = .ok (.ireturn, 1) := by decide +kernel
theorem dX4_about_94 : decode cX4_about 94 = .ok (.aload_n 3, 1) := by decide +kernel
theorem dX4_about_95 : decode cX4_about 95 = .ok (.getfield 85, 3) := by decide +kernel
theorem dX4_about_98 : decode cX4_about 98 = .ok (.ifCond .eq 7, 3) := by decide +kernel
theorem dX4_about_101 : decode cX4_about 101 = .ok (.iconst 1, 1) := by decide +kernel
theorem dX4_about_102 : decode cX4_about 102 = .ok (.goto 4, 3) := by decide +kernel
theorem dX4_about_105 : decode cX4_about 105 = .ok (.iconst 0, 1) := by decide +kernel
theorem dX4_about_106 : decode cX4_about 106 = .ok (.ireturn, 1) := by decide +kernel
theorem dX4_about_107 : decode cX4_about 107 = .ok (.aload_n 0, 1) := by decide +kernel
theorem dX4_about_108 : decode cX4_about 108 = .ok (.getfield 12, 3) := by decide +kernel
theorem dX4_about_111 : decode cX4_about 111 = .ok (.aload_n 3, 1) := by decide +kernel
theorem dX4_about_112 : decode cX4_about 112 = .ok (.invokevirtual 167, 3) := by decide +kernel
theorem dX4_about_115 : decode cX4_about 115 = .ok (.ireturn, 1) := by decide +kernel
theorem dX4_about_116 : decode cX4_about 116 = .ok (.aload_n 3, 1) := by decide +kernel
theorem dX4_about_117 : decode cX4_about 117 = .ok (.getfield 145, 3) := by decide +kernel
theorem dX4_about_120 : decode cX4_about 120 = .ok (.ireturn, 1) := by decide +kernel
theorem dX4_cell_0 : decode cX4_cell 0 = .ok (.iload_n 1, 1) := by decide +kernel
theorem dX4_cell_1 : decode cX4_cell 1 = .ok (.iload_n 2, 1) := by decide +kernel
theorem dX4_cell_2 : decode cX4_cell 2 = .ok (.invokestatic 111, 3) := by decide +kernel
theorem dX4_cell_5 : decode cX4_cell 5 = .ok (.iload_n 3, 1) := by decide +kernel
theorem dX4_cell_6 : decode cX4_cell 6 = .ok (.iconst 2, 1) := by decide +kernel
theorem dX4_cell_7 : decode cX4_cell 7 = .ok (.invokestatic 158, 3) := by decide +kernel
theorem dX4_cell_10 : decode cX4_cell 10 = .ok (.iload_n 3, 1) := by decide +kernel
theorem dX4_cell_11 : decode cX4_cell 11 = .ok (.lookupswitch 47 #[(0, 25), (1, 35)], 25) := by decide +kernel
theorem dX4_cell_36 : decode cX4_cell 36 = .ok (.aload_n 0, 1) := by decide +kernel
theorem dX4_cell_37 : decode cX4_cell 37 = .ok (.getfield 12, 3) := by decide +kernel
theorem dX4_cell_40 : decode cX4_cell 40 = .ok (.iload_n 1, 1) := by decide +kernel
theorem dX4_cell_41 : decode cX4_cell 41 = .ok (.iload_n 2, 1) := by decide +kernel
theorem dX4_cell_42 : decode cX4_cell 42 = .ok (.invokevirtual 171, 3) := by decide +kernel
theorem dX4_cell_45 : decode cX4_cell 45 = .ok (.ireturn, 1) := by decide +kernel
theorem dX4_cell_46 : decode cX4_cell 46 = .ok (.aload_n 0, 1) := by decide +kernel
theorem dX4_cell_47 : decode cX4_cell 47 = .ok (.getfield 12, 3) := by decide +kernel
theorem dX4_cell_50 : decode cX4_cell 50 = .ok (.bipush 10, 2) := by decide +kernel
theorem dX4_cell_52 : decode cX4_cell 52 = .ok (.iload_n 1, 1) := by decide +kernel
theorem dX4_cell_53 : decode cX4_cell 53 = .ok (.iload_n 2, 1) := by decide +kernel
theorem dX4_cell_54 : decode cX4_cell 54 = .ok (.invokevirtual 174, 3) := by decide +kernel
theorem dX4_cell_57 : decode cX4_cell 57 = .ok (.ireturn, 1) := by decide +kernel
theorem dX4_cell_58 : decode cX4_cell 58 = .ok (.aload_n 0, 1) := by decide +kernel
theorem dX4_cell_59 : decode cX4_cell 59 = .ok (.iload_n 1, 1) := by decide +kernel
theorem dX4_cell_60 : decode cX4_cell 60 = .ok (.iload_n 2, 1) := by decide +kernel
theorem dX4_cell_61 : decode cX4_cell 61 = .ok (.invokevirtual 125, 3) := by decide +kernel
theorem dX4_cell_64 : decode cX4_cell 64 = .ok (.ireturn, 1) := by decide +kernel
theorem dX4_cord_0 : decode cX4_cord 0 = .ok (.iload_n 1, 1) := by decide +kernel
theorem dX4_cord_1 : decode cX4_cord 1 = .ok (.ifCond .lt 9, 3) := by decide +kernel
theorem dX4_cord_4 : decode cX4_cord 4 = .ok (.iload_n 1, 1) := by decide +kernel
theorem dX4_cord_5 : decode cX4_cord 5 = .ok (.bipush 24, 2) := by decide +kernel
theorem dX4_cord_7 : decode cX4_cord 7 = .ok (.if_icmp .lt 13, 3) := by decide +kernel
theorem dX4_cord_10 : decode cX4_cord 10 = .ok (.new 178, 3) := by decide +kernel
theorem dX4_cord_13 : decode cX4_cord 13 = .ok (.dup, 1) := by decide +kernel
theorem dX4_cord_14 : decode cX4_cord 14 = .ok (.ldc 180, 2) := by decide +kernel
theorem dX4_cord_16 : decode cX4_cord 16 = .ok (.invokespecial 182, 3) := by decide +kernel
theorem dX4_cord_19 : decode cX4_cord 19 = .ok (.athrow, 1) := by decide +kernel
theorem dX4_cord_20 : decode cX4_cord 20 = .ok (.iload_n 2, 1) := by decide +kernel
theorem dX4_cord_21 : decode cX4_cord 21 = .ok (.iconst 3, 1) := by decide +kernel
theorem dX4_cord_22 : decode cX4_cord 22 = .ok (.invokestatic 158, 3) := by decide +kernel
theorem dX4_cord_25 : decode cX4_cord 25 = .ok (.iload_n 2, 1) := by decide +kernel
theorem dX4_cord_26 : decode cX4_cord 26 = .ok (.tableswitch 53 0 2 #[26, 35, 44], 26) := by decide +kernel
theorem dX4_cord_52 : decode cX4_cord 52 = .ok (.aload_n 0, 1) := by decide +kernel
theorem dX4_cord_53 : decode cX4_cord 53 = .ok (.getfield 12, 3) := by decide +kernel
theorem dX4_cord_56 : decode cX4_cord 56 = .ok (.iload_n 1, 1) := by decide +kernel
theorem dX4_cord_57 : decode cX4_cord 57 = .ok (.invokevirtual 183, 3) := by decide +kernel
theorem dX4_cord_60 : decode cX4_cord 60 = .ok (.ireturn, 1) := by decide +kernel
theorem dX4_cord_61 : decode cX4_cord 61 = .ok (.aload_n 0, 1) := by decide +kernel
theorem dX4_cord_62 : decode cX4_cord 62 = .ok (.getfield 12, 3) := by decide +kernel
theorem dX4_cord_65 : decode cX4_cord 65 = .ok (.iload_n 1, 1) := by decide +kernel
theorem dX4_cord_66 : decode cX4_cord 66 = .ok (.invokevirtual 186, 3) := by decide +kernel
theorem dX4_cord_69 : decode cX4_cord 69 = .ok (.ireturn, 1) := by decide +kernel
theorem dX4_cord_70 : decode cX4_cord 70 = .ok (.aload_n 0, 1) := by decide +kernel
theorem dX4_cord_71 : decode cX4_cord 71 = .ok (.getfield 12, 3) := by decide +kernel
theorem dX4_cord_74 : decode cX4_cord 74 = .ok (.iload_n 1, 1) := by decide +kernel
theorem dX4_cord_75 : decode cX4_cord 75 = .ok (.invokevirtual 189, 3) := by decide +kernel
theorem dX4_cord_78 : decode cX4_cord 78 = .ok (.ireturn, 1) := by decide +kernel
theorem dX4_cord_79 : decode cX4_cord 79 = .ok (.aload_n 0, 1) := by decide +kernel
theorem dX4_cord_80 : decode cX4_cord 80 = .ok (.getfield 12, 3) := by decide +kernel
theorem dX4_cord_83 : decode cX4_cord 83 = .ok (.iload_n 1, 1) := by decide +kernel
theorem dX4_cord_84 : decode cX4_cord 84 = .ok (.invokevirtual 192, 3) := by decide +kernel
theorem dX4_cord_87 : decode cX4_cord 87 = .ok (.ireturn, 1) := by decide +kernel
theorem dX4_told_0 : decode cX4_told 0 = .ok (.aload_n 0, 1) := by decide +kernel
theorem dX4_told_1 : decode cX4_told 1 = .ok (.iload_n 1, 1) := by decide +kernel
theorem dX4_told_2 : decode cX4_told 2 = .ok (.invokevirtual 195, 3) := by decide +kernel
theorem dX4_told_5 : decode cX4_told 5 = .ok (.astore_n 3, 1) := by decide +kernel
theorem dX4_told_6 : decode cX4_told 6 = .ok (.iload_n 2, 1) := by decide +kernel
theorem dX4_told_7 : decode cX4_told 7 = .ok (.iconst 3, 1) := by decide +kernel
theorem dX4_told_8 : decode cX4_told 8 = .ok (.invokestatic 158, 3) := by decide +kernel
theorem dX4_told_11 : decode cX4_told 11 = .ok (.iload_n 2, 1) := by decide +kernel
theorem dX4_told_12 : decode cX4_told 12 = .ok (.tableswitch 44 0 2 #[28, 33, 38], 28) := by decide +kernel
theorem dX4_told_40 : decode cX4_told 40 = .ok (.aload_n 3, 1) := by decide +kernel
theorem dX4_told_41 : decode cX4_told 41 = .ok (.getfield 199, 3) := by decide +kernel
theorem dX4_told_44 : decode cX4_told 44 = .ok (.ireturn, 1) := by decide +kernel
theorem dX4_told_45 : decode cX4_told 45 = .ok (.aload_n 3, 1) := by decide +kernel
theorem dX4_told_46 : decode cX4_told 46 = .ok (.getfield 200, 3) := by decide +kernel
theorem dX4_told_49 : decode cX4_told 49 = .ok (.ireturn, 1) := by decide +kernel
theorem dX4_told_50 : decode cX4_told 50 = .ok (.aload_n 0, 1) := by decide +kernel
theorem dX4_told_51 : decode cX4_told 51 = .ok (.aload_n 3, 1) := by decide +kernel
theorem dX4_told_52 : decode cX4_told 52 = .ok (.invokevirtual 201, 3) := by decide +kernel
theorem dX4_told_55 : decode cX4_told 55 = .ok (.ireturn, 1) := by decide +kernel
theorem dX4_told_56 : decode cX4_told 56 = .ok (.aload_n 0, 1) := by decide +kernel
theorem dX4_told_57 : decode cX4_told 57 = .ok (.getfield 12, 3) := by decide +kernel
theorem dX4_told_60 : decode cX4_told 60 = .ok (.aload_n 3, 1) := by decide +kernel
theorem dX4_told_61 : decode cX4_told 61 = .ok (.getfield 199, 3) := by decide +kernel
theorem dX4_told_64 : decode cX4_told 64 = .ok (.aload_n 3, 1) := by decide +kernel
theorem dX4_told_65 : decode cX4_told 65 = .ok (.getfield 200, 3) := by decide +kernel
theorem dX4_told_68 : decode cX4_told 68 = .ok (.invokevirtual 171, 3) := by decide +kernel
theorem dX4_told_71 : decode cX4_told 71 = .ok (.ireturn, 1) := by decide +kernel
theorem dX4_share_0 : decode cX4_share 0 = .ok (.aload_n 0, 1) := by decide +kernel
theorem dX4_share_1 : decode cX4_share 1 = .ok (.getfield 12, 3) := by decide +kernel
theorem dX4_share_4 : decode cX4_share 4 = .ok (.iload_n 1, 1) := by decide +kernel
theorem dX4_share_5 : decode cX4_share 5 = .ok (.invokevirtual 81, 3) := by decide +kernel
theorem dX4_share_8 : decode cX4_share 8 = .ok (.astore_n 3, 1) := by decide +kernel
theorem dX4_share_9 : decode cX4_share 9 = .ok (.aload_n 0, 1) := by decide +kernel
theorem dX4_share_10 : decode cX4_share 10 = .ok (.getfield 12, 3) := by decide +kernel
theorem dX4_share_13 : decode cX4_share 13 = .ok (.iload_n 2, 1) := by decide +kernel
theorem dX4_share_14 : decode cX4_share 14 = .ok (.invokevirtual 81, 3) := by decide +kernel
theorem dX4_share_17 : decode cX4_share 17 = .ok (.astore 4, 2) := by decide +kernel
theorem dX4_share_19 : decode cX4_share 19 = .ok (.aload_n 3, 1) := by decide +kernel
theorem dX4_share_20 : decode cX4_share 20 = .ok (.getfield 85, 3) := by decide +kernel
theorem dX4_share_23 : decode cX4_share 23 = .ok (.ifCond .eq 11, 3) := by decide +kernel
theorem dX4_share_26 : decode cX4_share 26 = .ok (.aload 4, 2) := by decide +kernel
theorem dX4_share_28 : decode cX4_share 28 = .ok (.getfield 85, 3) := by decide +kernel
theorem dX4_share_31 : decode cX4_share 31 = .ok (.ifCond .ne 5, 3) := by decide +kernel
theorem dX4_share_34 : decode cX4_share 34 = .ok (.iconst 0, 1) := by decide +kernel
theorem dX4_share_35 : decode cX4_share 35 = .ok (.ireturn, 1) := by decide +kernel
theorem dX4_share_36 : decode cX4_share 36 = .ok (.aload_n 3, 1) := by decide +kernel
theorem dX4_share_37 : decode cX4_share 37 = .ok (.getfield 98, 3) := by decide +kernel
theorem dX4_share_40 : decode cX4_share 40 = .ok (.aload_n 3, 1) := by decide +kernel
theorem dX4_share_41 : decode cX4_share 41 = .ok (.getfield 92, 3) := by decide +kernel
theorem dX4_share_44 : decode cX4_share 44 = .ok (.iadd, 1) := by decide +kernel
theorem dX4_share_45 : decode cX4_share 45 = .ok (.aload 4, 2) := by decide +kernel
theorem dX4_share_47 : decode cX4_share 47 = .ok (.getfield 98, 3) := by decide +kernel
theorem dX4_share_50 : decode cX4_share 50 = .ok (.aload 4, 2) := by decide +kernel
theorem dX4_share_52 : decode cX4_share 52 = .ok (.getfield 92, 3) := by decide +kernel
theorem dX4_share_55 : decode cX4_share 55 = .ok (.iadd, 1) := by decide +kernel
theorem dX4_share_56 : decode cX4_share 56 = .ok (.invokestatic 205, 3) := by decide +kernel
theorem dX4_share_59 : decode cX4_share 59 = .ok (.aload_n 3, 1) := by decide +kernel
theorem dX4_share_60 : decode cX4_share 60 = .ok (.getfield 98, 3) := by decide +kernel
theorem dX4_share_63 : decode cX4_share 63 = .ok (.aload 4, 2) := by decide +kernel
theorem dX4_share_65 : decode cX4_share 65 = .ok (.getfield 98, 3) := by decide +kernel
theorem dX4_share_68 : decode cX4_share 68 = .ok (.invokestatic 210, 3) := by decide +kernel
theorem dX4_share_71 : decode cX4_share 71 = .ok (.isub, 1) := by decide +kernel
theorem dX4_share_72 : decode cX4_share 72 = .ok (.istore 5, 2) := by decide +kernel
theorem dX4_share_74 : decode cX4_share 74 = .ok (.aload_n 3, 1) := by decide +kernel
theorem dX4_share_75 : decode cX4_share 75 = .ok (.getfield 101, 3) := by decide +kernel
theorem dX4_share_78 : decode cX4_share 78 = .ok (.aload_n 3, 1) := by decide +kernel
theorem dX4_share_79 : decode cX4_share 79 = .ok (.getfield 95, 3) := by decide +kernel
theorem dX4_share_82 : decode cX4_share 82 = .ok (.iadd, 1) := by decide +kernel
theorem dX4_share_83 : decode cX4_share 83 = .ok (.aload 4, 2) := by decide +kernel
theorem dX4_share_85 : decode cX4_share 85 = .ok (.getfield 101, 3) := by decide +kernel
theorem dX4_share_88 : decode cX4_share 88 = .ok (.aload 4, 2) := by decide +kernel
theorem dX4_share_90 : decode cX4_share 90 = .ok (.getfield 95, 3) := by decide +kernel
theorem dX4_share_93 : decode cX4_share 93 = .ok (.iadd, 1) := by decide +kernel
theorem dX4_share_94 : decode cX4_share 94 = .ok (.invokestatic 205, 3) := by decide +kernel
theorem dX4_share_97 : decode cX4_share 97 = .ok (.aload_n 3, 1) := by decide +kernel
theorem dX4_share_98 : decode cX4_share 98 = .ok (.getfield 101, 3) := by decide +kernel
theorem dX4_share_101 : decode cX4_share 101 = .ok (.aload 4, 2) := by decide +kernel
theorem dX4_share_103 : decode cX4_share 103 = .ok (.getfield 101, 3) := by decide +kernel
theorem dX4_share_106 : decode cX4_share 106 = .ok (.invokestatic 210, 3) := by decide +kernel
theorem dX4_share_109 : decode cX4_share 109 = .ok (.isub, 1) := by decide +kernel
theorem dX4_share_110 : decode cX4_share 110 = .ok (.istore 6, 2) := by decide +kernel
theorem dX4_share_112 : decode cX4_share 112 = .ok (.iload 5, 2) := by decide +kernel
theorem dX4_share_114 : decode cX4_share 114 = .ok (.ifCond .le 16, 3) := by decide +kernel
theorem dX4_share_117 : decode cX4_share 117 = .ok (.iload 6, 2) := by decide +kernel
theorem dX4_share_119 : decode cX4_share 119 = .ok (.ifCond .le 11, 3) := by decide +kernel
theorem dX4_share_122 : decode cX4_share 122 = .ok (.iload 5, 2) := by decide +kernel
theorem dX4_share_124 : decode cX4_share 124 = .ok (.iload 6, 2) := by decide +kernel
theorem dX4_share_126 : decode cX4_share 126 = .ok (.imul, 1) := by decide +kernel
theorem dX4_share_127 : decode cX4_share 127 = .ok (.goto 4, 3) := by decide +kernel
theorem dX4_share_130 : decode cX4_share 130 = .ok (.iconst 0, 1) := by decide +kernel
theorem dX4_share_131 : decode cX4_share 131 = .ok (.ireturn, 1) := by decide +kernel
theorem dX4_count_0 : decode cX4_count 0 = .ok (.iload_n 1, 1) := by decide +kernel
theorem dX4_count_1 : decode cX4_count 1 = .ok (.bipush 10, 2) := by decide +kernel
theorem dX4_count_3 : decode cX4_count 3 = .ok (.invokestatic 158, 3) := by decide +kernel
theorem dX4_count_6 : decode cX4_count 6 = .ok (.iload_n 1, 1) := by decide +kernel
theorem dX4_count_7 : decode cX4_count 7 = .ok (.tableswitch 125 0 9 #[53, 61, 69, 77, 85, 93, 101, 110, 115, 120], 53) := by decide +kernel
theorem dX4_count_60 : decode cX4_count 60 = .ok (.aload_n 0, 1) := by decide +kernel
theorem dX4_count_61 : decode cX4_count 61 = .ok (.getfield 12, 3) := by decide +kernel
theorem dX4_count_64 : decode cX4_count 64 = .ok (.invokevirtual 63, 3) := by decide +kernel
theorem dX4_count_67 : decode cX4_count 67 = .ok (.ireturn, 1) := by decide +kernel
theorem dX4_count_68 : decode cX4_count 68 = .ok (.aload_n 0, 1) := by decide +kernel
theorem dX4_count_69 : decode cX4_count 69 = .ok (.getfield 12, 3) := by decide +kernel
theorem dX4_count_72 : decode cX4_count 72 = .ok (.invokevirtual 213, 3) := by decide +kernel
theorem dX4_count_75 : decode cX4_count 75 = .ok (.ireturn, 1) := by decide +kernel
theorem dX4_count_76 : decode cX4_count 76 = .ok (.aload_n 0, 1) := by decide +kernel
theorem dX4_count_77 : decode cX4_count 77 = .ok (.getfield 28, 3) := by decide +kernel
theorem dX4_count_80 : decode cX4_count 80 = .ok (.invokevirtual 114, 3) := by decide +kernel
theorem dX4_count_83 : decode cX4_count 83 = .ok (.ireturn, 1) := by decide +kernel
theorem dX4_count_84 : decode cX4_count 84 = .ok (.aload_n 0, 1) := by decide +kernel
theorem dX4_count_85 : decode cX4_count 85 = .ok (.getfield 12, 3) := by decide +kernel
theorem dX4_count_88 : decode cX4_count 88 = .ok (.invokevirtual 104, 3) := by decide +kernel
theorem dX4_count_91 : decode cX4_count 91 = .ok (.ireturn, 1) := by decide +kernel
theorem dX4_count_92 : decode cX4_count 92 = .ok (.aload_n 0, 1) := by decide +kernel
theorem dX4_count_93 : decode cX4_count 93 = .ok (.getfield 12, 3) := by decide +kernel
theorem dX4_count_96 : decode cX4_count 96 = .ok (.invokevirtual 216, 3) := by decide +kernel
theorem dX4_count_99 : decode cX4_count 99 = .ok (.ireturn, 1) := by decide +kernel
theorem dX4_count_100 : decode cX4_count 100 = .ok (.aload_n 0, 1) := by decide +kernel
theorem dX4_count_101 : decode cX4_count 101 = .ok (.getfield 12, 3) := by decide +kernel
theorem dX4_count_104 : decode cX4_count 104 = .ok (.invokevirtual 219, 3) := by decide +kernel
theorem dX4_count_107 : decode cX4_count 107 = .ok (.ireturn, 1) := by decide +kernel
theorem dX4_count_108 : decode cX4_count 108 = .ok (.aload_n 0, 1) := by decide +kernel
theorem dX4_count_109 : decode cX4_count 109 = .ok (.getfield 12, 3) := by decide +kernel
theorem dX4_count_112 : decode cX4_count 112 = .ok (.iconst 2, 1) := by decide +kernel
theorem dX4_count_113 : decode cX4_count 113 = .ok (.invokevirtual 222, 3) := by decide +kernel
theorem dX4_count_116 : decode cX4_count 116 = .ok (.ireturn, 1) := by decide +kernel
theorem dX4_count_117 : decode cX4_count 117 = .ok (.aload_n 0, 1) := by decide +kernel
theorem dX4_count_118 : decode cX4_count 118 = .ok (.getfield 36, 3) := by decide +kernel
theorem dX4_count_121 : decode cX4_count 121 = .ok (.ireturn, 1) := by decide +kernel
theorem dX4_count_122 : decode cX4_count 122 = .ok (.aload_n 0, 1) := by decide +kernel
theorem dX4_count_123 : decode cX4_count 123 = .ok (.getfield 40, 3) := by decide +kernel
theorem dX4_count_126 : decode cX4_count 126 = .ok (.ireturn, 1) := by decide +kernel
theorem dX4_count_127 : decode cX4_count 127 = .ok (.aload_n 0, 1) := by decide +kernel
theorem dX4_count_128 : decode cX4_count 128 = .ok (.getfield 43, 3) := by decide +kernel
theorem dX4_count_131 : decode cX4_count 131 = .ok (.ireturn, 1) := by decide +kernel
theorem dX4_count_132 : decode cX4_count 132 = .ok (.aload_n 0, 1) := by decide +kernel
theorem dX4_count_133 : decode cX4_count 133 = .ok (.invokevirtual 225, 3) := by decide +kernel
theorem dX4_count_136 : decode cX4_count 136 = .ok (.ireturn, 1) := by decide +kernel
theorem dX4_advise_0 : decode cX4_advise 0 = .ok (.iconst (-1), 1) := by decide +kernel
theorem dX4_advise_1 : decode cX4_advise 1 = .ok (.istore_n 1, 1) := by decide +kernel
theorem dX4_advise_2 : decode cX4_advise 2 = .ok (.sipush 577, 3) := by decide +kernel
theorem dX4_advise_5 : decode cX4_advise 5 = .ok (.istore_n 2, 1) := by decide +kernel
theorem dX4_advise_6 : decode cX4_advise 6 = .ok (.iconst 0, 1) := by decide +kernel
theorem dX4_advise_7 : decode cX4_advise 7 = .ok (.istore_n 3, 1) := by decide +kernel
theorem dX4_advise_8 : decode cX4_advise 8 = .ok (.iload_n 3, 1) := by decide +kernel
theorem dX4_advise_9 : decode cX4_advise 9 = .ok (.aload_n 0, 1) := by decide +kernel
theorem dX4_advise_10 : decode cX4_advise 10 = .ok (.getfield 12, 3) := by decide +kernel
theorem dX4_advise_13 : decode cX4_advise 13 = .ok (.invokevirtual 63, 3) := by decide +kernel
theorem dX4_advise_16 : decode cX4_advise 16 = .ok (.if_icmp .ge 52, 3) := by decide +kernel
theorem dX4_advise_19 : decode cX4_advise 19 = .ok (.aload_n 0, 1) := by decide +kernel
theorem dX4_advise_20 : decode cX4_advise 20 = .ok (.getfield 12, 3) := by decide +kernel
theorem dX4_advise_23 : decode cX4_advise 23 = .ok (.iload_n 3, 1) := by decide +kernel
theorem dX4_advise_24 : decode cX4_advise 24 = .ok (.invokevirtual 81, 3) := by decide +kernel
theorem dX4_advise_27 : decode cX4_advise 27 = .ok (.astore 4, 2) := by decide +kernel
theorem dX4_advise_29 : decode cX4_advise 29 = .ok (.aload 4, 2) := by decide +kernel
theorem dX4_advise_31 : decode cX4_advise 31 = .ok (.getfield 85, 3) := by decide +kernel
theorem dX4_advise_34 : decode cX4_advise 34 = .ok (.ifCond .ne 6, 3) := by decide +kernel
theorem dX4_advise_37 : decode cX4_advise 37 = .ok (.goto 25, 3) := by decide +kernel
theorem dX4_advise_40 : decode cX4_advise 40 = .ok (.aload_n 0, 1) := by decide +kernel
theorem dX4_advise_41 : decode cX4_advise 41 = .ok (.getfield 12, 3) := by decide +kernel
theorem dX4_advise_44 : decode cX4_advise 44 = .ok (.aload 4, 2) := by decide +kernel
theorem dX4_advise_46 : decode cX4_advise 46 = .ok (.invokevirtual 167, 3) := by decide +kernel
theorem dX4_advise_49 : decode cX4_advise 49 = .ok (.istore 5, 2) := by decide +kernel
theorem dX4_advise_51 : decode cX4_advise 51 = .ok (.iload 5, 2) := by decide +kernel
theorem dX4_advise_53 : decode cX4_advise 53 = .ok (.iload_n 2, 1) := by decide +kernel
theorem dX4_advise_54 : decode cX4_advise 54 = .ok (.if_icmp .ge 8, 3) := by decide +kernel
theorem dX4_advise_57 : decode cX4_advise 57 = .ok (.iload 5, 2) := by decide +kernel
theorem dX4_advise_59 : decode cX4_advise 59 = .ok (.istore_n 2, 1) := by decide +kernel
theorem dX4_advise_60 : decode cX4_advise 60 = .ok (.iload_n 3, 1) := by decide +kernel
theorem dX4_advise_61 : decode cX4_advise 61 = .ok (.istore_n 1, 1) := by decide +kernel
theorem dX4_advise_62 : decode cX4_advise 62 = .ok (.iinc 3 1, 3) := by decide +kernel
theorem dX4_advise_65 : decode cX4_advise 65 = .ok (.goto (-57), 3) := by decide +kernel
theorem dX4_advise_68 : decode cX4_advise 68 = .ok (.iload_n 1, 1) := by decide +kernel
theorem dX4_advise_69 : decode cX4_advise 69 = .ok (.ireturn, 1) := by decide +kernel
theorem dX4_mean_0 : decode cX4_mean 0 = .ok (.aload_n 0, 1) := by decide +kernel
theorem dX4_mean_1 : decode cX4_mean 1 = .ok (.getfield 28, 3) := by decide +kernel
theorem dX4_mean_4 : decode cX4_mean 4 = .ok (.invokevirtual 114, 3) := by decide +kernel
theorem dX4_mean_7 : decode cX4_mean 7 = .ok (.istore_n 1, 1) := by decide +kernel
theorem dX4_mean_8 : decode cX4_mean 8 = .ok (.iload_n 1, 1) := by decide +kernel
theorem dX4_mean_9 : decode cX4_mean 9 = .ok (.ifCond .ne 5, 3) := by decide +kernel
theorem dX4_mean_12 : decode cX4_mean 12 = .ok (.dconst 0, 1) := by decide +kernel
theorem dX4_mean_13 : decode cX4_mean 13 = .ok (.dreturn, 1) := by decide +kernel
theorem dX4_mean_14 : decode cX4_mean 14 = .ok (.iconst 0, 1) := by decide +kernel
theorem dX4_mean_15 : decode cX4_mean 15 = .ok (.istore_n 2, 1) := by decide +kernel
theorem dX4_mean_16 : decode cX4_mean 16 = .ok (.iconst 0, 1) := by decide +kernel
theorem dX4_mean_17 : decode cX4_mean 17 = .ok (.istore_n 3, 1) := by decide +kernel
theorem dX4_mean_18 : decode cX4_mean 18 = .ok (.iload_n 3, 1) := by decide +kernel
theorem dX4_mean_19 : decode cX4_mean 19 = .ok (.iload_n 1, 1) := by decide +kernel
theorem dX4_mean_20 : decode cX4_mean 20 = .ok (.if_icmp .ge 21, 3) := by decide +kernel
theorem dX4_mean_23 : decode cX4_mean 23 = .ok (.iload_n 2, 1) := by decide +kernel
theorem dX4_mean_24 : decode cX4_mean 24 = .ok (.aload_n 0, 1) := by decide +kernel
theorem dX4_mean_25 : decode cX4_mean 25 = .ok (.aload_n 0, 1) := by decide +kernel
theorem dX4_mean_26 : decode cX4_mean 26 = .ok (.iload_n 3, 1) := by decide +kernel
theorem dX4_mean_27 : decode cX4_mean 27 = .ok (.invokevirtual 195, 3) := by decide +kernel
theorem dX4_mean_30 : decode cX4_mean 30 = .ok (.invokevirtual 201, 3) := by decide +kernel
theorem dX4_mean_33 : decode cX4_mean 33 = .ok (.iadd, 1) := by decide +kernel
theorem dX4_mean_34 : decode cX4_mean 34 = .ok (.istore_n 2, 1) := by decide +kernel
theorem dX4_mean_35 : decode cX4_mean 35 = .ok (.iinc 3 1, 3) := by decide +kernel
theorem dX4_mean_38 : decode cX4_mean 38 = .ok (.goto (-20), 3) := by decide +kernel
theorem dX4_mean_41 : decode cX4_mean 41 = .ok (.iload_n 2, 1) := by decide +kernel
theorem dX4_mean_42 : decode cX4_mean 42 = .ok (.i2d, 1) := by decide +kernel
theorem dX4_mean_43 : decode cX4_mean 43 = .ok (.iload_n 1, 1) := by decide +kernel
theorem dX4_mean_44 : decode cX4_mean 44 = .ok (.i2d, 1) := by decide +kernel
theorem dX4_mean_45 : decode cX4_mean 45 = .ok (.ddiv, 1) := by decide +kernel
theorem dX4_mean_46 : decode cX4_mean 46 = .ok (.dreturn, 1) := by decide +kernel
theorem dX4_digest_0 : decode cX4_digest 0 = .ok (.ldc2_w 232, 3) := by decide +kernel
theorem dX4_digest_3 : decode cX4_digest 3 = .ok (.lstore_n 1, 1) := by decide +kernel
theorem dX4_digest_4 : decode cX4_digest 4 = .ok (.iconst 0, 1) := by decide +kernel
theorem dX4_digest_5 : decode cX4_digest 5 = .ok (.istore_n 3, 1) := by decide +kernel
theorem dX4_digest_6 : decode cX4_digest 6 = .ok (.iload_n 3, 1) := by decide +kernel
theorem dX4_digest_7 : decode cX4_digest 7 = .ok (.bipush 10, 2) := by decide +kernel
theorem dX4_digest_9 : decode cX4_digest 9 = .ok (.if_icmp .gt 22, 3) := by decide +kernel
theorem dX4_digest_12 : decode cX4_digest 12 = .ok (.lload_n 1, 1) := by decide +kernel
theorem dX4_digest_13 : decode cX4_digest 13 = .ok (.ldc2_w 234, 3) := by decide +kernel
theorem dX4_digest_16 : decode cX4_digest 16 = .ok (.lmul, 1) := by decide +kernel
theorem dX4_digest_17 : decode cX4_digest 17 = .ok (.aload_n 0, 1) := by decide +kernel
theorem dX4_digest_18 : decode cX4_digest 18 = .ok (.iload_n 3, 1) := by decide +kernel
theorem dX4_digest_19 : decode cX4_digest 19 = .ok (.invokevirtual 236, 3) := by decide +kernel
theorem dX4_digest_22 : decode cX4_digest 22 = .ok (.i2l, 1) := by decide +kernel
theorem dX4_digest_23 : decode cX4_digest 23 = .ok (.ladd, 1) := by decide +kernel
theorem dX4_digest_24 : decode cX4_digest 24 = .ok (.lstore_n 1, 1) := by decide +kernel
theorem dX4_digest_25 : decode cX4_digest 25 = .ok (.iinc 3 1, 3) := by decide +kernel
theorem dX4_digest_28 : decode cX4_digest 28 = .ok (.goto (-22), 3) := by decide +kernel
theorem dX4_digest_31 : decode cX4_digest 31 = .ok (.iconst 0, 1) := by decide +kernel
theorem dX4_digest_32 : decode cX4_digest 32 = .ok (.istore_n 3, 1) := by decide +kernel
theorem dX4_digest_33 : decode cX4_digest 33 = .ok (.iload_n 3, 1) := by decide +kernel
theorem dX4_digest_34 : decode cX4_digest 34 = .ok (.aload_n 0, 1) := by decide +kernel
theorem dX4_digest_35 : decode cX4_digest 35 = .ok (.getfield 12, 3) := by decide +kernel
theorem dX4_digest_38 : decode cX4_digest 38 = .ok (.invokevirtual 63, 3) := by decide +kernel
theorem dX4_digest_41 : decode cX4_digest 41 = .ok (.if_icmp .ge 40, 3) := by decide +kernel
theorem dX4_digest_44 : decode cX4_digest 44 = .ok (.iconst 0, 1) := by decide +kernel
theorem dX4_digest_45 : decode cX4_digest 45 = .ok (.istore 4, 2) := by decide +kernel
theorem dX4_digest_47 : decode cX4_digest 47 = .ok (.iload 4, 2) := by decide +kernel
theorem dX4_digest_49 : decode cX4_digest 49 = .ok (.bipush 8, 2) := by decide +kernel
theorem dX4_digest_51 : decode cX4_digest 51 = .ok (.if_icmp .gt 24, 3) := by decide +kernel
theorem dX4_digest_54 : decode cX4_digest 54 = .ok (.lload_n 1, 1) := by decide +kernel
theorem dX4_digest_55 : decode cX4_digest 55 = .ok (.ldc2_w 234, 3) := by decide +kernel
theorem dX4_digest_58 : decode cX4_digest 58 = .ok (.lmul, 1) := by decide +kernel
theorem dX4_digest_59 : decode cX4_digest 59 = .ok (.aload_n 0, 1) := by decide +kernel
theorem dX4_digest_60 : decode cX4_digest 60 = .ok (.iload_n 3, 1) := by decide +kernel
theorem dX4_digest_61 : decode cX4_digest 61 = .ok (.iload 4, 2) := by decide +kernel
theorem dX4_digest_63 : decode cX4_digest 63 = .ok (.invokevirtual 239, 3) := by decide +kernel
theorem dX4_digest_66 : decode cX4_digest 66 = .ok (.i2l, 1) := by decide +kernel
theorem dX4_digest_67 : decode cX4_digest 67 = .ok (.ladd, 1) := by decide +kernel
theorem dX4_digest_68 : decode cX4_digest 68 = .ok (.lstore_n 1, 1) := by decide +kernel
theorem dX4_digest_69 : decode cX4_digest 69 = .ok (.iinc 4 1, 3) := by decide +kernel
theorem dX4_digest_72 : decode cX4_digest 72 = .ok (.goto (-25), 3) := by decide +kernel
theorem dX4_digest_75 : decode cX4_digest 75 = .ok (.iinc 3 1, 3) := by decide +kernel
theorem dX4_digest_78 : decode cX4_digest 78 = .ok (.goto (-45), 3) := by decide +kernel
theorem dX4_digest_81 : decode cX4_digest 81 = .ok (.iconst 0, 1) := by decide +kernel
theorem dX4_digest_82 : decode cX4_digest 82 = .ok (.istore_n 3, 1) := by decide +kernel
theorem dX4_digest_83 : decode cX4_digest 83 = .ok (.iload_n 3, 1) := by decide +kernel
theorem dX4_digest_84 : decode cX4_digest 84 = .ok (.aload_n 0, 1) := by decide +kernel
theorem dX4_digest_85 : decode cX4_digest 85 = .ok (.getfield 28, 3) := by decide +kernel
theorem dX4_digest_88 : decode cX4_digest 88 = .ok (.invokevirtual 114, 3) := by decide +kernel
theorem dX4_digest_91 : decode cX4_digest 91 = .ok (.if_icmp .ge 39, 3) := by decide +kernel
theorem dX4_digest_94 : decode cX4_digest 94 = .ok (.iconst 0, 1) := by decide +kernel
theorem dX4_digest_95 : decode cX4_digest 95 = .ok (.istore 4, 2) := by decide +kernel
theorem dX4_digest_97 : decode cX4_digest 97 = .ok (.iload 4, 2) := by decide +kernel
theorem dX4_digest_99 : decode cX4_digest 99 = .ok (.iconst 3, 1) := by decide +kernel
theorem dX4_digest_100 : decode cX4_digest 100 = .ok (.if_icmp .gt 24, 3) := by decide +kernel
theorem dX4_digest_103 : decode cX4_digest 103 = .ok (.lload_n 1, 1) := by decide +kernel
theorem dX4_digest_104 : decode cX4_digest 104 = .ok (.ldc2_w 234, 3) := by decide +kernel
theorem dX4_digest_107 : decode cX4_digest 107 = .ok (.lmul, 1) := by decide +kernel
theorem dX4_digest_108 : decode cX4_digest 108 = .ok (.aload_n 0, 1) := by decide +kernel
theorem dX4_digest_109 : decode cX4_digest 109 = .ok (.iload_n 3, 1) := by decide +kernel
theorem dX4_digest_110 : decode cX4_digest 110 = .ok (.iload 4, 2) := by decide +kernel
theorem dX4_digest_112 : decode cX4_digest 112 = .ok (.invokevirtual 242, 3) := by decide +kernel
theorem dX4_digest_115 : decode cX4_digest 115 = .ok (.i2l, 1) := by decide +kernel
theorem dX4_digest_116 : decode cX4_digest 116 = .ok (.ladd, 1) := by decide +kernel
theorem dX4_digest_117 : decode cX4_digest 117 = .ok (.lstore_n 1, 1) := by decide +kernel
theorem dX4_digest_118 : decode cX4_digest 118 = .ok (.iinc 4 1, 3) := by decide +kernel
theorem dX4_digest_121 : decode cX4_digest 121 = .ok (.goto (-24), 3) := by decide +kernel
theorem dX4_digest_124 : decode cX4_digest 124 = .ok (.iinc 3 1, 3) := by decide +kernel
theorem dX4_digest_127 : decode cX4_digest 127 = .ok (.goto (-44), 3) := by decide +kernel
theorem dX4_digest_130 : decode cX4_digest 130 = .ok (.iconst 0, 1) := by decide +kernel
theorem dX4_digest_131 : decode cX4_digest 131 = .ok (.istore_n 3, 1) := by decide +kernel
theorem dX4_digest_132 : decode cX4_digest 132 = .ok (.iload_n 3, 1) := by decide +kernel
theorem dX4_digest_133 : decode cX4_digest 133 = .ok (.bipush 24, 2) := by decide +kernel
theorem dX4_digest_135 : decode cX4_digest 135 = .ok (.if_icmp .ge 16, 3) := by decide +kernel
theorem dX4_digest_138 : decode cX4_digest 138 = .ok (.aload_n 0, 1) := by decide +kernel
theorem dX4_digest_139 : decode cX4_digest 139 = .ok (.lload_n 1, 1) := by decide +kernel
theorem dX4_digest_140 : decode cX4_digest 140 = .ok (.iload_n 3, 1) := by decide +kernel
theorem dX4_digest_141 : decode cX4_digest 141 = .ok (.invokevirtual 245, 3) := by decide +kernel
theorem dX4_digest_144 : decode cX4_digest 144 = .ok (.lstore_n 1, 1) := by decide +kernel
theorem dX4_digest_145 : decode cX4_digest 145 = .ok (.iinc 3 1, 3) := by decide +kernel
theorem dX4_digest_148 : decode cX4_digest 148 = .ok (.goto (-16), 3) := by decide +kernel
theorem dX4_digest_151 : decode cX4_digest 151 = .ok (.lload_n 1, 1) := by decide +kernel
theorem dX4_digest_152 : decode cX4_digest 152 = .ok (.lreturn, 1) := by decide +kernel
theorem dX4_digestOfColumn_0 : decode cX4_digestOfColumn 0 = .ok (.lload_n 1, 1) := by decide +kernel
theorem dX4_digestOfColumn_1 : decode cX4_digestOfColumn 1 = .ok (.lstore 4, 2) := by decide +kernel
theorem dX4_digestOfColumn_3 : decode cX4_digestOfColumn 3 = .ok (.iconst 0, 1) := by decide +kernel
theorem dX4_digestOfColumn_4 : decode cX4_digestOfColumn 4 = .ok (.istore 6, 2) := by decide +kernel
theorem dX4_digestOfColumn_6 : decode cX4_digestOfColumn 6 = .ok (.iload 6, 2) := by decide +kernel
theorem dX4_digestOfColumn_8 : decode cX4_digestOfColumn 8 = .ok (.iconst 3, 1) := by decide +kernel
theorem dX4_digestOfColumn_9 : decode cX4_digestOfColumn 9 = .ok (.if_icmp .gt 26, 3) := by decide +kernel
theorem dX4_digestOfColumn_12 : decode cX4_digestOfColumn 12 = .ok (.lload 4, 2) := by decide +kernel
theorem dX4_digestOfColumn_14 : decode cX4_digestOfColumn 14 = .ok (.ldc2_w 234, 3) := by decide +kernel
theorem dX4_digestOfColumn_17 : decode cX4_digestOfColumn 17 = .ok (.lmul, 1) := by decide +kernel
theorem dX4_digestOfColumn_18 : decode cX4_digestOfColumn 18 = .ok (.aload_n 0, 1) := by decide +kernel
theorem dX4_digestOfColumn_19 : decode cX4_digestOfColumn 19 = .ok (.iload_n 3, 1) := by decide +kernel
theorem dX4_digestOfColumn_20 : decode cX4_digestOfColumn 20 = .ok (.iload 6, 2) := by decide +kernel
theorem dX4_digestOfColumn_22 : decode cX4_digestOfColumn 22 = .ok (.invokevirtual 249, 3) := by decide +kernel
theorem dX4_digestOfColumn_25 : decode cX4_digestOfColumn 25 = .ok (.i2l, 1) := by decide +kernel
theorem dX4_digestOfColumn_26 : decode cX4_digestOfColumn 26 = .ok (.ladd, 1) := by decide +kernel
theorem dX4_digestOfColumn_27 : decode cX4_digestOfColumn 27 = .ok (.lstore 4, 2) := by decide +kernel
theorem dX4_digestOfColumn_29 : decode cX4_digestOfColumn 29 = .ok (.iinc 6 1, 3) := by decide +kernel
theorem dX4_digestOfColumn_32 : decode cX4_digestOfColumn 32 = .ok (.goto (-26), 3) := by decide +kernel
theorem dX4_digestOfColumn_35 : decode cX4_digestOfColumn 35 = .ok (.iconst 0, 1) := by decide +kernel
theorem dX4_digestOfColumn_36 : decode cX4_digestOfColumn 36 = .ok (.istore 6, 2) := by decide +kernel
theorem dX4_digestOfColumn_38 : decode cX4_digestOfColumn 38 = .ok (.iload 6, 2) := by decide +kernel
theorem dX4_digestOfColumn_40 : decode cX4_digestOfColumn 40 = .ok (.bipush 24, 2) := by decide +kernel
theorem dX4_digestOfColumn_42 : decode cX4_digestOfColumn 42 = .ok (.if_icmp .ge 43, 3) := by decide +kernel
theorem dX4_digestOfColumn_45 : decode cX4_digestOfColumn 45 = .ok (.iconst 0, 1) := by decide +kernel
theorem dX4_digestOfColumn_46 : decode cX4_digestOfColumn 46 = .ok (.istore 7, 2) := by decide +kernel
theorem dX4_digestOfColumn_48 : decode cX4_digestOfColumn 48 = .ok (.iload 7, 2) := by decide +kernel
theorem dX4_digestOfColumn_50 : decode cX4_digestOfColumn 50 = .ok (.iconst 2, 1) := by decide +kernel
theorem dX4_digestOfColumn_51 : decode cX4_digestOfColumn 51 = .ok (.if_icmp .gt 28, 3) := by decide +kernel
theorem dX4_digestOfColumn_54 : decode cX4_digestOfColumn 54 = .ok (.lload 4, 2) := by decide +kernel
theorem dX4_digestOfColumn_56 : decode cX4_digestOfColumn 56 = .ok (.ldc2_w 234, 3) := by decide +kernel
theorem dX4_digestOfColumn_59 : decode cX4_digestOfColumn 59 = .ok (.lmul, 1) := by decide +kernel
theorem dX4_digestOfColumn_60 : decode cX4_digestOfColumn 60 = .ok (.aload_n 0, 1) := by decide +kernel
theorem dX4_digestOfColumn_61 : decode cX4_digestOfColumn 61 = .ok (.iload_n 3, 1) := by decide +kernel
theorem dX4_digestOfColumn_62 : decode cX4_digestOfColumn 62 = .ok (.iload 6, 2) := by decide +kernel
theorem dX4_digestOfColumn_64 : decode cX4_digestOfColumn 64 = .ok (.iload 7, 2) := by decide +kernel
theorem dX4_digestOfColumn_66 : decode cX4_digestOfColumn 66 = .ok (.invokevirtual 252, 3) := by decide +kernel
theorem dX4_digestOfColumn_69 : decode cX4_digestOfColumn 69 = .ok (.i2l, 1) := by decide +kernel
theorem dX4_digestOfColumn_70 : decode cX4_digestOfColumn 70 = .ok (.ladd, 1) := by decide +kernel
theorem dX4_digestOfColumn_71 : decode cX4_digestOfColumn 71 = .ok (.lstore 4, 2) := by decide +kernel
theorem dX4_digestOfColumn_73 : decode cX4_digestOfColumn 73 = .ok (.iinc 7 1, 3) := by decide +kernel
theorem dX4_digestOfColumn_76 : decode cX4_digestOfColumn 76 = .ok (.goto (-28), 3) := by decide +kernel
theorem dX4_digestOfColumn_79 : decode cX4_digestOfColumn 79 = .ok (.iinc 6 1, 3) := by decide +kernel
theorem dX4_digestOfColumn_82 : decode cX4_digestOfColumn 82 = .ok (.goto (-44), 3) := by decide +kernel
theorem dX4_digestOfColumn_85 : decode cX4_digestOfColumn 85 = .ok (.lload 4, 2) := by decide +kernel
theorem dX4_digestOfColumn_87 : decode cX4_digestOfColumn 87 = .ok (.lreturn, 1) := by decide +kernel
theorem dX4_numberedStall_0 : decode cX4_numberedStall 0 = .ok (.iload_n 1, 1) := by decide +kernel
theorem dX4_numberedStall_1 : decode cX4_numberedStall 1 = .ok (.ifCond .lt 14, 3) := by decide +kernel
theorem dX4_numberedStall_4 : decode cX4_numberedStall 4 = .ok (.iload_n 1, 1) := by decide +kernel
theorem dX4_numberedStall_5 : decode cX4_numberedStall 5 = .ok (.aload_n 0, 1) := by decide +kernel
theorem dX4_numberedStall_6 : decode cX4_numberedStall 6 = .ok (.getfield 28, 3) := by decide +kernel
theorem dX4_numberedStall_9 : decode cX4_numberedStall 9 = .ok (.invokevirtual 114, 3) := by decide +kernel
theorem dX4_numberedStall_12 : decode cX4_numberedStall 12 = .ok (.if_icmp .lt 13, 3) := by decide +kernel
theorem dX4_numberedStall_15 : decode cX4_numberedStall 15 = .ok (.new 178, 3) := by decide +kernel
theorem dX4_numberedStall_18 : decode cX4_numberedStall 18 = .ok (.dup, 1) := by decide +kernel
theorem dX4_numberedStall_19 : decode cX4_numberedStall 19 = .ok (.ldc 255, 2) := by decide +kernel
theorem dX4_numberedStall_21 : decode cX4_numberedStall 21 = .ok (.invokespecial 182, 3) := by decide +kernel
theorem dX4_numberedStall_24 : decode cX4_numberedStall 24 = .ok (.athrow, 1) := by decide +kernel
theorem dX4_numberedStall_25 : decode cX4_numberedStall 25 = .ok (.aload_n 0, 1) := by decide +kernel
theorem dX4_numberedStall_26 : decode cX4_numberedStall 26 = .ok (.getfield 28, 3) := by decide +kernel
theorem dX4_numberedStall_29 : decode cX4_numberedStall 29 = .ok (.iload_n 1, 1) := by decide +kernel
theorem dX4_numberedStall_30 : decode cX4_numberedStall 30 = .ok (.invokevirtual 257, 3) := by decide +kernel
theorem dX4_numberedStall_33 : decode cX4_numberedStall 33 = .ok (.checkcast 123, 3) := by decide +kernel
theorem dX4_numberedStall_36 : decode cX4_numberedStall 36 = .ok (.areturn, 1) := by decide +kernel
theorem dX4_hasStallAt_0 : decode cX4_hasStallAt 0 = .ok (.iconst 0, 1) := by decide +kernel
theorem dX4_hasStallAt_1 : decode cX4_hasStallAt 1 = .ok (.istore_n 3, 1) := by decide +kernel
theorem dX4_hasStallAt_2 : decode cX4_hasStallAt 2 = .ok (.iload_n 3, 1) := by decide +kernel
theorem dX4_hasStallAt_3 : decode cX4_hasStallAt 3 = .ok (.aload_n 0, 1) := by decide +kernel
theorem dX4_hasStallAt_4 : decode cX4_hasStallAt 4 = .ok (.getfield 28, 3) := by decide +kernel
theorem dX4_hasStallAt_7 : decode cX4_hasStallAt 7 = .ok (.invokevirtual 114, 3) := by decide +kernel
theorem dX4_hasStallAt_10 : decode cX4_hasStallAt 10 = .ok (.if_icmp .ge 42, 3) := by decide +kernel
theorem dX4_hasStallAt_13 : decode cX4_hasStallAt 13 = .ok (.aload_n 0, 1) := by decide +kernel
theorem dX4_hasStallAt_14 : decode cX4_hasStallAt 14 = .ok (.getfield 28, 3) := by decide +kernel
theorem dX4_hasStallAt_17 : decode cX4_hasStallAt 17 = .ok (.iload_n 3, 1) := by decide +kernel
theorem dX4_hasStallAt_18 : decode cX4_hasStallAt 18 = .ok (.invokevirtual 257, 3) := by decide +kernel
theorem dX4_hasStallAt_21 : decode cX4_hasStallAt 21 = .ok (.checkcast 123, 3) := by decide +kernel
theorem dX4_hasStallAt_24 : decode cX4_hasStallAt 24 = .ok (.astore 4, 2) := by decide +kernel
theorem dX4_hasStallAt_26 : decode cX4_hasStallAt 26 = .ok (.aload 4, 2) := by decide +kernel
theorem dX4_hasStallAt_28 : decode cX4_hasStallAt 28 = .ok (.getfield 199, 3) := by decide +kernel
theorem dX4_hasStallAt_31 : decode cX4_hasStallAt 31 = .ok (.iload_n 1, 1) := by decide +kernel
theorem dX4_hasStallAt_32 : decode cX4_hasStallAt 32 = .ok (.if_icmp .ne 14, 3) := by decide +kernel
theorem dX4_hasStallAt_35 : decode cX4_hasStallAt 35 = .ok (.aload 4, 2) := by decide +kernel
theorem dX4_hasStallAt_37 : decode cX4_hasStallAt 37 = .ok (.getfield 200, 3) := by decide +kernel
theorem dX4_hasStallAt_40 : decode cX4_hasStallAt 40 = .ok (.iload_n 2, 1) := by decide +kernel
theorem dX4_hasStallAt_41 : decode cX4_hasStallAt 41 = .ok (.if_icmp .ne 5, 3) := by decide +kernel
theorem dX4_hasStallAt_44 : decode cX4_hasStallAt 44 = .ok (.iconst 1, 1) := by decide +kernel
theorem dX4_hasStallAt_45 : decode cX4_hasStallAt 45 = .ok (.ireturn, 1) := by decide +kernel
theorem dX4_hasStallAt_46 : decode cX4_hasStallAt 46 = .ok (.iinc 3 1, 3) := by decide +kernel
theorem dX4_hasStallAt_49 : decode cX4_hasStallAt 49 = .ok (.goto (-47), 3) := by decide +kernel
theorem dX4_hasStallAt_52 : decode cX4_hasStallAt 52 = .ok (.iconst 0, 1) := by decide +kernel
theorem dX4_hasStallAt_53 : decode cX4_hasStallAt 53 = .ok (.ireturn, 1) := by decide +kernel
theorem dX4_stallsNotCovered_0 : decode cX4_stallsNotCovered 0 = .ok (.iconst 0, 1) := by decide +kernel
theorem dX4_stallsNotCovered_1 : decode cX4_stallsNotCovered 1 = .ok (.istore_n 1, 1) := by decide +kernel
theorem dX4_stallsNotCovered_2 : decode cX4_stallsNotCovered 2 = .ok (.iconst 0, 1) := by decide +kernel
theorem dX4_stallsNotCovered_3 : decode cX4_stallsNotCovered 3 = .ok (.istore_n 2, 1) := by decide +kernel
theorem dX4_stallsNotCovered_4 : decode cX4_stallsNotCovered 4 = .ok (.iload_n 2, 1) := by decide +kernel
theorem dX4_stallsNotCovered_5 : decode cX4_stallsNotCovered 5 = .ok (.aload_n 0, 1) := by decide +kernel
theorem dX4_stallsNotCovered_6 : decode cX4_stallsNotCovered 6 = .ok (.getfield 28, 3) := by decide +kernel
theorem dX4_stallsNotCovered_9 : decode cX4_stallsNotCovered 9 = .ok (.invokevirtual 114, 3) := by decide +kernel
theorem dX4_stallsNotCovered_12 : decode cX4_stallsNotCovered 12 = .ok (.if_icmp .ge 42, 3) := by decide +kernel
theorem dX4_stallsNotCovered_15 : decode cX4_stallsNotCovered 15 = .ok (.aload_n 0, 1) := by decide +kernel
theorem dX4_stallsNotCovered_16 : decode cX4_stallsNotCovered 16 = .ok (.getfield 28, 3) := by decide +kernel
theorem dX4_stallsNotCovered_19 : decode cX4_stallsNotCovered 19 = .ok (.iload_n 2, 1) := by decide +kernel
theorem dX4_stallsNotCovered_20 : decode cX4_stallsNotCovered 20 = .ok (.invokevirtual 257, 3) := by decide +kernel
theorem dX4_stallsNotCovered_23 : decode cX4_stallsNotCovered 23 = .ok (.checkcast 123, 3) := by decide +kernel
theorem dX4_stallsNotCovered_26 : decode cX4_stallsNotCovered 26 = .ok (.astore_n 3, 1) := by decide +kernel
theorem dX4_stallsNotCovered_27 : decode cX4_stallsNotCovered 27 = .ok (.aload_n 0, 1) := by decide +kernel
theorem dX4_stallsNotCovered_28 : decode cX4_stallsNotCovered 28 = .ok (.getfield 12, 3) := by decide +kernel
theorem dX4_stallsNotCovered_31 : decode cX4_stallsNotCovered 31 = .ok (.aload_n 3, 1) := by decide +kernel
theorem dX4_stallsNotCovered_32 : decode cX4_stallsNotCovered 32 = .ok (.getfield 199, 3) := by decide +kernel
theorem dX4_stallsNotCovered_35 : decode cX4_stallsNotCovered 35 = .ok (.aload_n 3, 1) := by decide +kernel
theorem dX4_stallsNotCovered_36 : decode cX4_stallsNotCovered 36 = .ok (.getfield 200, 3) := by decide +kernel
theorem dX4_stallsNotCovered_39 : decode cX4_stallsNotCovered 39 = .ok (.invokevirtual 171, 3) := by decide +kernel
theorem dX4_stallsNotCovered_42 : decode cX4_stallsNotCovered 42 = .ok (.ifCond .ne 6, 3) := by decide +kernel
theorem dX4_stallsNotCovered_45 : decode cX4_stallsNotCovered 45 = .ok (.iinc 1 1, 3) := by decide +kernel
theorem dX4_stallsNotCovered_48 : decode cX4_stallsNotCovered 48 = .ok (.iinc 2 1, 3) := by decide +kernel
theorem dX4_stallsNotCovered_51 : decode cX4_stallsNotCovered 51 = .ok (.goto (-47), 3) := by decide +kernel
theorem dX4_stallsNotCovered_54 : decode cX4_stallsNotCovered 54 = .ok (.iload_n 1, 1) := by decide +kernel
theorem dX4_stallsNotCovered_55 : decode cX4_stallsNotCovered 55 = .ok (.ireturn, 1) := by decide +kernel
theorem dX4_gotBy_0 : decode cX4_gotBy 0 = .ok (.aload_n 0, 1) := by decide +kernel
theorem dX4_gotBy_1 : decode cX4_gotBy 1 = .ok (.aload_n 1, 1) := by decide +kernel
theorem dX4_gotBy_2 : decode cX4_gotBy 2 = .ok (.getfield 199, 3) := by decide +kernel
theorem dX4_gotBy_5 : decode cX4_gotBy 5 = .ok (.aload_n 1, 1) := by decide +kernel
theorem dX4_gotBy_6 : decode cX4_gotBy 6 = .ok (.getfield 200, 3) := by decide +kernel
theorem dX4_gotBy_9 : decode cX4_gotBy 9 = .ok (.invokevirtual 125, 3) := by decide +kernel
theorem dX4_gotBy_12 : decode cX4_gotBy 12 = .ok (.aload_n 1, 1) := by decide +kernel
theorem dX4_gotBy_13 : decode cX4_gotBy 13 = .ok (.getfield 261, 3) := by decide +kernel
theorem dX4_gotBy_16 : decode cX4_gotBy 16 = .ok (.isub, 1) := by decide +kernel
theorem dX4_gotBy_17 : decode cX4_gotBy 17 = .ok (.ireturn, 1) := by decide +kernel
theorem dX4_groundAt_0 : decode cX4_groundAt 0 = .ok (.iload_n 1, 1) := by decide +kernel
theorem dX4_groundAt_1 : decode cX4_groundAt 1 = .ok (.iload_n 2, 1) := by decide +kernel
theorem dX4_groundAt_2 : decode cX4_groundAt 2 = .ok (.invokestatic 264, 3) := by decide +kernel
theorem dX4_groundAt_5 : decode cX4_groundAt 5 = .ok (.ifCond .eq 17, 3) := by decide +kernel
theorem dX4_groundAt_8 : decode cX4_groundAt 8 = .ok (.aload_n 0, 1) := by decide +kernel
theorem dX4_groundAt_9 : decode cX4_groundAt 9 = .ok (.getfield 32, 3) := by decide +kernel
theorem dX4_groundAt_12 : decode cX4_groundAt 12 = .ok (.iload_n 2, 1) := by decide +kernel
theorem dX4_groundAt_13 : decode cX4_groundAt 13 = .ok (.bipush 24, 2) := by decide +kernel
theorem dX4_groundAt_15 : decode cX4_groundAt 15 = .ok (.imul, 1) := by decide +kernel
theorem dX4_groundAt_16 : decode cX4_groundAt 16 = .ok (.iload_n 1, 1) := by decide +kernel
theorem dX4_groundAt_17 : decode cX4_groundAt 17 = .ok (.iadd, 1) := by decide +kernel
theorem dX4_groundAt_18 : decode cX4_groundAt 18 = .ok (.iaload, 1) := by decide +kernel
theorem dX4_groundAt_19 : decode cX4_groundAt 19 = .ok (.goto 4, 3) := by decide +kernel
theorem dX4_groundAt_22 : decode cX4_groundAt 22 = .ok (.iconst 0, 1) := by decide +kernel
theorem dX4_groundAt_23 : decode cX4_groundAt 23 = .ok (.ireturn, 1) := by decide +kernel
theorem dX4_isCell_0 : decode cX4_isCell 0 = .ok (.iload_n 0, 1) := by decide +kernel
theorem dX4_isCell_1 : decode cX4_isCell 1 = .ok (.ifCond .lt 23, 3) := by decide +kernel
theorem dX4_isCell_4 : decode cX4_isCell 4 = .ok (.iload_n 0, 1) := by decide +kernel
theorem dX4_isCell_5 : decode cX4_isCell 5 = .ok (.bipush 24, 2) := by decide +kernel
theorem dX4_isCell_7 : decode cX4_isCell 7 = .ok (.if_icmp .ge 17, 3) := by decide +kernel
theorem dX4_isCell_10 : decode cX4_isCell 10 = .ok (.iload_n 1, 1) := by decide +kernel
theorem dX4_isCell_11 : decode cX4_isCell 11 = .ok (.ifCond .lt 13, 3) := by decide +kernel
theorem dX4_isCell_14 : decode cX4_isCell 14 = .ok (.iload_n 1, 1) := by decide +kernel
theorem dX4_isCell_15 : decode cX4_isCell 15 = .ok (.bipush 24, 2) := by decide +kernel
theorem dX4_isCell_17 : decode cX4_isCell 17 = .ok (.if_icmp .ge 7, 3) := by decide +kernel
theorem dX4_isCell_20 : decode cX4_isCell 20 = .ok (.iconst 1, 1) := by decide +kernel
theorem dX4_isCell_21 : decode cX4_isCell 21 = .ok (.goto 4, 3) := by decide +kernel
theorem dX4_isCell_24 : decode cX4_isCell 24 = .ok (.iconst 0, 1) := by decide +kernel
theorem dX4_isCell_25 : decode cX4_isCell 25 = .ok (.ireturn, 1) := by decide +kernel
theorem dX4_requireCell_0 : decode cX4_requireCell 0 = .ok (.iload_n 0, 1) := by decide +kernel
theorem dX4_requireCell_1 : decode cX4_requireCell 1 = .ok (.iload_n 1, 1) := by decide +kernel
theorem dX4_requireCell_2 : decode cX4_requireCell 2 = .ok (.invokestatic 264, 3) := by decide +kernel
theorem dX4_requireCell_5 : decode cX4_requireCell 5 = .ok (.ifCond .ne 14, 3) := by decide +kernel
theorem dX4_requireCell_8 : decode cX4_requireCell 8 = .ok (.new 178, 3) := by decide +kernel
theorem dX4_requireCell_11 : decode cX4_requireCell 11 = .ok (.dup, 1) := by decide +kernel
theorem dX4_requireCell_12 : decode cX4_requireCell 12 = .ok (.ldc_w 267, 3) := by decide +kernel
theorem dX4_requireCell_15 : decode cX4_requireCell 15 = .ok (.invokespecial 182, 3) := by decide +kernel
theorem dX4_requireCell_18 : decode cX4_requireCell 18 = .ok (.athrow, 1) := by decide +kernel
theorem dX4_requireCell_19 : decode cX4_requireCell 19 = .ok (.return_, 1) := by decide +kernel
theorem dX4_requireExtent_0 : decode cX4_requireExtent 0 = .ok (.iload_n 0, 1) := by decide +kernel
theorem dX4_requireExtent_1 : decode cX4_requireExtent 1 = .ok (.iconst 1, 1) := by decide +kernel
theorem dX4_requireExtent_2 : decode cX4_requireExtent 2 = .ok (.if_icmp .lt 20, 3) := by decide +kernel
theorem dX4_requireExtent_5 : decode cX4_requireExtent 5 = .ok (.iload_n 0, 1) := by decide +kernel
theorem dX4_requireExtent_6 : decode cX4_requireExtent 6 = .ok (.bipush 24, 2) := by decide +kernel
theorem dX4_requireExtent_8 : decode cX4_requireExtent 8 = .ok (.if_icmp .gt 14, 3) := by decide +kernel
theorem dX4_requireExtent_11 : decode cX4_requireExtent 11 = .ok (.iload_n 1, 1) := by decide +kernel
theorem dX4_requireExtent_12 : decode cX4_requireExtent 12 = .ok (.iconst 1, 1) := by decide +kernel
theorem dX4_requireExtent_13 : decode cX4_requireExtent 13 = .ok (.if_icmp .lt 9, 3) := by decide +kernel
theorem dX4_requireExtent_16 : decode cX4_requireExtent 16 = .ok (.iload_n 1, 1) := by decide +kernel
theorem dX4_requireExtent_17 : decode cX4_requireExtent 17 = .ok (.bipush 24, 2) := by decide +kernel
theorem dX4_requireExtent_19 : decode cX4_requireExtent 19 = .ok (.if_icmp .le 14, 3) := by decide +kernel
theorem dX4_requireExtent_22 : decode cX4_requireExtent 22 = .ok (.new 50, 3) := by decide +kernel
theorem dX4_requireExtent_25 : decode cX4_requireExtent 25 = .ok (.dup, 1) := by decide +kernel
theorem dX4_requireExtent_26 : decode cX4_requireExtent 26 = .ok (.ldc_w 269, 3) := by decide +kernel
theorem dX4_requireExtent_29 : decode cX4_requireExtent 29 = .ok (.invokespecial 54, 3) := by decide +kernel
theorem dX4_requireExtent_32 : decode cX4_requireExtent 32 = .ok (.athrow, 1) := by decide +kernel
theorem dX4_requireExtent_33 : decode cX4_requireExtent 33 = .ok (.return_, 1) := by decide +kernel
theorem dX4_requireRoomInSquare_0 : decode cX4_requireRoomInSquare 0 = .ok (.iload_n 0, 1) := by decide +kernel
theorem dX4_requireRoomInSquare_1 : decode cX4_requireRoomInSquare 1 = .ok (.ifCond .lt 23, 3) := by decide +kernel
theorem dX4_requireRoomInSquare_4 : decode cX4_requireRoomInSquare 4 = .ok (.iload_n 1, 1) := by decide +kernel
theorem dX4_requireRoomInSquare_5 : decode cX4_requireRoomInSquare 5 = .ok (.ifCond .lt 19, 3) := by decide +kernel
theorem dX4_requireRoomInSquare_8 : decode cX4_requireRoomInSquare 8 = .ok (.iload_n 0, 1) := by decide +kernel
theorem dX4_requireRoomInSquare_9 : decode cX4_requireRoomInSquare 9 = .ok (.bipush 24, 2) := by decide +kernel
theorem dX4_requireRoomInSquare_11 : decode cX4_requireRoomInSquare 11 = .ok (.iload_n 2, 1) := by decide +kernel
theorem dX4_requireRoomInSquare_12 : decode cX4_requireRoomInSquare 12 = .ok (.isub, 1) := by decide +kernel
theorem dX4_requireRoomInSquare_13 : decode cX4_requireRoomInSquare 13 = .ok (.if_icmp .gt 11, 3) := by decide +kernel
theorem dX4_requireRoomInSquare_16 : decode cX4_requireRoomInSquare 16 = .ok (.iload_n 1, 1) := by decide +kernel
theorem dX4_requireRoomInSquare_17 : decode cX4_requireRoomInSquare 17 = .ok (.bipush 24, 2) := by decide +kernel
theorem dX4_requireRoomInSquare_19 : decode cX4_requireRoomInSquare 19 = .ok (.iload_n 3, 1) := by decide +kernel
theorem dX4_requireRoomInSquare_20 : decode cX4_requireRoomInSquare 20 = .ok (.isub, 1) := by decide +kernel
theorem dX4_requireRoomInSquare_21 : decode cX4_requireRoomInSquare 21 = .ok (.if_icmp .le 14, 3) := by decide +kernel
theorem dX4_requireRoomInSquare_24 : decode cX4_requireRoomInSquare 24 = .ok (.new 178, 3) := by decide +kernel
theorem dX4_requireRoomInSquare_27 : decode cX4_requireRoomInSquare 27 = .ok (.dup, 1) := by decide +kernel
theorem dX4_requireRoomInSquare_28 : decode cX4_requireRoomInSquare 28 = .ok (.ldc_w 271, 3) := by decide +kernel
theorem dX4_requireRoomInSquare_31 : decode cX4_requireRoomInSquare 31 = .ok (.invokespecial 182, 3) := by decide +kernel
theorem dX4_requireRoomInSquare_34 : decode cX4_requireRoomInSquare 34 = .ok (.athrow, 1) := by decide +kernel
theorem dX4_requireRoomInSquare_35 : decode cX4_requireRoomInSquare 35 = .ok (.return_, 1) := by decide +kernel
theorem dX4_requireDrops_0 : decode cX4_requireDrops 0 = .ok (.iload_n 0, 1) := by decide +kernel
theorem dX4_requireDrops_1 : decode cX4_requireDrops 1 = .ok (.iconst 1, 1) := by decide +kernel
theorem dX4_requireDrops_2 : decode cX4_requireDrops 2 = .ok (.if_icmp .lt 9, 3) := by decide +kernel
theorem dX4_requireDrops_5 : decode cX4_requireDrops 5 = .ok (.iload_n 0, 1) := by decide +kernel
theorem dX4_requireDrops_6 : decode cX4_requireDrops 6 = .ok (.bipush 20, 2) := by decide +kernel
theorem dX4_requireDrops_8 : decode cX4_requireDrops 8 = .ok (.if_icmp .le 14, 3) := by decide +kernel
theorem dX4_requireDrops_11 : decode cX4_requireDrops 11 = .ok (.new 50, 3) := by decide +kernel
theorem dX4_requireDrops_14 : decode cX4_requireDrops 14 = .ok (.dup, 1) := by decide +kernel
theorem dX4_requireDrops_15 : decode cX4_requireDrops 15 = .ok (.ldc_w 273, 3) := by decide +kernel
theorem dX4_requireDrops_18 : decode cX4_requireDrops 18 = .ok (.invokespecial 54, 3) := by decide +kernel
theorem dX4_requireDrops_21 : decode cX4_requireDrops 21 = .ok (.athrow, 1) := by decide +kernel
theorem dX4_requireDrops_22 : decode cX4_requireDrops 22 = .ok (.return_, 1) := by decide +kernel
theorem dX4_requireWhat_0 : decode cX4_requireWhat 0 = .ok (.iload_n 0, 1) := by decide +kernel
theorem dX4_requireWhat_1 : decode cX4_requireWhat 1 = .ok (.ifCond .lt 8, 3) := by decide +kernel
theorem dX4_requireWhat_4 : decode cX4_requireWhat 4 = .ok (.iload_n 0, 1) := by decide +kernel
theorem dX4_requireWhat_5 : decode cX4_requireWhat 5 = .ok (.iload_n 1, 1) := by decide +kernel
theorem dX4_requireWhat_6 : decode cX4_requireWhat 6 = .ok (.if_icmp .le 14, 3) := by decide +kernel
theorem dX4_requireWhat_9 : decode cX4_requireWhat 9 = .ok (.new 178, 3) := by decide +kernel
theorem dX4_requireWhat_12 : decode cX4_requireWhat 12 = .ok (.dup, 1) := by decide +kernel
theorem dX4_requireWhat_13 : decode cX4_requireWhat 13 = .ok (.ldc_w 275, 3) := by decide +kernel
theorem dX4_requireWhat_16 : decode cX4_requireWhat 16 = .ok (.invokespecial 182, 3) := by decide +kernel
theorem dX4_requireWhat_19 : decode cX4_requireWhat 19 = .ok (.athrow, 1) := by decide +kernel
theorem dX4_requireWhat_20 : decode cX4_requireWhat 20 = .ok (.return_, 1) := by decide +kernel
theorem dX5_init_0 : decode cX5_init 0 = .ok (.aload_n 0, 1) := by decide +kernel
theorem dX5_init_1 : decode cX5_init 1 = .ok (.invokespecial 1, 3) := by decide +kernel
theorem dX5_init_4 : decode cX5_init 4 = .ok (.aload_n 0, 1) := by decide +kernel
theorem dX5_init_5 : decode cX5_init 5 = .ok (.iconst 0, 1) := by decide +kernel
theorem dX5_init_6 : decode cX5_init 6 = .ok (.anewarray 7, 3) := by decide +kernel
theorem dX5_init_9 : decode cX5_init 9 = .ok (.putfield 9, 3) := by decide +kernel
theorem dX5_init_12 : decode cX5_init 12 = .ok (.aload_n 0, 1) := by decide +kernel
theorem dX5_init_13 : decode cX5_init 13 = .ok (.iconst 0, 1) := by decide +kernel
theorem dX5_init_14 : decode cX5_init 14 = .ok (.anewarray 7, 3) := by decide +kernel
theorem dX5_init_17 : decode cX5_init 17 = .ok (.putfield 15, 3) := by decide +kernel
theorem dX5_init_20 : decode cX5_init 20 = .ok (.aload_n 0, 1) := by decide +kernel
theorem dX5_init_21 : decode cX5_init 21 = .ok (.bipush 24, 2) := by decide +kernel
theorem dX5_init_23 : decode cX5_init 23 = .ok (.bipush 24, 2) := by decide +kernel
theorem dX5_init_25 : decode cX5_init 25 = .ok (.multianewarray 18 2, 4) := by decide +kernel
theorem dX5_init_29 : decode cX5_init 29 = .ok (.putfield 19, 3) := by decide +kernel
theorem dX5_init_32 : decode cX5_init 32 = .ok (.return_, 1) := by decide +kernel
theorem dX5_with_0 : decode cX5_with 0 = .ok (.aload_n 0, 1) := by decide +kernel
theorem dX5_with_1 : decode cX5_with 1 = .ok (.arraylength, 1) := by decide +kernel
theorem dX5_with_2 : decode cX5_with 2 = .ok (.iconst 1, 1) := by decide +kernel
theorem dX5_with_3 : decode cX5_with 3 = .ok (.iadd, 1) := by decide +kernel
theorem dX5_with_4 : decode cX5_with 4 = .ok (.anewarray 7, 3) := by decide +kernel
theorem dX5_with_7 : decode cX5_with 7 = .ok (.astore_n 2, 1) := by decide +kernel
theorem dX5_with_8 : decode cX5_with 8 = .ok (.iconst 0, 1) := by decide +kernel
theorem dX5_with_9 : decode cX5_with 9 = .ok (.istore_n 3, 1) := by decide +kernel
theorem dX5_with_10 : decode cX5_with 10 = .ok (.iload_n 3, 1) := by decide +kernel
theorem dX5_with_11 : decode cX5_with 11 = .ok (.aload_n 0, 1) := by decide +kernel
theorem dX5_with_12 : decode cX5_with 12 = .ok (.arraylength, 1) := by decide +kernel
theorem dX5_with_13 : decode cX5_with 13 = .ok (.if_icmp .ge 15, 3) := by decide +kernel
theorem dX5_with_16 : decode cX5_with 16 = .ok (.aload_n 2, 1) := by decide +kernel
theorem dX5_with_17 : decode cX5_with 17 = .ok (.iload_n 3, 1) := by decide +kernel
theorem dX5_with_18 : decode cX5_with 18 = .ok (.aload_n 0, 1) := by decide +kernel
theorem dX5_with_19 : decode cX5_with 19 = .ok (.iload_n 3, 1) := by decide +kernel
theorem dX5_with_20 : decode cX5_with 20 = .ok (.aaload, 1) := by decide +kernel
theorem dX5_with_21 : decode cX5_with 21 = .ok (.aastore, 1) := by decide +kernel
theorem dX5_with_22 : decode cX5_with 22 = .ok (.iinc 3 1, 3) := by decide +kernel
theorem dX5_with_25 : decode cX5_with 25 = .ok (.goto (-15), 3) := by decide +kernel
theorem dX5_with_28 : decode cX5_with 28 = .ok (.aload_n 2, 1) := by decide +kernel
theorem dX5_with_29 : decode cX5_with 29 = .ok (.aload_n 0, 1) := by decide +kernel
theorem dX5_with_30 : decode cX5_with 30 = .ok (.arraylength, 1) := by decide +kernel
theorem dX5_with_31 : decode cX5_with 31 = .ok (.aload_n 1, 1) := by decide +kernel
theorem dX5_with_32 : decode cX5_with 32 = .ok (.aastore, 1) := by decide +kernel
theorem dX5_with_33 : decode cX5_with 33 = .ok (.aload_n 2, 1) := by decide +kernel
theorem dX5_with_34 : decode cX5_with 34 = .ok (.areturn, 1) := by decide +kernel
theorem dX5_without_0 : decode cX5_without 0 = .ok (.aload_n 0, 1) := by decide +kernel
theorem dX5_without_1 : decode cX5_without 1 = .ok (.arraylength, 1) := by decide +kernel
theorem dX5_without_2 : decode cX5_without 2 = .ok (.iconst 1, 1) := by decide +kernel
theorem dX5_without_3 : decode cX5_without 3 = .ok (.isub, 1) := by decide +kernel
theorem dX5_without_4 : decode cX5_without 4 = .ok (.anewarray 7, 3) := by decide +kernel
theorem dX5_without_7 : decode cX5_without 7 = .ok (.astore_n 2, 1) := by decide +kernel
theorem dX5_without_8 : decode cX5_without 8 = .ok (.iconst 0, 1) := by decide +kernel
theorem dX5_without_9 : decode cX5_without 9 = .ok (.istore_n 3, 1) := by decide +kernel
theorem dX5_without_10 : decode cX5_without 10 = .ok (.iload_n 3, 1) := by decide +kernel
theorem dX5_without_11 : decode cX5_without 11 = .ok (.aload_n 2, 1) := by decide +kernel
theorem dX5_without_12 : decode cX5_without 12 = .ok (.arraylength, 1) := by decide +kernel
theorem dX5_without_13 : decode cX5_without 13 = .ok (.if_icmp .ge 26, 3) := by decide +kernel
theorem dX5_without_16 : decode cX5_without 16 = .ok (.aload_n 2, 1) := by decide +kernel
theorem dX5_without_17 : decode cX5_without 17 = .ok (.iload_n 3, 1) := by decide +kernel
theorem dX5_without_18 : decode cX5_without 18 = .ok (.aload_n 0, 1) := by decide +kernel
theorem dX5_without_19 : decode cX5_without 19 = .ok (.iload_n 3, 1) := by decide +kernel
theorem dX5_without_20 : decode cX5_without 20 = .ok (.iload_n 1, 1) := by decide +kernel
theorem dX5_without_21 : decode cX5_without 21 = .ok (.if_icmp .ge 7, 3) := by decide +kernel
theorem dX5_without_24 : decode cX5_without 24 = .ok (.iload_n 3, 1) := by decide +kernel
theorem dX5_without_25 : decode cX5_without 25 = .ok (.goto 6, 3) := by decide +kernel
theorem dX5_without_28 : decode cX5_without 28 = .ok (.iload_n 3, 1) := by decide +kernel
theorem dX5_without_29 : decode cX5_without 29 = .ok (.iconst 1, 1) := by decide +kernel
theorem dX5_without_30 : decode cX5_without 30 = .ok (.iadd, 1) := by decide +kernel
theorem dX5_without_31 : decode cX5_without 31 = .ok (.aaload, 1) := by decide +kernel
theorem dX5_without_32 : decode cX5_without 32 = .ok (.aastore, 1) := by decide +kernel
theorem dX5_without_33 : decode cX5_without 33 = .ok (.iinc 3 1, 3) := by decide +kernel
theorem dX5_without_36 : decode cX5_without 36 = .ok (.goto (-26), 3) := by decide +kernel
theorem dX5_without_39 : decode cX5_without 39 = .ok (.aload_n 2, 1) := by decide +kernel
theorem dX5_without_40 : decode cX5_without 40 = .ok (.areturn, 1) := by decide +kernel
theorem dX5_lies_0 : decode cX5_lies 0 = .ok (.aload_n 0, 1) := by decide +kernel
theorem dX5_lies_1 : decode cX5_lies 1 = .ok (.getfield 9, 3) := by decide +kernel
theorem dX5_lies_4 : decode cX5_lies 4 = .ok (.iload_n 1, 1) := by decide +kernel
theorem dX5_lies_5 : decode cX5_lies 5 = .ok (.aaload, 1) := by decide +kernel
theorem dX5_lies_6 : decode cX5_lies 6 = .ok (.astore 4, 2) := by decide +kernel
theorem dX5_lies_8 : decode cX5_lies 8 = .ok (.aload 4, 2) := by decide +kernel
theorem dX5_lies_10 : decode cX5_lies 10 = .ok (.bipush 6, 2) := by decide +kernel
theorem dX5_lies_12 : decode cX5_lies 12 = .ok (.iaload, 1) := by decide +kernel
theorem dX5_lies_13 : decode cX5_lies 13 = .ok (.iconst 1, 1) := by decide +kernel
theorem dX5_lies_14 : decode cX5_lies 14 = .ok (.if_icmp .ne 49, 3) := by decide +kernel
theorem dX5_lies_17 : decode cX5_lies 17 = .ok (.iload_n 2, 1) := by decide +kernel
theorem dX5_lies_18 : decode cX5_lies 18 = .ok (.aload 4, 2) := by decide +kernel
theorem dX5_lies_20 : decode cX5_lies 20 = .ok (.iconst 0, 1) := by decide +kernel
theorem dX5_lies_21 : decode cX5_lies 21 = .ok (.iaload, 1) := by decide +kernel
theorem dX5_lies_22 : decode cX5_lies 22 = .ok (.if_icmp .lt 41, 3) := by decide +kernel
theorem dX5_lies_25 : decode cX5_lies 25 = .ok (.iload_n 2, 1) := by decide +kernel
theorem dX5_lies_26 : decode cX5_lies 26 = .ok (.aload 4, 2) := by decide +kernel
theorem dX5_lies_28 : decode cX5_lies 28 = .ok (.iconst 0, 1) := by decide +kernel
theorem dX5_lies_29 : decode cX5_lies 29 = .ok (.iaload, 1) := by decide +kernel
theorem dX5_lies_30 : decode cX5_lies 30 = .ok (.aload 4, 2) := by decide +kernel
theorem dX5_lies_32 : decode cX5_lies 32 = .ok (.iconst 2, 1) := by decide +kernel
theorem dX5_lies_33 : decode cX5_lies 33 = .ok (.iaload, 1) := by decide +kernel
theorem dX5_lies_34 : decode cX5_lies 34 = .ok (.iadd, 1) := by decide +kernel
theorem dX5_lies_35 : decode cX5_lies 35 = .ok (.if_icmp .ge 28, 3) := by decide +kernel
theorem dX5_lies_38 : decode cX5_lies 38 = .ok (.iload_n 3, 1) := by decide +kernel
theorem dX5_lies_39 : decode cX5_lies 39 = .ok (.aload 4, 2) := by decide +kernel
theorem dX5_lies_41 : decode cX5_lies 41 = .ok (.iconst 1, 1) := by decide +kernel
theorem dX5_lies_42 : decode cX5_lies 42 = .ok (.iaload, 1) := by decide +kernel
theorem dX5_lies_43 : decode cX5_lies 43 = .ok (.if_icmp .lt 20, 3) := by decide +kernel
theorem dX5_lies_46 : decode cX5_lies 46 = .ok (.iload_n 3, 1) := by decide +kernel
theorem dX5_lies_47 : decode cX5_lies 47 = .ok (.aload 4, 2) := by decide +kernel
theorem dX5_lies_49 : decode cX5_lies 49 = .ok (.iconst 1, 1) := by decide +kernel
theorem dX5_lies_50 : decode cX5_lies 50 = .ok (.iaload, 1) := by decide +kernel
theorem dX5_lies_51 : decode cX5_lies 51 = .ok (.aload 4, 2) := by decide +kernel
theorem dX5_lies_53 : decode cX5_lies 53 = .ok (.iconst 3, 1) := by decide +kernel
theorem dX5_lies_54 : decode cX5_lies 54 = .ok (.iaload, 1) := by decide +kernel
theorem dX5_lies_55 : decode cX5_lies 55 = .ok (.iadd, 1) := by decide +kernel
theorem dX5_lies_56 : decode cX5_lies 56 = .ok (.if_icmp .ge 7, 3) := by decide +kernel
theorem dX5_lies_59 : decode cX5_lies 59 = .ok (.iconst 1, 1) := by decide +kernel
theorem dX5_lies_60 : decode cX5_lies 60 = .ok (.goto 4, 3) := by decide +kernel
theorem dX5_lies_63 : decode cX5_lies 63 = .ok (.iconst 0, 1) := by decide +kernel
theorem dX5_lies_64 : decode cX5_lies 64 = .ok (.ireturn, 1) := by decide +kernel
theorem dX5_lying_0 : decode cX5_lying 0 = .ok (.iconst 0, 1) := by decide +kernel
theorem dX5_lying_1 : decode cX5_lying 1 = .ok (.istore_n 3, 1) := by decide +kernel
theorem dX5_lying_2 : decode cX5_lying 2 = .ok (.iconst 0, 1) := by decide +kernel
theorem dX5_lying_3 : decode cX5_lying 3 = .ok (.istore 4, 2) := by decide +kernel
theorem dX5_lying_5 : decode cX5_lying 5 = .ok (.iload 4, 2) := by decide +kernel
theorem dX5_lying_7 : decode cX5_lying 7 = .ok (.aload_n 0, 1) := by decide +kernel
theorem dX5_lying_8 : decode cX5_lying 8 = .ok (.getfield 9, 3) := by decide +kernel
theorem dX5_lying_11 : decode cX5_lying 11 = .ok (.arraylength, 1) := by decide +kernel
theorem dX5_lying_12 : decode cX5_lying 12 = .ok (.if_icmp .ge 28, 3) := by decide +kernel
theorem dX5_lying_15 : decode cX5_lying 15 = .ok (.iload_n 3, 1) := by decide +kernel
theorem dX5_lying_16 : decode cX5_lying 16 = .ok (.aload_n 0, 1) := by decide +kernel
theorem dX5_lying_17 : decode cX5_lying 17 = .ok (.iload 4, 2) := by decide +kernel
theorem dX5_lying_19 : decode cX5_lying 19 = .ok (.iload_n 1, 1) := by decide +kernel
theorem dX5_lying_20 : decode cX5_lying 20 = .ok (.iload_n 2, 1) := by decide +kernel
theorem dX5_lying_21 : decode cX5_lying 21 = .ok (.invokevirtual 22, 3) := by decide +kernel
theorem dX5_lying_24 : decode cX5_lying 24 = .ok (.ifCond .eq 7, 3) := by decide +kernel
theorem dX5_lying_27 : decode cX5_lying 27 = .ok (.iconst 1, 1) := by decide +kernel
theorem dX5_lying_28 : decode cX5_lying 28 = .ok (.goto 4, 3) := by decide +kernel
theorem dX5_lying_31 : decode cX5_lying 31 = .ok (.iconst 0, 1) := by decide +kernel
theorem dX5_lying_32 : decode cX5_lying 32 = .ok (.iadd, 1) := by decide +kernel
theorem dX5_lying_33 : decode cX5_lying 33 = .ok (.istore_n 3, 1) := by decide +kernel
theorem dX5_lying_34 : decode cX5_lying 34 = .ok (.iinc 4 1, 3) := by decide +kernel
theorem dX5_lying_37 : decode cX5_lying 37 = .ok (.goto (-32), 3) := by decide +kernel
theorem dX5_lying_40 : decode cX5_lying 40 = .ok (.iload_n 3, 1) := by decide +kernel
theorem dX5_lying_41 : decode cX5_lying 41 = .ok (.ireturn, 1) := by decide +kernel
theorem dX5_isCovered_0 : decode cX5_isCovered 0 = .ok (.iload_n 1, 1) := by decide +kernel
theorem dX5_isCovered_1 : decode cX5_isCovered 1 = .ok (.ifCond .lt 32, 3) := by decide +kernel
theorem dX5_isCovered_4 : decode cX5_isCovered 4 = .ok (.iload_n 2, 1) := by decide +kernel
theorem dX5_isCovered_5 : decode cX5_isCovered 5 = .ok (.ifCond .lt 28, 3) := by decide +kernel
theorem dX5_isCovered_8 : decode cX5_isCovered 8 = .ok (.iload_n 1, 1) := by decide +kernel
theorem dX5_isCovered_9 : decode cX5_isCovered 9 = .ok (.bipush 24, 2) := by decide +kernel
theorem dX5_isCovered_11 : decode cX5_isCovered 11 = .ok (.if_icmp .ge 22, 3) := by decide +kernel
theorem dX5_isCovered_14 : decode cX5_isCovered 14 = .ok (.iload_n 2, 1) := by decide +kernel
theorem dX5_isCovered_15 : decode cX5_isCovered 15 = .ok (.bipush 24, 2) := by decide +kernel
theorem dX5_isCovered_17 : decode cX5_isCovered 17 = .ok (.if_icmp .ge 16, 3) := by decide +kernel
theorem dX5_isCovered_20 : decode cX5_isCovered 20 = .ok (.aload_n 0, 1) := by decide +kernel
theorem dX5_isCovered_21 : decode cX5_isCovered 21 = .ok (.iload_n 1, 1) := by decide +kernel
theorem dX5_isCovered_22 : decode cX5_isCovered 22 = .ok (.iload_n 2, 1) := by decide +kernel
theorem dX5_isCovered_23 : decode cX5_isCovered 23 = .ok (.invokevirtual 26, 3) := by decide +kernel
theorem dX5_isCovered_26 : decode cX5_isCovered 26 = .ok (.ifCond .le 7, 3) := by decide +kernel
theorem dX5_isCovered_29 : decode cX5_isCovered 29 = .ok (.iconst 1, 1) := by decide +kernel
theorem dX5_isCovered_30 : decode cX5_isCovered 30 = .ok (.goto 4, 3) := by decide +kernel
theorem dX5_isCovered_33 : decode cX5_isCovered 33 = .ok (.iconst 0, 1) := by decide +kernel
theorem dX5_isCovered_34 : decode cX5_isCovered 34 = .ok (.ireturn, 1) := by decide +kernel
theorem dX5_highest_0 : decode cX5_highest 0 = .ok (.iconst (-1), 1) := by decide +kernel
theorem dX5_highest_1 : decode cX5_highest 1 = .ok (.istore 4, 2) := by decide +kernel
theorem dX5_highest_3 : decode cX5_highest 3 = .ok (.aload_n 0, 1) := by decide +kernel
theorem dX5_highest_4 : decode cX5_highest 4 = .ok (.getfield 9, 3) := by decide +kernel
theorem dX5_highest_7 : decode cX5_highest 7 = .ok (.arraylength, 1) := by decide +kernel
theorem dX5_highest_8 : decode cX5_highest 8 = .ok (.iconst 1, 1) := by decide +kernel
theorem dX5_highest_9 : decode cX5_highest 9 = .ok (.isub, 1) := by decide +kernel
theorem dX5_highest_10 : decode cX5_highest 10 = .ok (.istore 5, 2) := by decide +kernel
theorem dX5_highest_12 : decode cX5_highest 12 = .ok (.iload 5, 2) := by decide +kernel
theorem dX5_highest_14 : decode cX5_highest 14 = .ok (.ifCond .lt 63, 3) := by decide +kernel
theorem dX5_highest_17 : decode cX5_highest 17 = .ok (.aload_n 0, 1) := by decide +kernel
theorem dX5_highest_18 : decode cX5_highest 18 = .ok (.iload 5, 2) := by decide +kernel
theorem dX5_highest_20 : decode cX5_highest 20 = .ok (.iload_n 1, 1) := by decide +kernel
theorem dX5_highest_21 : decode cX5_highest 21 = .ok (.iload_n 2, 1) := by decide +kernel
theorem dX5_highest_22 : decode cX5_highest 22 = .ok (.invokevirtual 22, 3) := by decide +kernel
theorem dX5_highest_25 : decode cX5_highest 25 = .ok (.ifCond .eq 46, 3) := by decide +kernel
theorem dX5_highest_28 : decode cX5_highest 28 = .ok (.aload_n 0, 1) := by decide +kernel
theorem dX5_highest_29 : decode cX5_highest 29 = .ok (.getfield 9, 3) := by decide +kernel
theorem dX5_highest_32 : decode cX5_highest 32 = .ok (.iload 5, 2) := by decide +kernel
theorem dX5_highest_34 : decode cX5_highest 34 = .ok (.aaload, 1) := by decide +kernel
theorem dX5_highest_35 : decode cX5_highest 35 = .ok (.iconst 4, 1) := by decide +kernel
theorem dX5_highest_36 : decode cX5_highest 36 = .ok (.iaload, 1) := by decide +kernel
theorem dX5_highest_37 : decode cX5_highest 37 = .ok (.iload_n 3, 1) := by decide +kernel
theorem dX5_highest_38 : decode cX5_highest 38 = .ok (.if_icmp .ge 33, 3) := by decide +kernel
theorem dX5_highest_41 : decode cX5_highest 41 = .ok (.iload 4, 2) := by decide +kernel
theorem dX5_highest_43 : decode cX5_highest 43 = .ok (.ifCond .lt 24, 3) := by decide +kernel
theorem dX5_highest_46 : decode cX5_highest 46 = .ok (.aload_n 0, 1) := by decide +kernel
theorem dX5_highest_47 : decode cX5_highest 47 = .ok (.getfield 9, 3) := by decide +kernel
theorem dX5_highest_50 : decode cX5_highest 50 = .ok (.iload 5, 2) := by decide +kernel
theorem dX5_highest_52 : decode cX5_highest 52 = .ok (.aaload, 1) := by decide +kernel
theorem dX5_highest_53 : decode cX5_highest 53 = .ok (.iconst 4, 1) := by decide +kernel
theorem dX5_highest_54 : decode cX5_highest 54 = .ok (.iaload, 1) := by decide +kernel
theorem dX5_highest_55 : decode cX5_highest 55 = .ok (.aload_n 0, 1) := by decide +kernel
theorem dX5_highest_56 : decode cX5_highest 56 = .ok (.getfield 9, 3) := by decide +kernel
theorem dX5_highest_59 : decode cX5_highest 59 = .ok (.iload 4, 2) := by decide +kernel
theorem dX5_highest_61 : decode cX5_highest 61 = .ok (.aaload, 1) := by decide +kernel
end
section
theorem dX5_highest_62 : decode cX5_highest 62 = .ok (.iconst 4, 1) := by decide +kernel
theorem dX5_highest_63 : decode cX5_highest 63 = .ok (.iaload, 1) := by decide +kernel
theorem dX5_highest_64 : decode cX5_highest 64 = .ok (.if_icmp .lt 7, 3) := by decide +kernel
theorem dX5_highest_67 : decode cX5_highest 67 = .ok (.iload 5, 2) := by decide +kernel
theorem dX5_highest_69 : decode cX5_highest 69 = .ok (.istore 4, 2) := by decide +kernel
theorem dX5_highest_71 : decode cX5_highest 71 = .ok (.iinc 5 (-1), 3) := by decide +kernel
theorem dX5_highest_74 : decode cX5_highest 74 = .ok (.goto (-62), 3) := by decide +kernel
theorem dX5_highest_77 : decode cX5_highest 77 = .ok (.iload 4, 2) := by decide +kernel
theorem dX5_highest_79 : decode cX5_highest 79 = .ok (.ireturn, 1) := by decide +kernel
theorem dX5_hour_0 : decode cX5_hour 0 = .ok (.bipush 25, 2) := by decide +kernel
theorem dX5_hour_2 : decode cX5_hour 2 = .ok (.bipush 24, 2) := by decide +kernel
theorem dX5_hour_4 : decode cX5_hour 4 = .ok (.multianewarray 18 2, 4) := by decide +kernel
theorem dX5_hour_8 : decode cX5_hour 8 = .ok (.astore_n 2, 1) := by decide +kernel
theorem dX5_hour_9 : decode cX5_hour 9 = .ok (.aload_n 2, 1) := by decide +kernel
theorem dX5_hour_10 : decode cX5_hour 10 = .ok (.bipush 24, 2) := by decide +kernel
theorem dX5_hour_12 : decode cX5_hour 12 = .ok (.aload_n 0, 1) := by decide +kernel
theorem dX5_hour_13 : decode cX5_hour 13 = .ok (.getfield 9, 3) := by decide +kernel
theorem dX5_hour_16 : decode cX5_hour 16 = .ok (.arraylength, 1) := by decide +kernel
theorem dX5_hour_17 : decode cX5_hour 17 = .ok (.iconst 1, 1) := by decide +kernel
theorem dX5_hour_18 : decode cX5_hour 18 = .ok (.iadd, 1) := by decide +kernel
theorem dX5_hour_19 : decode cX5_hour 19 = .ok (.newarray .int, 2) := by decide +kernel
theorem dX5_hour_21 : decode cX5_hour 21 = .ok (.aastore, 1) := by decide +kernel
theorem dX5_hour_22 : decode cX5_hour 22 = .ok (.aload_n 2, 1) := by decide +kernel
theorem dX5_hour_23 : decode cX5_hour 23 = .ok (.bipush 24, 2) := by decide +kernel
theorem dX5_hour_25 : decode cX5_hour 25 = .ok (.aaload, 1) := by decide +kernel
theorem dX5_hour_26 : decode cX5_hour 26 = .ok (.astore_n 3, 1) := by decide +kernel
theorem dX5_hour_27 : decode cX5_hour 27 = .ok (.iconst 0, 1) := by decide +kernel
theorem dX5_hour_28 : decode cX5_hour 28 = .ok (.istore 4, 2) := by decide +kernel
theorem dX5_hour_30 : decode cX5_hour 30 = .ok (.iload 4, 2) := by decide +kernel
theorem dX5_hour_32 : decode cX5_hour 32 = .ok (.bipush 24, 2) := by decide +kernel
theorem dX5_hour_34 : decode cX5_hour 34 = .ok (.if_icmp .ge 64, 3) := by decide +kernel
theorem dX5_hour_37 : decode cX5_hour 37 = .ok (.iconst 0, 1) := by decide +kernel
theorem dX5_hour_38 : decode cX5_hour 38 = .ok (.istore 5, 2) := by decide +kernel
theorem dX5_hour_40 : decode cX5_hour 40 = .ok (.iload 5, 2) := by decide +kernel
theorem dX5_hour_42 : decode cX5_hour 42 = .ok (.bipush 24, 2) := by decide +kernel
theorem dX5_hour_44 : decode cX5_hour 44 = .ok (.if_icmp .ge 48, 3) := by decide +kernel
theorem dX5_hour_47 : decode cX5_hour 47 = .ok (.aload_n 0, 1) := by decide +kernel
theorem dX5_hour_48 : decode cX5_hour 48 = .ok (.iload 4, 2) := by decide +kernel
theorem dX5_hour_50 : decode cX5_hour 50 = .ok (.iload 5, 2) := by decide +kernel
theorem dX5_hour_52 : decode cX5_hour 52 = .ok (.bipush 10, 2) := by decide +kernel
theorem dX5_hour_54 : decode cX5_hour 54 = .ok (.invokevirtual 30, 3) := by decide +kernel
theorem dX5_hour_57 : decode cX5_hour 57 = .ok (.istore 6, 2) := by decide +kernel
theorem dX5_hour_59 : decode cX5_hour 59 = .ok (.iload 6, 2) := by decide +kernel
theorem dX5_hour_61 : decode cX5_hour 61 = .ok (.ifCond .ge 17, 3) := by decide +kernel
theorem dX5_hour_64 : decode cX5_hour 64 = .ok (.aload_n 2, 1) := by decide +kernel
theorem dX5_hour_65 : decode cX5_hour 65 = .ok (.iload 4, 2) := by decide +kernel
theorem dX5_hour_67 : decode cX5_hour 67 = .ok (.aaload, 1) := by decide +kernel
theorem dX5_hour_68 : decode cX5_hour 68 = .ok (.iload 5, 2) := by decide +kernel
theorem dX5_hour_70 : decode cX5_hour 70 = .ok (.dup2, 1) := by decide +kernel
theorem dX5_hour_71 : decode cX5_hour 71 = .ok (.iaload, 1) := by decide +kernel
theorem dX5_hour_72 : decode cX5_hour 72 = .ok (.iload_n 1, 1) := by decide +kernel
theorem dX5_hour_73 : decode cX5_hour 73 = .ok (.iadd, 1) := by decide +kernel
theorem dX5_hour_74 : decode cX5_hour 74 = .ok (.iastore, 1) := by decide +kernel
theorem dX5_hour_75 : decode cX5_hour 75 = .ok (.goto 11, 3) := by decide +kernel
theorem dX5_hour_78 : decode cX5_hour 78 = .ok (.aload_n 3, 1) := by decide +kernel
theorem dX5_hour_79 : decode cX5_hour 79 = .ok (.iload 6, 2) := by decide +kernel
theorem dX5_hour_81 : decode cX5_hour 81 = .ok (.dup2, 1) := by decide +kernel
theorem dX5_hour_82 : decode cX5_hour 82 = .ok (.iaload, 1) := by decide +kernel
theorem dX5_hour_83 : decode cX5_hour 83 = .ok (.iload_n 1, 1) := by decide +kernel
theorem dX5_hour_84 : decode cX5_hour 84 = .ok (.iadd, 1) := by decide +kernel
theorem dX5_hour_85 : decode cX5_hour 85 = .ok (.iastore, 1) := by decide +kernel
theorem dX5_hour_86 : decode cX5_hour 86 = .ok (.iinc 5 1, 3) := by decide +kernel
theorem dX5_hour_89 : decode cX5_hour 89 = .ok (.goto (-49), 3) := by decide +kernel
theorem dX5_hour_92 : decode cX5_hour 92 = .ok (.iinc 4 1, 3) := by decide +kernel
theorem dX5_hour_95 : decode cX5_hour 95 = .ok (.goto (-65), 3) := by decide +kernel
theorem dX5_hour_98 : decode cX5_hour 98 = .ok (.bipush 9, 2) := by decide +kernel
theorem dX5_hour_100 : decode cX5_hour 100 = .ok (.istore 4, 2) := by decide +kernel
theorem dX5_hour_102 : decode cX5_hour 102 = .ok (.iload 4, 2) := by decide +kernel
theorem dX5_hour_104 : decode cX5_hour 104 = .ok (.ifCond .le 303, 3) := by decide +kernel
theorem dX5_hour_107 : decode cX5_hour 107 = .ok (.iconst 0, 1) := by decide +kernel
theorem dX5_hour_108 : decode cX5_hour 108 = .ok (.istore 5, 2) := by decide +kernel
theorem dX5_hour_110 : decode cX5_hour 110 = .ok (.iload 5, 2) := by decide +kernel
theorem dX5_hour_112 : decode cX5_hour 112 = .ok (.aload_n 0, 1) := by decide +kernel
theorem dX5_hour_113 : decode cX5_hour 113 = .ok (.getfield 9, 3) := by decide +kernel
theorem dX5_hour_116 : decode cX5_hour 116 = .ok (.arraylength, 1) := by decide +kernel
theorem dX5_hour_117 : decode cX5_hour 117 = .ok (.if_icmp .ge 284, 3) := by decide +kernel
theorem dX5_hour_120 : decode cX5_hour 120 = .ok (.aload_n 0, 1) := by decide +kernel
theorem dX5_hour_121 : decode cX5_hour 121 = .ok (.getfield 9, 3) := by decide +kernel
theorem dX5_hour_124 : decode cX5_hour 124 = .ok (.iload 5, 2) := by decide +kernel
theorem dX5_hour_126 : decode cX5_hour 126 = .ok (.aaload, 1) := by decide +kernel
theorem dX5_hour_127 : decode cX5_hour 127 = .ok (.astore 6, 2) := by decide +kernel
theorem dX5_hour_129 : decode cX5_hour 129 = .ok (.aload 6, 2) := by decide +kernel
theorem dX5_hour_131 : decode cX5_hour 131 = .ok (.iconst 4, 1) := by decide +kernel
theorem dX5_hour_132 : decode cX5_hour 132 = .ok (.iaload, 1) := by decide +kernel
theorem dX5_hour_133 : decode cX5_hour 133 = .ok (.iload 4, 2) := by decide +kernel
theorem dX5_hour_135 : decode cX5_hour 135 = .ok (.if_icmp .ne 260, 3) := by decide +kernel
theorem dX5_hour_138 : decode cX5_hour 138 = .ok (.aload 6, 2) := by decide +kernel
theorem dX5_hour_140 : decode cX5_hour 140 = .ok (.bipush 6, 2) := by decide +kernel
theorem dX5_hour_142 : decode cX5_hour 142 = .ok (.iaload, 1) := by decide +kernel
theorem dX5_hour_143 : decode cX5_hour 143 = .ok (.ifCond .ne 6, 3) := by decide +kernel
theorem dX5_hour_146 : decode cX5_hour 146 = .ok (.goto 249, 3) := by decide +kernel
theorem dX5_hour_149 : decode cX5_hour 149 = .ok (.aload 6, 2) := by decide +kernel
theorem dX5_hour_151 : decode cX5_hour 151 = .ok (.iconst 5, 1) := by decide +kernel
theorem dX5_hour_152 : decode cX5_hour 152 = .ok (.iaload, 1) := by decide +kernel
theorem dX5_hour_153 : decode cX5_hour 153 = .ok (.ifCond .eq 11, 3) := by decide +kernel
theorem dX5_hour_156 : decode cX5_hour 156 = .ok (.aload 6, 2) := by decide +kernel
theorem dX5_hour_158 : decode cX5_hour 158 = .ok (.iconst 5, 1) := by decide +kernel
theorem dX5_hour_159 : decode cX5_hour 159 = .ok (.iaload, 1) := by decide +kernel
theorem dX5_hour_160 : decode cX5_hour 160 = .ok (.iconst 2, 1) := by decide +kernel
theorem dX5_hour_161 : decode cX5_hour 161 = .ok (.if_icmp .ne 10, 3) := by decide +kernel
theorem dX5_hour_164 : decode cX5_hour 164 = .ok (.aload 6, 2) := by decide +kernel
theorem dX5_hour_166 : decode cX5_hour 166 = .ok (.iconst 3, 1) := by decide +kernel
theorem dX5_hour_167 : decode cX5_hour 167 = .ok (.iaload, 1) := by decide +kernel
theorem dX5_hour_168 : decode cX5_hour 168 = .ok (.goto 7, 3) := by decide +kernel
theorem dX5_hour_171 : decode cX5_hour 171 = .ok (.aload 6, 2) := by decide +kernel
theorem dX5_hour_173 : decode cX5_hour 173 = .ok (.iconst 2, 1) := by decide +kernel
theorem dX5_hour_174 : decode cX5_hour 174 = .ok (.iaload, 1) := by decide +kernel
theorem dX5_hour_175 : decode cX5_hour 175 = .ok (.istore 7, 2) := by decide +kernel
theorem dX5_hour_177 : decode cX5_hour 177 = .ok (.aload_n 3, 1) := by decide +kernel
theorem dX5_hour_178 : decode cX5_hour 178 = .ok (.iload 5, 2) := by decide +kernel
theorem dX5_hour_180 : decode cX5_hour 180 = .ok (.iaload, 1) := by decide +kernel
theorem dX5_hour_181 : decode cX5_hour 181 = .ok (.istore 8, 2) := by decide +kernel
theorem dX5_hour_183 : decode cX5_hour 183 = .ok (.iconst 0, 1) := by decide +kernel
theorem dX5_hour_184 : decode cX5_hour 184 = .ok (.istore 9, 2) := by decide +kernel
theorem dX5_hour_186 : decode cX5_hour 186 = .ok (.iload 9, 2) := by decide +kernel
theorem dX5_hour_188 : decode cX5_hour 188 = .ok (.iload 7, 2) := by decide +kernel
theorem dX5_hour_190 : decode cX5_hour 190 = .ok (.if_icmp .ge 205, 3) := by decide +kernel
theorem dX5_hour_193 : decode cX5_hour 193 = .ok (.iload 8, 2) := by decide +kernel
theorem dX5_hour_195 : decode cX5_hour 195 = .ok (.iload 7, 2) := by decide +kernel
theorem dX5_hour_197 : decode cX5_hour 197 = .ok (.iadd, 1) := by decide +kernel
theorem dX5_hour_198 : decode cX5_hour 198 = .ok (.iload 9, 2) := by decide +kernel
theorem dX5_hour_200 : decode cX5_hour 200 = .ok (.isub, 1) := by decide +kernel
theorem dX5_hour_201 : decode cX5_hour 201 = .ok (.iconst 1, 1) := by decide +kernel
theorem dX5_hour_202 : decode cX5_hour 202 = .ok (.isub, 1) := by decide +kernel
theorem dX5_hour_203 : decode cX5_hour 203 = .ok (.iload 7, 2) := by decide +kernel
theorem dX5_hour_205 : decode cX5_hour 205 = .ok (.iload 9, 2) := by decide +kernel
theorem dX5_hour_207 : decode cX5_hour 207 = .ok (.isub, 1) := by decide +kernel
theorem dX5_hour_208 : decode cX5_hour 208 = .ok (.idiv, 1) := by decide +kernel
theorem dX5_hour_209 : decode cX5_hour 209 = .ok (.istore 10, 2) := by decide +kernel
theorem dX5_hour_211 : decode cX5_hour 211 = .ok (.iload 8, 2) := by decide +kernel
theorem dX5_hour_213 : decode cX5_hour 213 = .ok (.iload 10, 2) := by decide +kernel
theorem dX5_hour_215 : decode cX5_hour 215 = .ok (.isub, 1) := by decide +kernel
theorem dX5_hour_216 : decode cX5_hour 216 = .ok (.istore 8, 2) := by decide +kernel
theorem dX5_hour_218 : decode cX5_hour 218 = .ok (.aload 6, 2) := by decide +kernel
theorem dX5_hour_220 : decode cX5_hour 220 = .ok (.iconst 5, 1) := by decide +kernel
theorem dX5_hour_221 : decode cX5_hour 221 = .ok (.iaload, 1) := by decide +kernel
theorem dX5_hour_222 : decode cX5_hour 222 = .ok (.ifCond .ne 12, 3) := by decide +kernel
theorem dX5_hour_225 : decode cX5_hour 225 = .ok (.aload 6, 2) := by decide +kernel
theorem dX5_hour_227 : decode cX5_hour 227 = .ok (.iconst 0, 1) := by decide +kernel
theorem dX5_hour_228 : decode cX5_hour 228 = .ok (.iaload, 1) := by decide +kernel
theorem dX5_hour_229 : decode cX5_hour 229 = .ok (.iconst 1, 1) := by decide +kernel
theorem dX5_hour_230 : decode cX5_hour 230 = .ok (.isub, 1) := by decide +kernel
theorem dX5_hour_231 : decode cX5_hour 231 = .ok (.goto 30, 3) := by decide +kernel
theorem dX5_hour_234 : decode cX5_hour 234 = .ok (.aload 6, 2) := by decide +kernel
theorem dX5_hour_236 : decode cX5_hour 236 = .ok (.iconst 5, 1) := by decide +kernel
theorem dX5_hour_237 : decode cX5_hour 237 = .ok (.iaload, 1) := by decide +kernel
theorem dX5_hour_238 : decode cX5_hour 238 = .ok (.iconst 2, 1) := by decide +kernel
theorem dX5_hour_239 : decode cX5_hour 239 = .ok (.if_icmp .ne 15, 3) := by decide +kernel
theorem dX5_hour_242 : decode cX5_hour 242 = .ok (.aload 6, 2) := by decide +kernel
theorem dX5_hour_244 : decode cX5_hour 244 = .ok (.iconst 0, 1) := by decide +kernel
theorem dX5_hour_245 : decode cX5_hour 245 = .ok (.iaload, 1) := by decide +kernel
theorem dX5_hour_246 : decode cX5_hour 246 = .ok (.aload 6, 2) := by decide +kernel
theorem dX5_hour_248 : decode cX5_hour 248 = .ok (.iconst 2, 1) := by decide +kernel
theorem dX5_hour_249 : decode cX5_hour 249 = .ok (.iaload, 1) := by decide +kernel
theorem dX5_hour_250 : decode cX5_hour 250 = .ok (.iadd, 1) := by decide +kernel
theorem dX5_hour_251 : decode cX5_hour 251 = .ok (.goto 10, 3) := by decide +kernel
theorem dX5_hour_254 : decode cX5_hour 254 = .ok (.aload 6, 2) := by decide +kernel
theorem dX5_hour_256 : decode cX5_hour 256 = .ok (.iconst 0, 1) := by decide +kernel
theorem dX5_hour_257 : decode cX5_hour 257 = .ok (.iaload, 1) := by decide +kernel
theorem dX5_hour_258 : decode cX5_hour 258 = .ok (.iload 9, 2) := by decide +kernel
theorem dX5_hour_260 : decode cX5_hour 260 = .ok (.iadd, 1) := by decide +kernel
theorem dX5_hour_261 : decode cX5_hour 261 = .ok (.istore 11, 2) := by decide +kernel
theorem dX5_hour_263 : decode cX5_hour 263 = .ok (.aload 6, 2) := by decide +kernel
theorem dX5_hour_265 : decode cX5_hour 265 = .ok (.iconst 5, 1) := by decide +kernel
theorem dX5_hour_266 : decode cX5_hour 266 = .ok (.iaload, 1) := by decide +kernel
theorem dX5_hour_267 : decode cX5_hour 267 = .ok (.iconst 1, 1) := by decide +kernel
theorem dX5_hour_268 : decode cX5_hour 268 = .ok (.if_icmp .ne 12, 3) := by decide +kernel
theorem dX5_hour_271 : decode cX5_hour 271 = .ok (.aload 6, 2) := by decide +kernel
theorem dX5_hour_273 : decode cX5_hour 273 = .ok (.iconst 1, 1) := by decide +kernel
theorem dX5_hour_274 : decode cX5_hour 274 = .ok (.iaload, 1) := by decide +kernel
theorem dX5_hour_275 : decode cX5_hour 275 = .ok (.iconst 1, 1) := by decide +kernel
theorem dX5_hour_276 : decode cX5_hour 276 = .ok (.isub, 1) := by decide +kernel
theorem dX5_hour_277 : decode cX5_hour 277 = .ok (.goto 30, 3) := by decide +kernel
theorem dX5_hour_280 : decode cX5_hour 280 = .ok (.aload 6, 2) := by decide +kernel
theorem dX5_hour_282 : decode cX5_hour 282 = .ok (.iconst 5, 1) := by decide +kernel
theorem dX5_hour_283 : decode cX5_hour 283 = .ok (.iaload, 1) := by decide +kernel
theorem dX5_hour_284 : decode cX5_hour 284 = .ok (.iconst 3, 1) := by decide +kernel
theorem dX5_hour_285 : decode cX5_hour 285 = .ok (.if_icmp .ne 15, 3) := by decide +kernel
theorem dX5_hour_288 : decode cX5_hour 288 = .ok (.aload 6, 2) := by decide +kernel
theorem dX5_hour_290 : decode cX5_hour 290 = .ok (.iconst 1, 1) := by decide +kernel
theorem dX5_hour_291 : decode cX5_hour 291 = .ok (.iaload, 1) := by decide +kernel
theorem dX5_hour_292 : decode cX5_hour 292 = .ok (.aload 6, 2) := by decide +kernel
theorem dX5_hour_294 : decode cX5_hour 294 = .ok (.iconst 3, 1) := by decide +kernel
theorem dX5_hour_295 : decode cX5_hour 295 = .ok (.iaload, 1) := by decide +kernel
theorem dX5_hour_296 : decode cX5_hour 296 = .ok (.iadd, 1) := by decide +kernel
theorem dX5_hour_297 : decode cX5_hour 297 = .ok (.goto 10, 3) := by decide +kernel
theorem dX5_hour_300 : decode cX5_hour 300 = .ok (.aload 6, 2) := by decide +kernel
theorem dX5_hour_302 : decode cX5_hour 302 = .ok (.iconst 1, 1) := by decide +kernel
theorem dX5_hour_303 : decode cX5_hour 303 = .ok (.iaload, 1) := by decide +kernel
theorem dX5_hour_304 : decode cX5_hour 304 = .ok (.iload 9, 2) := by decide +kernel
theorem dX5_hour_306 : decode cX5_hour 306 = .ok (.iadd, 1) := by decide +kernel
theorem dX5_hour_307 : decode cX5_hour 307 = .ok (.istore 12, 2) := by decide +kernel
theorem dX5_hour_309 : decode cX5_hour 309 = .ok (.iload 11, 2) := by decide +kernel
theorem dX5_hour_311 : decode cX5_hour 311 = .ok (.ifCond .lt 22, 3) := by decide +kernel
theorem dX5_hour_314 : decode cX5_hour 314 = .ok (.iload 12, 2) := by decide +kernel
theorem dX5_hour_316 : decode cX5_hour 316 = .ok (.ifCond .lt 17, 3) := by decide +kernel
theorem dX5_hour_319 : decode cX5_hour 319 = .ok (.iload 11, 2) := by decide +kernel
theorem dX5_hour_321 : decode cX5_hour 321 = .ok (.bipush 23, 2) := by decide +kernel
theorem dX5_hour_323 : decode cX5_hour 323 = .ok (.if_icmp .gt 10, 3) := by decide +kernel
theorem dX5_hour_326 : decode cX5_hour 326 = .ok (.iload 12, 2) := by decide +kernel
theorem dX5_hour_328 : decode cX5_hour 328 = .ok (.bipush 23, 2) := by decide +kernel
theorem dX5_hour_330 : decode cX5_hour 330 = .ok (.if_icmp .le 18, 3) := by decide +kernel
theorem dX5_hour_333 : decode cX5_hour 333 = .ok (.aload_n 3, 1) := by decide +kernel
theorem dX5_hour_334 : decode cX5_hour 334 = .ok (.aload_n 0, 1) := by decide +kernel
theorem dX5_hour_335 : decode cX5_hour 335 = .ok (.getfield 9, 3) := by decide +kernel
theorem dX5_hour_338 : decode cX5_hour 338 = .ok (.arraylength, 1) := by decide +kernel
theorem dX5_hour_339 : decode cX5_hour 339 = .ok (.dup2, 1) := by decide +kernel
theorem dX5_hour_340 : decode cX5_hour 340 = .ok (.iaload, 1) := by decide +kernel
theorem dX5_hour_341 : decode cX5_hour 341 = .ok (.iload 10, 2) := by decide +kernel
theorem dX5_hour_343 : decode cX5_hour 343 = .ok (.iadd, 1) := by decide +kernel
theorem dX5_hour_344 : decode cX5_hour 344 = .ok (.iastore, 1) := by decide +kernel
theorem dX5_hour_345 : decode cX5_hour 345 = .ok (.goto 44, 3) := by decide +kernel
theorem dX5_hour_348 : decode cX5_hour 348 = .ok (.aload_n 0, 1) := by decide +kernel
theorem dX5_hour_349 : decode cX5_hour 349 = .ok (.iload 11, 2) := by decide +kernel
theorem dX5_hour_351 : decode cX5_hour 351 = .ok (.iload 12, 2) := by decide +kernel
theorem dX5_hour_353 : decode cX5_hour 353 = .ok (.iload 4, 2) := by decide +kernel
theorem dX5_hour_355 : decode cX5_hour 355 = .ok (.invokevirtual 30, 3) := by decide +kernel
theorem dX5_hour_358 : decode cX5_hour 358 = .ok (.istore 13, 2) := by decide +kernel
theorem dX5_hour_360 : decode cX5_hour 360 = .ok (.iload 13, 2) := by decide +kernel
theorem dX5_hour_362 : decode cX5_hour 362 = .ok (.ifCond .ge 18, 3) := by decide +kernel
theorem dX5_hour_365 : decode cX5_hour 365 = .ok (.aload_n 2, 1) := by decide +kernel
theorem dX5_hour_366 : decode cX5_hour 366 = .ok (.iload 11, 2) := by decide +kernel
theorem dX5_hour_368 : decode cX5_hour 368 = .ok (.aaload, 1) := by decide +kernel
theorem dX5_hour_369 : decode cX5_hour 369 = .ok (.iload 12, 2) := by decide +kernel
theorem dX5_hour_371 : decode cX5_hour 371 = .ok (.dup2, 1) := by decide +kernel
theorem dX5_hour_372 : decode cX5_hour 372 = .ok (.iaload, 1) := by decide +kernel
theorem dX5_hour_373 : decode cX5_hour 373 = .ok (.iload 10, 2) := by decide +kernel
theorem dX5_hour_375 : decode cX5_hour 375 = .ok (.iadd, 1) := by decide +kernel
theorem dX5_hour_376 : decode cX5_hour 376 = .ok (.iastore, 1) := by decide +kernel
theorem dX5_hour_377 : decode cX5_hour 377 = .ok (.goto 12, 3) := by decide +kernel
theorem dX5_hour_380 : decode cX5_hour 380 = .ok (.aload_n 3, 1) := by decide +kernel
theorem dX5_hour_381 : decode cX5_hour 381 = .ok (.iload 13, 2) := by decide +kernel
theorem dX5_hour_383 : decode cX5_hour 383 = .ok (.dup2, 1) := by decide +kernel
theorem dX5_hour_384 : decode cX5_hour 384 = .ok (.iaload, 1) := by decide +kernel
theorem dX5_hour_385 : decode cX5_hour 385 = .ok (.iload 10, 2) := by decide +kernel
theorem dX5_hour_387 : decode cX5_hour 387 = .ok (.iadd, 1) := by decide +kernel
theorem dX5_hour_388 : decode cX5_hour 388 = .ok (.iastore, 1) := by decide +kernel
theorem dX5_hour_389 : decode cX5_hour 389 = .ok (.iinc 9 1, 3) := by decide +kernel
theorem dX5_hour_392 : decode cX5_hour 392 = .ok (.goto (-206), 3) := by decide +kernel
theorem dX5_hour_395 : decode cX5_hour 395 = .ok (.iinc 5 1, 3) := by decide +kernel
theorem dX5_hour_398 : decode cX5_hour 398 = .ok (.goto (-288), 3) := by decide +kernel
theorem dX5_hour_401 : decode cX5_hour 401 = .ok (.iinc 4 (-1), 3) := by decide +kernel
theorem dX5_hour_404 : decode cX5_hour 404 = .ok (.goto (-302), 3) := by decide +kernel
theorem dX5_hour_407 : decode cX5_hour 407 = .ok (.aload_n 2, 1) := by decide +kernel
theorem dX5_hour_408 : decode cX5_hour 408 = .ok (.areturn, 1) := by decide +kernel
theorem dX5_rain_0 : decode cX5_rain 0 = .ok (.aload_n 0, 1) := by decide +kernel
theorem dX5_rain_1 : decode cX5_rain 1 = .ok (.iload_n 1, 1) := by decide +kernel
theorem dX5_rain_2 : decode cX5_rain 2 = .ok (.invokevirtual 34, 3) := by decide +kernel
theorem dX5_rain_5 : decode cX5_rain 5 = .ok (.astore_n 2, 1) := by decide +kernel
theorem dX5_rain_6 : decode cX5_rain 6 = .ok (.iconst 0, 1) := by decide +kernel
theorem dX5_rain_7 : decode cX5_rain 7 = .ok (.istore_n 3, 1) := by decide +kernel
theorem dX5_rain_8 : decode cX5_rain 8 = .ok (.iconst 0, 1) := by decide +kernel
theorem dX5_rain_9 : decode cX5_rain 9 = .ok (.istore 4, 2) := by decide +kernel
theorem dX5_rain_11 : decode cX5_rain 11 = .ok (.iload 4, 2) := by decide +kernel
theorem dX5_rain_13 : decode cX5_rain 13 = .ok (.bipush 24, 2) := by decide +kernel
theorem dX5_rain_15 : decode cX5_rain 15 = .ok (.if_icmp .ge 55, 3) := by decide +kernel
theorem dX5_rain_18 : decode cX5_rain 18 = .ok (.iconst 0, 1) := by decide +kernel
theorem dX5_rain_19 : decode cX5_rain 19 = .ok (.istore 5, 2) := by decide +kernel
theorem dX5_rain_21 : decode cX5_rain 21 = .ok (.iload 5, 2) := by decide +kernel
theorem dX5_rain_23 : decode cX5_rain 23 = .ok (.bipush 24, 2) := by decide +kernel
theorem dX5_rain_25 : decode cX5_rain 25 = .ok (.if_icmp .ge 39, 3) := by decide +kernel
theorem dX5_rain_28 : decode cX5_rain 28 = .ok (.aload_n 0, 1) := by decide +kernel
theorem dX5_rain_29 : decode cX5_rain 29 = .ok (.getfield 19, 3) := by decide +kernel
theorem dX5_rain_32 : decode cX5_rain 32 = .ok (.iload 4, 2) := by decide +kernel
theorem dX5_rain_34 : decode cX5_rain 34 = .ok (.aaload, 1) := by decide +kernel
theorem dX5_rain_35 : decode cX5_rain 35 = .ok (.iload 5, 2) := by decide +kernel
theorem dX5_rain_37 : decode cX5_rain 37 = .ok (.dup2, 1) := by decide +kernel
theorem dX5_rain_38 : decode cX5_rain 38 = .ok (.iaload, 1) := by decide +kernel
theorem dX5_rain_39 : decode cX5_rain 39 = .ok (.aload_n 2, 1) := by decide +kernel
theorem dX5_rain_40 : decode cX5_rain 40 = .ok (.iload 4, 2) := by decide +kernel
theorem dX5_rain_42 : decode cX5_rain 42 = .ok (.aaload, 1) := by decide +kernel
theorem dX5_rain_43 : decode cX5_rain 43 = .ok (.iload 5, 2) := by decide +kernel
theorem dX5_rain_45 : decode cX5_rain 45 = .ok (.iaload, 1) := by decide +kernel
theorem dX5_rain_46 : decode cX5_rain 46 = .ok (.iadd, 1) := by decide +kernel
theorem dX5_rain_47 : decode cX5_rain 47 = .ok (.iastore, 1) := by decide +kernel
theorem dX5_rain_48 : decode cX5_rain 48 = .ok (.iload_n 3, 1) := by decide +kernel
theorem dX5_rain_49 : decode cX5_rain 49 = .ok (.aload_n 2, 1) := by decide +kernel
theorem dX5_rain_50 : decode cX5_rain 50 = .ok (.iload 4, 2) := by decide +kernel
theorem dX5_rain_52 : decode cX5_rain 52 = .ok (.aaload, 1) := by decide +kernel
theorem dX5_rain_53 : decode cX5_rain 53 = .ok (.iload 5, 2) := by decide +kernel
theorem dX5_rain_55 : decode cX5_rain 55 = .ok (.iaload, 1) := by decide +kernel
theorem dX5_rain_56 : decode cX5_rain 56 = .ok (.iadd, 1) := by decide +kernel
theorem dX5_rain_57 : decode cX5_rain 57 = .ok (.istore_n 3, 1) := by decide +kernel
theorem dX5_rain_58 : decode cX5_rain 58 = .ok (.iinc 5 1, 3) := by decide +kernel
theorem dX5_rain_61 : decode cX5_rain 61 = .ok (.goto (-40), 3) := by decide +kernel
theorem dX5_rain_64 : decode cX5_rain 64 = .ok (.iinc 4 1, 3) := by decide +kernel
theorem dX5_rain_67 : decode cX5_rain 67 = .ok (.goto (-56), 3) := by decide +kernel
theorem dX5_rain_70 : decode cX5_rain 70 = .ok (.iconst 0, 1) := by decide +kernel
theorem dX5_rain_71 : decode cX5_rain 71 = .ok (.istore 4, 2) := by decide +kernel
theorem dX5_rain_73 : decode cX5_rain 73 = .ok (.iload 4, 2) := by decide +kernel
theorem dX5_rain_75 : decode cX5_rain 75 = .ok (.aload_n 0, 1) := by decide +kernel
theorem dX5_rain_76 : decode cX5_rain 76 = .ok (.getfield 9, 3) := by decide +kernel
theorem dX5_rain_79 : decode cX5_rain 79 = .ok (.arraylength, 1) := by decide +kernel
theorem dX5_rain_80 : decode cX5_rain 80 = .ok (.if_icmp .ge 29, 3) := by decide +kernel
theorem dX5_rain_83 : decode cX5_rain 83 = .ok (.aload_n 0, 1) := by decide +kernel
theorem dX5_rain_84 : decode cX5_rain 84 = .ok (.getfield 9, 3) := by decide +kernel
theorem dX5_rain_87 : decode cX5_rain 87 = .ok (.iload 4, 2) := by decide +kernel
theorem dX5_rain_89 : decode cX5_rain 89 = .ok (.aaload, 1) := by decide +kernel
theorem dX5_rain_90 : decode cX5_rain 90 = .ok (.bipush 7, 2) := by decide +kernel
theorem dX5_rain_92 : decode cX5_rain 92 = .ok (.dup2, 1) := by decide +kernel
theorem dX5_rain_93 : decode cX5_rain 93 = .ok (.iaload, 1) := by decide +kernel
theorem dX5_rain_94 : decode cX5_rain 94 = .ok (.aload_n 2, 1) := by decide +kernel
theorem dX5_rain_95 : decode cX5_rain 95 = .ok (.bipush 24, 2) := by decide +kernel
theorem dX5_rain_97 : decode cX5_rain 97 = .ok (.aaload, 1) := by decide +kernel
theorem dX5_rain_98 : decode cX5_rain 98 = .ok (.iload 4, 2) := by decide +kernel
theorem dX5_rain_100 : decode cX5_rain 100 = .ok (.iaload, 1) := by decide +kernel
theorem dX5_rain_101 : decode cX5_rain 101 = .ok (.iadd, 1) := by decide +kernel
theorem dX5_rain_102 : decode cX5_rain 102 = .ok (.iastore, 1) := by decide +kernel
theorem dX5_rain_103 : decode cX5_rain 103 = .ok (.iinc 4 1, 3) := by decide +kernel
theorem dX5_rain_106 : decode cX5_rain 106 = .ok (.goto (-33), 3) := by decide +kernel
theorem dX5_rain_109 : decode cX5_rain 109 = .ok (.aload_n 0, 1) := by decide +kernel
theorem dX5_rain_110 : decode cX5_rain 110 = .ok (.getfield 15, 3) := by decide +kernel
theorem dX5_rain_113 : decode cX5_rain 113 = .ok (.astore 4, 2) := by decide +kernel
theorem dX5_rain_115 : decode cX5_rain 115 = .ok (.aload 4, 2) := by decide +kernel
theorem dX5_rain_117 : decode cX5_rain 117 = .ok (.arraylength, 1) := by decide +kernel
theorem dX5_rain_118 : decode cX5_rain 118 = .ok (.istore 5, 2) := by decide +kernel
theorem dX5_rain_120 : decode cX5_rain 120 = .ok (.iconst 0, 1) := by decide +kernel
theorem dX5_rain_121 : decode cX5_rain 121 = .ok (.istore 6, 2) := by decide +kernel
theorem dX5_rain_123 : decode cX5_rain 123 = .ok (.iload 6, 2) := by decide +kernel
theorem dX5_rain_125 : decode cX5_rain 125 = .ok (.iload 5, 2) := by decide +kernel
theorem dX5_rain_127 : decode cX5_rain 127 = .ok (.if_icmp .ge 34, 3) := by decide +kernel
theorem dX5_rain_130 : decode cX5_rain 130 = .ok (.aload 4, 2) := by decide +kernel
theorem dX5_rain_132 : decode cX5_rain 132 = .ok (.iload 6, 2) := by decide +kernel
theorem dX5_rain_134 : decode cX5_rain 134 = .ok (.aaload, 1) := by decide +kernel
theorem dX5_rain_135 : decode cX5_rain 135 = .ok (.astore 7, 2) := by decide +kernel
theorem dX5_rain_137 : decode cX5_rain 137 = .ok (.aload 7, 2) := by decide +kernel
theorem dX5_rain_139 : decode cX5_rain 139 = .ok (.iconst 2, 1) := by decide +kernel
theorem dX5_rain_140 : decode cX5_rain 140 = .ok (.dup2, 1) := by decide +kernel
theorem dX5_rain_141 : decode cX5_rain 141 = .ok (.iaload, 1) := by decide +kernel
theorem dX5_rain_142 : decode cX5_rain 142 = .ok (.aload_n 2, 1) := by decide +kernel
theorem dX5_rain_143 : decode cX5_rain 143 = .ok (.aload 7, 2) := by decide +kernel
theorem dX5_rain_145 : decode cX5_rain 145 = .ok (.iconst 0, 1) := by decide +kernel
theorem dX5_rain_146 : decode cX5_rain 146 = .ok (.iaload, 1) := by decide +kernel
theorem dX5_rain_147 : decode cX5_rain 147 = .ok (.aaload, 1) := by decide +kernel
theorem dX5_rain_148 : decode cX5_rain 148 = .ok (.aload 7, 2) := by decide +kernel
theorem dX5_rain_150 : decode cX5_rain 150 = .ok (.iconst 1, 1) := by decide +kernel
theorem dX5_rain_151 : decode cX5_rain 151 = .ok (.iaload, 1) := by decide +kernel
theorem dX5_rain_152 : decode cX5_rain 152 = .ok (.iaload, 1) := by decide +kernel
theorem dX5_rain_153 : decode cX5_rain 153 = .ok (.iadd, 1) := by decide +kernel
theorem dX5_rain_154 : decode cX5_rain 154 = .ok (.iastore, 1) := by decide +kernel
theorem dX5_rain_155 : decode cX5_rain 155 = .ok (.iinc 6 1, 3) := by decide +kernel
theorem dX5_rain_158 : decode cX5_rain 158 = .ok (.goto (-35), 3) := by decide +kernel
theorem dX5_rain_161 : decode cX5_rain 161 = .ok (.aload_n 0, 1) := by decide +kernel
theorem dX5_rain_162 : decode cX5_rain 162 = .ok (.dup, 1) := by decide +kernel
theorem dX5_rain_163 : decode cX5_rain 163 = .ok (.getfield 38, 3) := by decide +kernel
theorem dX5_rain_166 : decode cX5_rain 166 = .ok (.aload_n 2, 1) := by decide +kernel
theorem dX5_rain_167 : decode cX5_rain 167 = .ok (.bipush 24, 2) := by decide +kernel
theorem dX5_rain_169 : decode cX5_rain 169 = .ok (.aaload, 1) := by decide +kernel
theorem dX5_rain_170 : decode cX5_rain 170 = .ok (.aload_n 0, 1) := by decide +kernel
theorem dX5_rain_171 : decode cX5_rain 171 = .ok (.getfield 9, 3) := by decide +kernel
theorem dX5_rain_174 : decode cX5_rain 174 = .ok (.arraylength, 1) := by decide +kernel
theorem dX5_rain_175 : decode cX5_rain 175 = .ok (.iaload, 1) := by decide +kernel
theorem dX5_rain_176 : decode cX5_rain 176 = .ok (.iadd, 1) := by decide +kernel
theorem dX5_rain_177 : decode cX5_rain 177 = .ok (.putfield 38, 3) := by decide +kernel
theorem dX5_rain_180 : decode cX5_rain 180 = .ok (.aload_n 0, 1) := by decide +kernel
theorem dX5_rain_181 : decode cX5_rain 181 = .ok (.dup, 1) := by decide +kernel
theorem dX5_rain_182 : decode cX5_rain 182 = .ok (.getfield 42, 3) := by decide +kernel
theorem dX5_rain_185 : decode cX5_rain 185 = .ok (.iconst 1, 1) := by decide +kernel
theorem dX5_rain_186 : decode cX5_rain 186 = .ok (.iadd, 1) := by decide +kernel
theorem dX5_rain_187 : decode cX5_rain 187 = .ok (.putfield 42, 3) := by decide +kernel
theorem dX5_rain_190 : decode cX5_rain 190 = .ok (.iload_n 3, 1) := by decide +kernel
theorem dX5_rain_191 : decode cX5_rain 191 = .ok (.ireturn, 1) := by decide +kernel
theorem dX5_own_0 : decode cX5_own 0 = .ok (.iconst 0, 1) := by decide +kernel
theorem dX5_own_1 : decode cX5_own 1 = .ok (.istore_n 2, 1) := by decide +kernel
theorem dX5_own_2 : decode cX5_own 2 = .ok (.iconst 0, 1) := by decide +kernel
theorem dX5_own_3 : decode cX5_own 3 = .ok (.istore_n 3, 1) := by decide +kernel
theorem dX5_own_4 : decode cX5_own 4 = .ok (.iload_n 3, 1) := by decide +kernel
theorem dX5_own_5 : decode cX5_own 5 = .ok (.bipush 24, 2) := by decide +kernel
theorem dX5_own_7 : decode cX5_own 7 = .ok (.if_icmp .ge 55, 3) := by decide +kernel
theorem dX5_own_10 : decode cX5_own 10 = .ok (.iconst 0, 1) := by decide +kernel
theorem dX5_own_11 : decode cX5_own 11 = .ok (.istore 4, 2) := by decide +kernel
theorem dX5_own_13 : decode cX5_own 13 = .ok (.iload 4, 2) := by decide +kernel
theorem dX5_own_15 : decode cX5_own 15 = .ok (.bipush 24, 2) := by decide +kernel
theorem dX5_own_17 : decode cX5_own 17 = .ok (.if_icmp .ge 39, 3) := by decide +kernel
theorem dX5_own_20 : decode cX5_own 20 = .ok (.iload_n 2, 1) := by decide +kernel
theorem dX5_own_21 : decode cX5_own 21 = .ok (.aload_n 0, 1) := by decide +kernel
theorem dX5_own_22 : decode cX5_own 22 = .ok (.iload_n 1, 1) := by decide +kernel
theorem dX5_own_23 : decode cX5_own 23 = .ok (.iload_n 3, 1) := by decide +kernel
theorem dX5_own_24 : decode cX5_own 24 = .ok (.iload 4, 2) := by decide +kernel
theorem dX5_own_26 : decode cX5_own 26 = .ok (.invokevirtual 22, 3) := by decide +kernel
theorem dX5_own_29 : decode cX5_own 29 = .ok (.ifCond .eq 18, 3) := by decide +kernel
theorem dX5_own_32 : decode cX5_own 32 = .ok (.aload_n 0, 1) := by decide +kernel
theorem dX5_own_33 : decode cX5_own 33 = .ok (.iload_n 3, 1) := by decide +kernel
theorem dX5_own_34 : decode cX5_own 34 = .ok (.iload 4, 2) := by decide +kernel
theorem dX5_own_36 : decode cX5_own 36 = .ok (.invokevirtual 26, 3) := by decide +kernel
theorem dX5_own_39 : decode cX5_own 39 = .ok (.iconst 1, 1) := by decide +kernel
theorem dX5_own_40 : decode cX5_own 40 = .ok (.if_icmp .ne 7, 3) := by decide +kernel
theorem dX5_own_43 : decode cX5_own 43 = .ok (.iconst 1, 1) := by decide +kernel
theorem dX5_own_44 : decode cX5_own 44 = .ok (.goto 4, 3) := by decide +kernel
theorem dX5_own_47 : decode cX5_own 47 = .ok (.iconst 0, 1) := by decide +kernel
theorem dX5_own_48 : decode cX5_own 48 = .ok (.iadd, 1) := by decide +kernel
theorem dX5_own_49 : decode cX5_own 49 = .ok (.istore_n 2, 1) := by decide +kernel
theorem dX5_own_50 : decode cX5_own 50 = .ok (.iinc 4 1, 3) := by decide +kernel
theorem dX5_own_53 : decode cX5_own 53 = .ok (.goto (-40), 3) := by decide +kernel
theorem dX5_own_56 : decode cX5_own 56 = .ok (.iinc 3 1, 3) := by decide +kernel
theorem dX5_own_59 : decode cX5_own 59 = .ok (.goto (-55), 3) := by decide +kernel
theorem dX5_own_62 : decode cX5_own 62 = .ok (.iload_n 2, 1) := by decide +kernel
theorem dX5_own_63 : decode cX5_own 63 = .ok (.ireturn, 1) := by decide +kernel
theorem dX5_covered_0 : decode cX5_covered 0 = .ok (.iconst 0, 1) := by decide +kernel
theorem dX5_covered_1 : decode cX5_covered 1 = .ok (.istore_n 1, 1) := by decide +kernel
theorem dX5_covered_2 : decode cX5_covered 2 = .ok (.iconst 0, 1) := by decide +kernel
theorem dX5_covered_3 : decode cX5_covered 3 = .ok (.istore_n 2, 1) := by decide +kernel
theorem dX5_covered_4 : decode cX5_covered 4 = .ok (.iload_n 2, 1) := by decide +kernel
theorem dX5_covered_5 : decode cX5_covered 5 = .ok (.bipush 24, 2) := by decide +kernel
theorem dX5_covered_7 : decode cX5_covered 7 = .ok (.if_icmp .ge 40, 3) := by decide +kernel
theorem dX5_covered_10 : decode cX5_covered 10 = .ok (.iconst 0, 1) := by decide +kernel
theorem dX5_covered_11 : decode cX5_covered 11 = .ok (.istore_n 3, 1) := by decide +kernel
theorem dX5_covered_12 : decode cX5_covered 12 = .ok (.iload_n 3, 1) := by decide +kernel
theorem dX5_covered_13 : decode cX5_covered 13 = .ok (.bipush 24, 2) := by decide +kernel
theorem dX5_covered_15 : decode cX5_covered 15 = .ok (.if_icmp .ge 26, 3) := by decide +kernel
theorem dX5_covered_18 : decode cX5_covered 18 = .ok (.iload_n 1, 1) := by decide +kernel
theorem dX5_covered_19 : decode cX5_covered 19 = .ok (.aload_n 0, 1) := by decide +kernel
theorem dX5_covered_20 : decode cX5_covered 20 = .ok (.iload_n 2, 1) := by decide +kernel
theorem dX5_covered_21 : decode cX5_covered 21 = .ok (.iload_n 3, 1) := by decide +kernel
theorem dX5_covered_22 : decode cX5_covered 22 = .ok (.invokevirtual 45, 3) := by decide +kernel
theorem dX5_covered_25 : decode cX5_covered 25 = .ok (.ifCond .eq 7, 3) := by decide +kernel
theorem dX5_covered_28 : decode cX5_covered 28 = .ok (.iconst 1, 1) := by decide +kernel
theorem dX5_covered_29 : decode cX5_covered 29 = .ok (.goto 4, 3) := by decide +kernel
theorem dX5_covered_32 : decode cX5_covered 32 = .ok (.iconst 0, 1) := by decide +kernel
theorem dX5_covered_33 : decode cX5_covered 33 = .ok (.iadd, 1) := by decide +kernel
theorem dX5_covered_34 : decode cX5_covered 34 = .ok (.istore_n 1, 1) := by decide +kernel
theorem dX5_covered_35 : decode cX5_covered 35 = .ok (.iinc 3 1, 3) := by decide +kernel
theorem dX5_covered_38 : decode cX5_covered 38 = .ok (.goto (-26), 3) := by decide +kernel
theorem dX5_covered_41 : decode cX5_covered 41 = .ok (.iinc 2 1, 3) := by decide +kernel
theorem dX5_covered_44 : decode cX5_covered 44 = .ok (.goto (-40), 3) := by decide +kernel
theorem dX5_covered_47 : decode cX5_covered 47 = .ok (.iload_n 1, 1) := by decide +kernel
theorem dX5_covered_48 : decode cX5_covered 48 = .ok (.ireturn, 1) := by decide +kernel
theorem dX5_outline_0 : decode cX5_outline 0 = .ok (.iconst 0, 1) := by decide +kernel
theorem dX5_outline_1 : decode cX5_outline 1 = .ok (.istore_n 1, 1) := by decide +kernel
theorem dX5_outline_2 : decode cX5_outline 2 = .ok (.iconst 0, 1) := by decide +kernel
theorem dX5_outline_3 : decode cX5_outline 3 = .ok (.istore_n 2, 1) := by decide +kernel
theorem dX5_outline_4 : decode cX5_outline 4 = .ok (.iload_n 2, 1) := by decide +kernel
theorem dX5_outline_5 : decode cX5_outline 5 = .ok (.bipush 24, 2) := by decide +kernel
theorem dX5_outline_7 : decode cX5_outline 7 = .ok (.if_icmp .ge 105, 3) := by decide +kernel
theorem dX5_outline_10 : decode cX5_outline 10 = .ok (.iconst 0, 1) := by decide +kernel
theorem dX5_outline_11 : decode cX5_outline 11 = .ok (.istore_n 3, 1) := by decide +kernel
theorem dX5_outline_12 : decode cX5_outline 12 = .ok (.iload_n 3, 1) := by decide +kernel
theorem dX5_outline_13 : decode cX5_outline 13 = .ok (.bipush 24, 2) := by decide +kernel
theorem dX5_outline_15 : decode cX5_outline 15 = .ok (.if_icmp .ge 91, 3) := by decide +kernel
theorem dX5_outline_18 : decode cX5_outline 18 = .ok (.aload_n 0, 1) := by decide +kernel
theorem dX5_outline_19 : decode cX5_outline 19 = .ok (.iload_n 2, 1) := by decide +kernel
theorem dX5_outline_20 : decode cX5_outline 20 = .ok (.iload_n 3, 1) := by decide +kernel
theorem dX5_outline_21 : decode cX5_outline 21 = .ok (.invokevirtual 45, 3) := by decide +kernel
theorem dX5_outline_24 : decode cX5_outline 24 = .ok (.ifCond .ne 6, 3) := by decide +kernel
theorem dX5_outline_27 : decode cX5_outline 27 = .ok (.goto 73, 3) := by decide +kernel
theorem dX5_outline_30 : decode cX5_outline 30 = .ok (.iload_n 1, 1) := by decide +kernel
theorem dX5_outline_31 : decode cX5_outline 31 = .ok (.aload_n 0, 1) := by decide +kernel
theorem dX5_outline_32 : decode cX5_outline 32 = .ok (.iload_n 2, 1) := by decide +kernel
theorem dX5_outline_33 : decode cX5_outline 33 = .ok (.iconst 1, 1) := by decide +kernel
theorem dX5_outline_34 : decode cX5_outline 34 = .ok (.isub, 1) := by decide +kernel
theorem dX5_outline_35 : decode cX5_outline 35 = .ok (.iload_n 3, 1) := by decide +kernel
theorem dX5_outline_36 : decode cX5_outline 36 = .ok (.invokevirtual 45, 3) := by decide +kernel
theorem dX5_outline_39 : decode cX5_outline 39 = .ok (.ifCond .eq 7, 3) := by decide +kernel
theorem dX5_outline_42 : decode cX5_outline 42 = .ok (.iconst 0, 1) := by decide +kernel
theorem dX5_outline_43 : decode cX5_outline 43 = .ok (.goto 4, 3) := by decide +kernel
theorem dX5_outline_46 : decode cX5_outline 46 = .ok (.iconst 1, 1) := by decide +kernel
theorem dX5_outline_47 : decode cX5_outline 47 = .ok (.aload_n 0, 1) := by decide +kernel
theorem dX5_outline_48 : decode cX5_outline 48 = .ok (.iload_n 2, 1) := by decide +kernel
theorem dX5_outline_49 : decode cX5_outline 49 = .ok (.iconst 1, 1) := by decide +kernel
theorem dX5_outline_50 : decode cX5_outline 50 = .ok (.iadd, 1) := by decide +kernel
theorem dX5_outline_51 : decode cX5_outline 51 = .ok (.iload_n 3, 1) := by decide +kernel
theorem dX5_outline_52 : decode cX5_outline 52 = .ok (.invokevirtual 45, 3) := by decide +kernel
theorem dX5_outline_55 : decode cX5_outline 55 = .ok (.ifCond .eq 7, 3) := by decide +kernel
theorem dX5_outline_58 : decode cX5_outline 58 = .ok (.iconst 0, 1) := by decide +kernel
theorem dX5_outline_59 : decode cX5_outline 59 = .ok (.goto 4, 3) := by decide +kernel
theorem dX5_outline_62 : decode cX5_outline 62 = .ok (.iconst 1, 1) := by decide +kernel
theorem dX5_outline_63 : decode cX5_outline 63 = .ok (.iadd, 1) := by decide +kernel
theorem dX5_outline_64 : decode cX5_outline 64 = .ok (.aload_n 0, 1) := by decide +kernel
theorem dX5_outline_65 : decode cX5_outline 65 = .ok (.iload_n 2, 1) := by decide +kernel
theorem dX5_outline_66 : decode cX5_outline 66 = .ok (.iload_n 3, 1) := by decide +kernel
theorem dX5_outline_67 : decode cX5_outline 67 = .ok (.iconst 1, 1) := by decide +kernel
theorem dX5_outline_68 : decode cX5_outline 68 = .ok (.isub, 1) := by decide +kernel
theorem dX5_outline_69 : decode cX5_outline 69 = .ok (.invokevirtual 45, 3) := by decide +kernel
theorem dX5_outline_72 : decode cX5_outline 72 = .ok (.ifCond .eq 7, 3) := by decide +kernel
theorem dX5_outline_75 : decode cX5_outline 75 = .ok (.iconst 0, 1) := by decide +kernel
theorem dX5_outline_76 : decode cX5_outline 76 = .ok (.goto 4, 3) := by decide +kernel
theorem dX5_outline_79 : decode cX5_outline 79 = .ok (.iconst 1, 1) := by decide +kernel
theorem dX5_outline_80 : decode cX5_outline 80 = .ok (.iadd, 1) := by decide +kernel
theorem dX5_outline_81 : decode cX5_outline 81 = .ok (.aload_n 0, 1) := by decide +kernel
theorem dX5_outline_82 : decode cX5_outline 82 = .ok (.iload_n 2, 1) := by decide +kernel
theorem dX5_outline_83 : decode cX5_outline 83 = .ok (.iload_n 3, 1) := by decide +kernel
theorem dX5_outline_84 : decode cX5_outline 84 = .ok (.iconst 1, 1) := by decide +kernel
theorem dX5_outline_85 : decode cX5_outline 85 = .ok (.iadd, 1) := by decide +kernel
theorem dX5_outline_86 : decode cX5_outline 86 = .ok (.invokevirtual 45, 3) := by decide +kernel
theorem dX5_outline_89 : decode cX5_outline 89 = .ok (.ifCond .eq 7, 3) := by decide +kernel
theorem dX5_outline_92 : decode cX5_outline 92 = .ok (.iconst 0, 1) := by decide +kernel
theorem dX5_outline_93 : decode cX5_outline 93 = .ok (.goto 4, 3) := by decide +kernel
theorem dX5_outline_96 : decode cX5_outline 96 = .ok (.iconst 1, 1) := by decide +kernel
theorem dX5_outline_97 : decode cX5_outline 97 = .ok (.iadd, 1) := by decide +kernel
theorem dX5_outline_98 : decode cX5_outline 98 = .ok (.iadd, 1) := by decide +kernel
theorem dX5_outline_99 : decode cX5_outline 99 = .ok (.istore_n 1, 1) := by decide +kernel
theorem dX5_outline_100 : decode cX5_outline 100 = .ok (.iinc 3 1, 3) := by decide +kernel
theorem dX5_outline_103 : decode cX5_outline 103 = .ok (.goto (-91), 3) := by decide +kernel
theorem dX5_outline_106 : decode cX5_outline 106 = .ok (.iinc 2 1, 3) := by decide +kernel
theorem dX5_outline_109 : decode cX5_outline 109 = .ok (.goto (-105), 3) := by decide +kernel
theorem dX5_outline_112 : decode cX5_outline 112 = .ok (.iload_n 1, 1) := by decide +kernel
theorem dX5_outline_113 : decode cX5_outline 113 = .ok (.ireturn, 1) := by decide +kernel
theorem dX5_parts_0 : decode cX5_parts 0 = .ok (.bipush 26, 2) := by decide +kernel
theorem dX5_parts_2 : decode cX5_parts 2 = .ok (.bipush 26, 2) := by decide +kernel
theorem dX5_parts_4 : decode cX5_parts 4 = .ok (.multianewarray 18 2, 4) := by decide +kernel
theorem dX5_parts_8 : decode cX5_parts 8 = .ok (.astore_n 1, 1) := by decide +kernel
theorem dX5_parts_9 : decode cX5_parts 9 = .ok (.iconst 0, 1) := by decide +kernel
theorem dX5_parts_10 : decode cX5_parts 10 = .ok (.istore_n 2, 1) := by decide +kernel
theorem dX5_parts_11 : decode cX5_parts 11 = .ok (.iload_n 2, 1) := by decide +kernel
theorem dX5_parts_12 : decode cX5_parts 12 = .ok (.bipush 24, 2) := by decide +kernel
theorem dX5_parts_14 : decode cX5_parts 14 = .ok (.if_icmp .ge 53, 3) := by decide +kernel
theorem dX5_parts_17 : decode cX5_parts 17 = .ok (.iconst 0, 1) := by decide +kernel
theorem dX5_parts_18 : decode cX5_parts 18 = .ok (.istore_n 3, 1) := by decide +kernel
theorem dX5_parts_19 : decode cX5_parts 19 = .ok (.iload_n 3, 1) := by decide +kernel
theorem dX5_parts_20 : decode cX5_parts 20 = .ok (.bipush 24, 2) := by decide +kernel
theorem dX5_parts_22 : decode cX5_parts 22 = .ok (.if_icmp .ge 39, 3) := by decide +kernel
theorem dX5_parts_25 : decode cX5_parts 25 = .ok (.aload_n 1, 1) := by decide +kernel
theorem dX5_parts_26 : decode cX5_parts 26 = .ok (.iload_n 2, 1) := by decide +kernel
theorem dX5_parts_27 : decode cX5_parts 27 = .ok (.iconst 1, 1) := by decide +kernel
theorem dX5_parts_28 : decode cX5_parts 28 = .ok (.iadd, 1) := by decide +kernel
theorem dX5_parts_29 : decode cX5_parts 29 = .ok (.aaload, 1) := by decide +kernel
theorem dX5_parts_30 : decode cX5_parts 30 = .ok (.iload_n 3, 1) := by decide +kernel
theorem dX5_parts_31 : decode cX5_parts 31 = .ok (.iconst 1, 1) := by decide +kernel
theorem dX5_parts_32 : decode cX5_parts 32 = .ok (.iadd, 1) := by decide +kernel
theorem dX5_parts_33 : decode cX5_parts 33 = .ok (.aload_n 0, 1) := by decide +kernel
theorem dX5_parts_34 : decode cX5_parts 34 = .ok (.iload_n 2, 1) := by decide +kernel
theorem dX5_parts_35 : decode cX5_parts 35 = .ok (.iload_n 3, 1) := by decide +kernel
theorem dX5_parts_36 : decode cX5_parts 36 = .ok (.invokevirtual 45, 3) := by decide +kernel
theorem dX5_parts_39 : decode cX5_parts 39 = .ok (.ifCond .eq 14, 3) := by decide +kernel
theorem dX5_parts_42 : decode cX5_parts 42 = .ok (.iconst 1, 1) := by decide +kernel
theorem dX5_parts_43 : decode cX5_parts 43 = .ok (.bipush 24, 2) := by decide +kernel
theorem dX5_parts_45 : decode cX5_parts 45 = .ok (.iload_n 2, 1) := by decide +kernel
theorem dX5_parts_46 : decode cX5_parts 46 = .ok (.imul, 1) := by decide +kernel
theorem dX5_parts_47 : decode cX5_parts 47 = .ok (.iadd, 1) := by decide +kernel
theorem dX5_parts_48 : decode cX5_parts 48 = .ok (.iload_n 3, 1) := by decide +kernel
theorem dX5_parts_49 : decode cX5_parts 49 = .ok (.iadd, 1) := by decide +kernel
theorem dX5_parts_50 : decode cX5_parts 50 = .ok (.goto 4, 3) := by decide +kernel
theorem dX5_parts_53 : decode cX5_parts 53 = .ok (.iconst 0, 1) := by decide +kernel
theorem dX5_parts_54 : decode cX5_parts 54 = .ok (.iastore, 1) := by decide +kernel
theorem dX5_parts_55 : decode cX5_parts 55 = .ok (.iinc 3 1, 3) := by decide +kernel
theorem dX5_parts_58 : decode cX5_parts 58 = .ok (.goto (-39), 3) := by decide +kernel
theorem dX5_parts_61 : decode cX5_parts 61 = .ok (.iinc 2 1, 3) := by decide +kernel
theorem dX5_parts_64 : decode cX5_parts 64 = .ok (.goto (-53), 3) := by decide +kernel
theorem dX5_parts_67 : decode cX5_parts 67 = .ok (.iconst 1, 1) := by decide +kernel
theorem dX5_parts_68 : decode cX5_parts 68 = .ok (.istore_n 2, 1) := by decide +kernel
theorem dX5_parts_69 : decode cX5_parts 69 = .ok (.iload_n 2, 1) := by decide +kernel
theorem dX5_parts_70 : decode cX5_parts 70 = .ok (.ifCond .eq 145, 3) := by decide +kernel
theorem dX5_parts_73 : decode cX5_parts 73 = .ok (.iconst 0, 1) := by decide +kernel
theorem dX5_parts_74 : decode cX5_parts 74 = .ok (.istore_n 2, 1) := by decide +kernel
theorem dX5_parts_75 : decode cX5_parts 75 = .ok (.iconst 0, 1) := by decide +kernel
theorem dX5_parts_76 : decode cX5_parts 76 = .ok (.istore_n 3, 1) := by decide +kernel
theorem dX5_parts_77 : decode cX5_parts 77 = .ok (.iload_n 3, 1) := by decide +kernel
theorem dX5_parts_78 : decode cX5_parts 78 = .ok (.sipush 1152, 3) := by decide +kernel
theorem dX5_parts_81 : decode cX5_parts 81 = .ok (.if_icmp .ge 131, 3) := by decide +kernel
theorem dX5_parts_84 : decode cX5_parts 84 = .ok (.iload_n 3, 1) := by decide +kernel
theorem dX5_parts_85 : decode cX5_parts 85 = .ok (.sipush 576, 3) := by decide +kernel
theorem dX5_parts_88 : decode cX5_parts 88 = .ok (.if_icmp .ge 7, 3) := by decide +kernel
theorem dX5_parts_91 : decode cX5_parts 91 = .ok (.iload_n 3, 1) := by decide +kernel
theorem dX5_parts_92 : decode cX5_parts 92 = .ok (.goto 8, 3) := by decide +kernel
theorem dX5_parts_95 : decode cX5_parts 95 = .ok (.sipush 1151, 3) := by decide +kernel
theorem dX5_parts_98 : decode cX5_parts 98 = .ok (.iload_n 3, 1) := by decide +kernel
theorem dX5_parts_99 : decode cX5_parts 99 = .ok (.isub, 1) := by decide +kernel
theorem dX5_parts_100 : decode cX5_parts 100 = .ok (.istore 4, 2) := by decide +kernel
theorem dX5_parts_102 : decode cX5_parts 102 = .ok (.iconst 1, 1) := by decide +kernel
theorem dX5_parts_103 : decode cX5_parts 103 = .ok (.iload 4, 2) := by decide +kernel
theorem dX5_parts_105 : decode cX5_parts 105 = .ok (.bipush 24, 2) := by decide +kernel
theorem dX5_parts_107 : decode cX5_parts 107 = .ok (.idiv, 1) := by decide +kernel
theorem dX5_parts_108 : decode cX5_parts 108 = .ok (.iadd, 1) := by decide +kernel
theorem dX5_parts_109 : decode cX5_parts 109 = .ok (.istore 5, 2) := by decide +kernel
theorem dX5_parts_111 : decode cX5_parts 111 = .ok (.iconst 1, 1) := by decide +kernel
theorem dX5_parts_112 : decode cX5_parts 112 = .ok (.iload 4, 2) := by decide +kernel
theorem dX5_parts_114 : decode cX5_parts 114 = .ok (.bipush 24, 2) := by decide +kernel
theorem dX5_parts_116 : decode cX5_parts 116 = .ok (.irem, 1) := by decide +kernel
theorem dX5_parts_117 : decode cX5_parts 117 = .ok (.iadd, 1) := by decide +kernel
theorem dX5_parts_118 : decode cX5_parts 118 = .ok (.istore 6, 2) := by decide +kernel
theorem dX5_parts_120 : decode cX5_parts 120 = .ok (.aload_n 1, 1) := by decide +kernel
theorem dX5_parts_121 : decode cX5_parts 121 = .ok (.iload 5, 2) := by decide +kernel
theorem dX5_parts_123 : decode cX5_parts 123 = .ok (.aaload, 1) := by decide +kernel
theorem dX5_parts_124 : decode cX5_parts 124 = .ok (.iload 6, 2) := by decide +kernel
theorem dX5_parts_126 : decode cX5_parts 126 = .ok (.iaload, 1) := by decide +kernel
theorem dX5_parts_127 : decode cX5_parts 127 = .ok (.ifCond .ne 6, 3) := by decide +kernel
theorem dX5_parts_130 : decode cX5_parts 130 = .ok (.goto 76, 3) := by decide +kernel
theorem dX5_parts_133 : decode cX5_parts 133 = .ok (.aload_n 1, 1) := by decide +kernel
theorem dX5_parts_134 : decode cX5_parts 134 = .ok (.iload 5, 2) := by decide +kernel
theorem dX5_parts_136 : decode cX5_parts 136 = .ok (.iconst 1, 1) := by decide +kernel
theorem dX5_parts_137 : decode cX5_parts 137 = .ok (.isub, 1) := by decide +kernel
theorem dX5_parts_138 : decode cX5_parts 138 = .ok (.aaload, 1) := by decide +kernel
theorem dX5_parts_139 : decode cX5_parts 139 = .ok (.iload 6, 2) := by decide +kernel
theorem dX5_parts_141 : decode cX5_parts 141 = .ok (.iaload, 1) := by decide +kernel
theorem dX5_parts_142 : decode cX5_parts 142 = .ok (.aload_n 1, 1) := by decide +kernel
theorem dX5_parts_143 : decode cX5_parts 143 = .ok (.iload 5, 2) := by decide +kernel
theorem dX5_parts_145 : decode cX5_parts 145 = .ok (.iconst 1, 1) := by decide +kernel
theorem dX5_parts_146 : decode cX5_parts 146 = .ok (.iadd, 1) := by decide +kernel
theorem dX5_parts_147 : decode cX5_parts 147 = .ok (.aaload, 1) := by decide +kernel
theorem dX5_parts_148 : decode cX5_parts 148 = .ok (.iload 6, 2) := by decide +kernel
theorem dX5_parts_150 : decode cX5_parts 150 = .ok (.iaload, 1) := by decide +kernel
theorem dX5_parts_151 : decode cX5_parts 151 = .ok (.invokestatic 49, 3) := by decide +kernel
theorem dX5_parts_154 : decode cX5_parts 154 = .ok (.aload_n 1, 1) := by decide +kernel
theorem dX5_parts_155 : decode cX5_parts 155 = .ok (.iload 5, 2) := by decide +kernel
theorem dX5_parts_157 : decode cX5_parts 157 = .ok (.aaload, 1) := by decide +kernel
theorem dX5_parts_158 : decode cX5_parts 158 = .ok (.iload 6, 2) := by decide +kernel
theorem dX5_parts_160 : decode cX5_parts 160 = .ok (.iconst 1, 1) := by decide +kernel
theorem dX5_parts_161 : decode cX5_parts 161 = .ok (.isub, 1) := by decide +kernel
theorem dX5_parts_162 : decode cX5_parts 162 = .ok (.iaload, 1) := by decide +kernel
theorem dX5_parts_163 : decode cX5_parts 163 = .ok (.aload_n 1, 1) := by decide +kernel
theorem dX5_parts_164 : decode cX5_parts 164 = .ok (.iload 5, 2) := by decide +kernel
theorem dX5_parts_166 : decode cX5_parts 166 = .ok (.aaload, 1) := by decide +kernel
theorem dX5_parts_167 : decode cX5_parts 167 = .ok (.iload 6, 2) := by decide +kernel
theorem dX5_parts_169 : decode cX5_parts 169 = .ok (.iconst 1, 1) := by decide +kernel
theorem dX5_parts_170 : decode cX5_parts 170 = .ok (.iadd, 1) := by decide +kernel
theorem dX5_parts_171 : decode cX5_parts 171 = .ok (.iaload, 1) := by decide +kernel
theorem dX5_parts_172 : decode cX5_parts 172 = .ok (.invokestatic 49, 3) := by decide +kernel
theorem dX5_parts_175 : decode cX5_parts 175 = .ok (.invokestatic 49, 3) := by decide +kernel
theorem dX5_parts_178 : decode cX5_parts 178 = .ok (.istore 7, 2) := by decide +kernel
theorem dX5_parts_180 : decode cX5_parts 180 = .ok (.iload 7, 2) := by decide +kernel
theorem dX5_parts_182 : decode cX5_parts 182 = .ok (.aload_n 1, 1) := by decide +kernel
theorem dX5_parts_183 : decode cX5_parts 183 = .ok (.iload 5, 2) := by decide +kernel
theorem dX5_parts_185 : decode cX5_parts 185 = .ok (.aaload, 1) := by decide +kernel
theorem dX5_parts_186 : decode cX5_parts 186 = .ok (.iload 6, 2) := by decide +kernel
theorem dX5_parts_188 : decode cX5_parts 188 = .ok (.iaload, 1) := by decide +kernel
theorem dX5_parts_189 : decode cX5_parts 189 = .ok (.if_icmp .gt 6, 3) := by decide +kernel
theorem dX5_parts_192 : decode cX5_parts 192 = .ok (.goto 14, 3) := by decide +kernel
theorem dX5_parts_195 : decode cX5_parts 195 = .ok (.aload_n 1, 1) := by decide +kernel
theorem dX5_parts_196 : decode cX5_parts 196 = .ok (.iload 5, 2) := by decide +kernel
theorem dX5_parts_198 : decode cX5_parts 198 = .ok (.aaload, 1) := by decide +kernel
theorem dX5_parts_199 : decode cX5_parts 199 = .ok (.iload 6, 2) := by decide +kernel
theorem dX5_parts_201 : decode cX5_parts 201 = .ok (.iload 7, 2) := by decide +kernel
theorem dX5_parts_203 : decode cX5_parts 203 = .ok (.iastore, 1) := by decide +kernel
theorem dX5_parts_204 : decode cX5_parts 204 = .ok (.iconst 1, 1) := by decide +kernel
theorem dX5_parts_205 : decode cX5_parts 205 = .ok (.istore_n 2, 1) := by decide +kernel
theorem dX5_parts_206 : decode cX5_parts 206 = .ok (.iinc 3 1, 3) := by decide +kernel
theorem dX5_parts_209 : decode cX5_parts 209 = .ok (.goto (-132), 3) := by decide +kernel
theorem dX5_parts_212 : decode cX5_parts 212 = .ok (.goto (-143), 3) := by decide +kernel
theorem dX5_parts_215 : decode cX5_parts 215 = .ok (.iconst 0, 1) := by decide +kernel
theorem dX5_parts_216 : decode cX5_parts 216 = .ok (.istore_n 3, 1) := by decide +kernel
theorem dX5_parts_217 : decode cX5_parts 217 = .ok (.iconst 0, 1) := by decide +kernel
theorem dX5_parts_218 : decode cX5_parts 218 = .ok (.istore 4, 2) := by decide +kernel
theorem dX5_parts_220 : decode cX5_parts 220 = .ok (.iload 4, 2) := by decide +kernel
theorem dX5_parts_222 : decode cX5_parts 222 = .ok (.bipush 24, 2) := by decide +kernel
theorem dX5_parts_224 : decode cX5_parts 224 = .ok (.if_icmp .ge 57, 3) := by decide +kernel
theorem dX5_parts_227 : decode cX5_parts 227 = .ok (.iconst 0, 1) := by decide +kernel
theorem dX5_parts_228 : decode cX5_parts 228 = .ok (.istore 5, 2) := by decide +kernel
theorem dX5_parts_230 : decode cX5_parts 230 = .ok (.iload 5, 2) := by decide +kernel
theorem dX5_parts_232 : decode cX5_parts 232 = .ok (.bipush 24, 2) := by decide +kernel
theorem dX5_parts_234 : decode cX5_parts 234 = .ok (.if_icmp .ge 41, 3) := by decide +kernel
theorem dX5_parts_237 : decode cX5_parts 237 = .ok (.iload_n 3, 1) := by decide +kernel
theorem dX5_parts_238 : decode cX5_parts 238 = .ok (.aload_n 1, 1) := by decide +kernel
theorem dX5_parts_239 : decode cX5_parts 239 = .ok (.iload 4, 2) := by decide +kernel
theorem dX5_parts_241 : decode cX5_parts 241 = .ok (.iconst 1, 1) := by decide +kernel
theorem dX5_parts_242 : decode cX5_parts 242 = .ok (.iadd, 1) := by decide +kernel
theorem dX5_parts_243 : decode cX5_parts 243 = .ok (.aaload, 1) := by decide +kernel
theorem dX5_parts_244 : decode cX5_parts 244 = .ok (.iload 5, 2) := by decide +kernel
theorem dX5_parts_246 : decode cX5_parts 246 = .ok (.iconst 1, 1) := by decide +kernel
theorem dX5_parts_247 : decode cX5_parts 247 = .ok (.iadd, 1) := by decide +kernel
theorem dX5_parts_248 : decode cX5_parts 248 = .ok (.iaload, 1) := by decide +kernel
theorem dX5_parts_249 : decode cX5_parts 249 = .ok (.iconst 1, 1) := by decide +kernel
theorem dX5_parts_250 : decode cX5_parts 250 = .ok (.bipush 24, 2) := by decide +kernel
theorem dX5_parts_252 : decode cX5_parts 252 = .ok (.iload 4, 2) := by decide +kernel
theorem dX5_parts_254 : decode cX5_parts 254 = .ok (.imul, 1) := by decide +kernel
theorem dX5_parts_255 : decode cX5_parts 255 = .ok (.iadd, 1) := by decide +kernel
theorem dX5_parts_256 : decode cX5_parts 256 = .ok (.iload 5, 2) := by decide +kernel
theorem dX5_parts_258 : decode cX5_parts 258 = .ok (.iadd, 1) := by decide +kernel
theorem dX5_parts_259 : decode cX5_parts 259 = .ok (.if_icmp .ne 7, 3) := by decide +kernel
theorem dX5_parts_262 : decode cX5_parts 262 = .ok (.iconst 1, 1) := by decide +kernel
theorem dX5_parts_263 : decode cX5_parts 263 = .ok (.goto 4, 3) := by decide +kernel
theorem dX5_parts_266 : decode cX5_parts 266 = .ok (.iconst 0, 1) := by decide +kernel
theorem dX5_parts_267 : decode cX5_parts 267 = .ok (.iadd, 1) := by decide +kernel
theorem dX5_parts_268 : decode cX5_parts 268 = .ok (.istore_n 3, 1) := by decide +kernel
theorem dX5_parts_269 : decode cX5_parts 269 = .ok (.iinc 5 1, 3) := by decide +kernel
theorem dX5_parts_272 : decode cX5_parts 272 = .ok (.goto (-42), 3) := by decide +kernel
theorem dX5_parts_275 : decode cX5_parts 275 = .ok (.iinc 4 1, 3) := by decide +kernel
theorem dX5_parts_278 : decode cX5_parts 278 = .ok (.goto (-58), 3) := by decide +kernel
theorem dX5_parts_281 : decode cX5_parts 281 = .ok (.iload_n 3, 1) := by decide +kernel
theorem dX5_parts_282 : decode cX5_parts 282 = .ok (.ireturn, 1) := by decide +kernel
theorem dX5_shared_0 : decode cX5_shared 0 = .ok (.iconst 0, 1) := by decide +kernel
theorem dX5_shared_1 : decode cX5_shared 1 = .ok (.istore_n 3, 1) := by decide +kernel
theorem dX5_shared_2 : decode cX5_shared 2 = .ok (.iconst 0, 1) := by decide +kernel
theorem dX5_shared_3 : decode cX5_shared 3 = .ok (.istore 4, 2) := by decide +kernel
theorem dX5_shared_5 : decode cX5_shared 5 = .ok (.iload 4, 2) := by decide +kernel
theorem dX5_shared_7 : decode cX5_shared 7 = .ok (.bipush 24, 2) := by decide +kernel
theorem dX5_shared_9 : decode cX5_shared 9 = .ok (.if_icmp .ge 57, 3) := by decide +kernel
theorem dX5_shared_12 : decode cX5_shared 12 = .ok (.iconst 0, 1) := by decide +kernel
theorem dX5_shared_13 : decode cX5_shared 13 = .ok (.istore 5, 2) := by decide +kernel
theorem dX5_shared_15 : decode cX5_shared 15 = .ok (.iload 5, 2) := by decide +kernel
theorem dX5_shared_17 : decode cX5_shared 17 = .ok (.bipush 24, 2) := by decide +kernel
theorem dX5_shared_19 : decode cX5_shared 19 = .ok (.if_icmp .ge 41, 3) := by decide +kernel
theorem dX5_shared_22 : decode cX5_shared 22 = .ok (.iload_n 3, 1) := by decide +kernel
theorem dX5_shared_23 : decode cX5_shared 23 = .ok (.aload_n 0, 1) := by decide +kernel
theorem dX5_shared_24 : decode cX5_shared 24 = .ok (.iload_n 1, 1) := by decide +kernel
theorem dX5_shared_25 : decode cX5_shared 25 = .ok (.iload 4, 2) := by decide +kernel
theorem dX5_shared_27 : decode cX5_shared 27 = .ok (.iload 5, 2) := by decide +kernel
theorem dX5_shared_29 : decode cX5_shared 29 = .ok (.invokevirtual 22, 3) := by decide +kernel
theorem dX5_shared_32 : decode cX5_shared 32 = .ok (.ifCond .eq 19, 3) := by decide +kernel
theorem dX5_shared_35 : decode cX5_shared 35 = .ok (.aload_n 0, 1) := by decide +kernel
theorem dX5_shared_36 : decode cX5_shared 36 = .ok (.iload_n 2, 1) := by decide +kernel
theorem dX5_shared_37 : decode cX5_shared 37 = .ok (.iload 4, 2) := by decide +kernel
theorem dX5_shared_39 : decode cX5_shared 39 = .ok (.iload 5, 2) := by decide +kernel
theorem dX5_shared_41 : decode cX5_shared 41 = .ok (.invokevirtual 22, 3) := by decide +kernel
theorem dX5_shared_44 : decode cX5_shared 44 = .ok (.ifCond .eq 7, 3) := by decide +kernel
theorem dX5_shared_47 : decode cX5_shared 47 = .ok (.iconst 1, 1) := by decide +kernel
theorem dX5_shared_48 : decode cX5_shared 48 = .ok (.goto 4, 3) := by decide +kernel
theorem dX5_shared_51 : decode cX5_shared 51 = .ok (.iconst 0, 1) := by decide +kernel
theorem dX5_shared_52 : decode cX5_shared 52 = .ok (.iadd, 1) := by decide +kernel
theorem dX5_shared_53 : decode cX5_shared 53 = .ok (.istore_n 3, 1) := by decide +kernel
theorem dX5_shared_54 : decode cX5_shared 54 = .ok (.iinc 5 1, 3) := by decide +kernel
theorem dX5_shared_57 : decode cX5_shared 57 = .ok (.goto (-42), 3) := by decide +kernel
theorem dX5_shared_60 : decode cX5_shared 60 = .ok (.iinc 4 1, 3) := by decide +kernel
theorem dX5_shared_63 : decode cX5_shared 63 = .ok (.goto (-58), 3) := by decide +kernel
theorem dX5_shared_66 : decode cX5_shared 66 = .ok (.iload_n 3, 1) := by decide +kernel
theorem dX5_shared_67 : decode cX5_shared 67 = .ok (.ireturn, 1) := by decide +kernel
theorem dX5_isSame_0 : decode cX5_isSame 0 = .ok (.bipush 11, 2) := by decide +kernel
theorem dX5_isSame_2 : decode cX5_isSame 2 = .ok (.newarray .int, 2) := by decide +kernel
theorem dX5_isSame_4 : decode cX5_isSame 4 = .ok (.dup, 1) := by decide +kernel
theorem dX5_isSame_5 : decode cX5_isSame 5 = .ok (.iconst 0, 1) := by decide +kernel
theorem dX5_isSame_6 : decode cX5_isSame 6 = .ok (.aload_n 0, 1) := by decide +kernel
theorem dX5_isSame_7 : decode cX5_isSame 7 = .ok (.getfield 9, 3) := by decide +kernel
theorem dX5_isSame_10 : decode cX5_isSame 10 = .ok (.arraylength, 1) := by decide +kernel
theorem dX5_isSame_11 : decode cX5_isSame 11 = .ok (.iastore, 1) := by decide +kernel
theorem dX5_isSame_12 : decode cX5_isSame 12 = .ok (.dup, 1) := by decide +kernel
theorem dX5_isSame_13 : decode cX5_isSame 13 = .ok (.iconst 1, 1) := by decide +kernel
theorem dX5_isSame_14 : decode cX5_isSame 14 = .ok (.iconst 0, 1) := by decide +kernel
theorem dX5_isSame_15 : decode cX5_isSame 15 = .ok (.iastore, 1) := by decide +kernel
theorem dX5_isSame_16 : decode cX5_isSame 16 = .ok (.dup, 1) := by decide +kernel
theorem dX5_isSame_17 : decode cX5_isSame 17 = .ok (.iconst 2, 1) := by decide +kernel
theorem dX5_isSame_18 : decode cX5_isSame 18 = .ok (.aload_n 0, 1) := by decide +kernel
theorem dX5_isSame_19 : decode cX5_isSame 19 = .ok (.getfield 15, 3) := by decide +kernel
theorem dX5_isSame_22 : decode cX5_isSame 22 = .ok (.arraylength, 1) := by decide +kernel
theorem dX5_isSame_23 : decode cX5_isSame 23 = .ok (.iastore, 1) := by decide +kernel
theorem dX5_isSame_24 : decode cX5_isSame 24 = .ok (.dup, 1) := by decide +kernel
theorem dX5_isSame_25 : decode cX5_isSame 25 = .ok (.iconst 3, 1) := by decide +kernel
theorem dX5_isSame_26 : decode cX5_isSame 26 = .ok (.aload_n 0, 1) := by decide +kernel
theorem dX5_isSame_27 : decode cX5_isSame 27 = .ok (.invokevirtual 54, 3) := by decide +kernel
theorem dX5_isSame_30 : decode cX5_isSame 30 = .ok (.iastore, 1) := by decide +kernel
theorem dX5_isSame_31 : decode cX5_isSame 31 = .ok (.dup, 1) := by decide +kernel
theorem dX5_isSame_32 : decode cX5_isSame 32 = .ok (.iconst 4, 1) := by decide +kernel
theorem dX5_isSame_33 : decode cX5_isSame 33 = .ok (.aload_n 0, 1) := by decide +kernel
theorem dX5_isSame_34 : decode cX5_isSame 34 = .ok (.invokevirtual 58, 3) := by decide +kernel
theorem dX5_isSame_37 : decode cX5_isSame 37 = .ok (.iastore, 1) := by decide +kernel
theorem dX5_isSame_38 : decode cX5_isSame 38 = .ok (.dup, 1) := by decide +kernel
theorem dX5_isSame_39 : decode cX5_isSame 39 = .ok (.iconst 5, 1) := by decide +kernel
theorem dX5_isSame_40 : decode cX5_isSame 40 = .ok (.aload_n 0, 1) := by decide +kernel
theorem dX5_isSame_41 : decode cX5_isSame 41 = .ok (.invokevirtual 61, 3) := by decide +kernel
theorem dX5_isSame_44 : decode cX5_isSame 44 = .ok (.iastore, 1) := by decide +kernel
theorem dX5_isSame_45 : decode cX5_isSame 45 = .ok (.dup, 1) := by decide +kernel
theorem dX5_isSame_46 : decode cX5_isSame 46 = .ok (.bipush 6, 2) := by decide +kernel
theorem dX5_isSame_48 : decode cX5_isSame 48 = .ok (.iconst 0, 1) := by decide +kernel
theorem dX5_isSame_49 : decode cX5_isSame 49 = .ok (.iastore, 1) := by decide +kernel
theorem dX5_isSame_50 : decode cX5_isSame 50 = .ok (.dup, 1) := by decide +kernel
theorem dX5_isSame_51 : decode cX5_isSame 51 = .ok (.bipush 7, 2) := by decide +kernel
theorem dX5_isSame_53 : decode cX5_isSame 53 = .ok (.aload_n 0, 1) := by decide +kernel
theorem dX5_isSame_54 : decode cX5_isSame 54 = .ok (.getfield 42, 3) := by decide +kernel
theorem dX5_isSame_57 : decode cX5_isSame 57 = .ok (.iastore, 1) := by decide +kernel
theorem dX5_isSame_58 : decode cX5_isSame 58 = .ok (.dup, 1) := by decide +kernel
theorem dX5_isSame_59 : decode cX5_isSame 59 = .ok (.bipush 8, 2) := by decide +kernel
theorem dX5_isSame_61 : decode cX5_isSame 61 = .ok (.iconst 0, 1) := by decide +kernel
theorem dX5_isSame_62 : decode cX5_isSame 62 = .ok (.iastore, 1) := by decide +kernel
theorem dX5_isSame_63 : decode cX5_isSame 63 = .ok (.dup, 1) := by decide +kernel
theorem dX5_isSame_64 : decode cX5_isSame 64 = .ok (.bipush 9, 2) := by decide +kernel
theorem dX5_isSame_66 : decode cX5_isSame 66 = .ok (.aload_n 0, 1) := by decide +kernel
theorem dX5_isSame_67 : decode cX5_isSame 67 = .ok (.getfield 38, 3) := by decide +kernel
theorem dX5_isSame_70 : decode cX5_isSame 70 = .ok (.iastore, 1) := by decide +kernel
theorem dX5_isSame_71 : decode cX5_isSame 71 = .ok (.dup, 1) := by decide +kernel
theorem dX5_isSame_72 : decode cX5_isSame 72 = .ok (.bipush 10, 2) := by decide +kernel
theorem dX5_isSame_74 : decode cX5_isSame 74 = .ok (.iconst 0, 1) := by decide +kernel
theorem dX5_isSame_75 : decode cX5_isSame 75 = .ok (.iastore, 1) := by decide +kernel
theorem dX5_isSame_76 : decode cX5_isSame 76 = .ok (.astore_n 2, 1) := by decide +kernel
theorem dX5_isSame_77 : decode cX5_isSame 77 = .ok (.iconst 0, 1) := by decide +kernel
theorem dX5_isSame_78 : decode cX5_isSame 78 = .ok (.istore_n 3, 1) := by decide +kernel
theorem dX5_isSame_79 : decode cX5_isSame 79 = .ok (.iload_n 3, 1) := by decide +kernel
theorem dX5_isSame_80 : decode cX5_isSame 80 = .ok (.bipush 24, 2) := by decide +kernel
theorem dX5_isSame_82 : decode cX5_isSame 82 = .ok (.if_icmp .ge 248, 3) := by decide +kernel
theorem dX5_isSame_85 : decode cX5_isSame 85 = .ok (.iconst 0, 1) := by decide +kernel
theorem dX5_isSame_86 : decode cX5_isSame 86 = .ok (.istore 4, 2) := by decide +kernel
theorem dX5_isSame_88 : decode cX5_isSame 88 = .ok (.iconst 0, 1) := by decide +kernel
theorem dX5_isSame_89 : decode cX5_isSame 89 = .ok (.istore 5, 2) := by decide +kernel
theorem dX5_isSame_91 : decode cX5_isSame 91 = .ok (.iconst 0, 1) := by decide +kernel
theorem dX5_isSame_92 : decode cX5_isSame 92 = .ok (.istore 6, 2) := by decide +kernel
theorem dX5_isSame_94 : decode cX5_isSame 94 = .ok (.iconst 0, 1) := by decide +kernel
theorem dX5_isSame_95 : decode cX5_isSame 95 = .ok (.istore 7, 2) := by decide +kernel
theorem dX5_isSame_97 : decode cX5_isSame 97 = .ok (.iconst 0, 1) := by decide +kernel
theorem dX5_isSame_98 : decode cX5_isSame 98 = .ok (.istore 8, 2) := by decide +kernel
theorem dX5_isSame_100 : decode cX5_isSame 100 = .ok (.iconst 0, 1) := by decide +kernel
theorem dX5_isSame_101 : decode cX5_isSame 101 = .ok (.istore 9, 2) := by decide +kernel
theorem dX5_isSame_103 : decode cX5_isSame 103 = .ok (.iload 9, 2) := by decide +kernel
theorem dX5_isSame_105 : decode cX5_isSame 105 = .ok (.bipush 24, 2) := by decide +kernel
theorem dX5_isSame_107 : decode cX5_isSame 107 = .ok (.if_icmp .ge 171, 3) := by decide +kernel
theorem dX5_isSame_110 : decode cX5_isSame 110 = .ok (.aload_n 0, 1) := by decide +kernel
theorem dX5_isSame_111 : decode cX5_isSame 111 = .ok (.iload_n 3, 1) := by decide +kernel
theorem dX5_isSame_112 : decode cX5_isSame 112 = .ok (.iload 9, 2) := by decide +kernel
theorem dX5_isSame_114 : decode cX5_isSame 114 = .ok (.invokevirtual 26, 3) := by decide +kernel
theorem dX5_isSame_117 : decode cX5_isSame 117 = .ok (.istore 10, 2) := by decide +kernel
theorem dX5_isSame_119 : decode cX5_isSame 119 = .ok (.aload_n 2, 1) := by decide +kernel
theorem dX5_isSame_120 : decode cX5_isSame 120 = .ok (.bipush 6, 2) := by decide +kernel
theorem dX5_isSame_122 : decode cX5_isSame 122 = .ok (.dup2, 1) := by decide +kernel
theorem dX5_isSame_123 : decode cX5_isSame 123 = .ok (.iaload, 1) := by decide +kernel
theorem dX5_isSame_124 : decode cX5_isSame 124 = .ok (.iload 10, 2) := by decide +kernel
theorem dX5_isSame_126 : decode cX5_isSame 126 = .ok (.iconst 1, 1) := by decide +kernel
theorem dX5_isSame_127 : decode cX5_isSame 127 = .ok (.if_icmp .le 7, 3) := by decide +kernel
theorem dX5_isSame_130 : decode cX5_isSame 130 = .ok (.iconst 1, 1) := by decide +kernel
theorem dX5_isSame_131 : decode cX5_isSame 131 = .ok (.goto 4, 3) := by decide +kernel
theorem dX5_isSame_134 : decode cX5_isSame 134 = .ok (.iconst 0, 1) := by decide +kernel
theorem dX5_isSame_135 : decode cX5_isSame 135 = .ok (.iadd, 1) := by decide +kernel
theorem dX5_isSame_136 : decode cX5_isSame 136 = .ok (.iastore, 1) := by decide +kernel
theorem dX5_isSame_137 : decode cX5_isSame 137 = .ok (.aload_n 2, 1) := by decide +kernel
theorem dX5_isSame_138 : decode cX5_isSame 138 = .ok (.bipush 8, 2) := by decide +kernel
theorem dX5_isSame_140 : decode cX5_isSame 140 = .ok (.dup2, 1) := by decide +kernel
theorem dX5_isSame_141 : decode cX5_isSame 141 = .ok (.iaload, 1) := by decide +kernel
theorem dX5_isSame_142 : decode cX5_isSame 142 = .ok (.aload_n 0, 1) := by decide +kernel
theorem dX5_isSame_143 : decode cX5_isSame 143 = .ok (.getfield 19, 3) := by decide +kernel
theorem dX5_isSame_146 : decode cX5_isSame 146 = .ok (.iload_n 3, 1) := by decide +kernel
theorem dX5_isSame_147 : decode cX5_isSame 147 = .ok (.aaload, 1) := by decide +kernel
theorem dX5_isSame_148 : decode cX5_isSame 148 = .ok (.iload 9, 2) := by decide +kernel
theorem dX5_isSame_150 : decode cX5_isSame 150 = .ok (.iaload, 1) := by decide +kernel
theorem dX5_isSame_151 : decode cX5_isSame 151 = .ok (.iadd, 1) := by decide +kernel
theorem dX5_isSame_152 : decode cX5_isSame 152 = .ok (.iastore, 1) := by decide +kernel
theorem dX5_isSame_153 : decode cX5_isSame 153 = .ok (.aload_n 1, 1) := by decide +kernel
theorem dX5_isSame_154 : decode cX5_isSame 154 = .ok (.iload_n 3, 1) := by decide +kernel
theorem dX5_isSame_155 : decode cX5_isSame 155 = .ok (.iload 9, 2) := by decide +kernel
theorem dX5_isSame_157 : decode cX5_isSame 157 = .ok (.iconst 0, 1) := by decide +kernel
theorem dX5_isSame_158 : decode cX5_isSame 158 = .ok (.invokevirtual 64, 3) := by decide +kernel
theorem dX5_isSame_161 : decode cX5_isSame 161 = .ok (.iload 10, 2) := by decide +kernel
theorem dX5_isSame_163 : decode cX5_isSame 163 = .ok (.if_icmp .ne 43, 3) := by decide +kernel
theorem dX5_isSame_166 : decode cX5_isSame 166 = .ok (.aload_n 1, 1) := by decide +kernel
theorem dX5_isSame_167 : decode cX5_isSame 167 = .ok (.iload_n 3, 1) := by decide +kernel
theorem dX5_isSame_168 : decode cX5_isSame 168 = .ok (.iload 9, 2) := by decide +kernel
theorem dX5_isSame_170 : decode cX5_isSame 170 = .ok (.iconst 1, 1) := by decide +kernel
theorem dX5_isSame_171 : decode cX5_isSame 171 = .ok (.invokevirtual 64, 3) := by decide +kernel
theorem dX5_isSame_174 : decode cX5_isSame 174 = .ok (.aload_n 0, 1) := by decide +kernel
theorem dX5_isSame_175 : decode cX5_isSame 175 = .ok (.iload_n 3, 1) := by decide +kernel
theorem dX5_isSame_176 : decode cX5_isSame 176 = .ok (.iload 9, 2) := by decide +kernel
theorem dX5_isSame_178 : decode cX5_isSame 178 = .ok (.bipush 10, 2) := by decide +kernel
theorem dX5_isSame_180 : decode cX5_isSame 180 = .ok (.invokevirtual 30, 3) := by decide +kernel
theorem dX5_isSame_183 : decode cX5_isSame 183 = .ok (.if_icmp .ne 23, 3) := by decide +kernel
theorem dX5_isSame_186 : decode cX5_isSame 186 = .ok (.aload_n 1, 1) := by decide +kernel
theorem dX5_isSame_187 : decode cX5_isSame 187 = .ok (.iload_n 3, 1) := by decide +kernel
theorem dX5_isSame_188 : decode cX5_isSame 188 = .ok (.iload 9, 2) := by decide +kernel
theorem dX5_isSame_190 : decode cX5_isSame 190 = .ok (.iconst 2, 1) := by decide +kernel
theorem dX5_isSame_191 : decode cX5_isSame 191 = .ok (.invokevirtual 64, 3) := by decide +kernel
theorem dX5_isSame_194 : decode cX5_isSame 194 = .ok (.aload_n 0, 1) := by decide +kernel
theorem dX5_isSame_195 : decode cX5_isSame 195 = .ok (.getfield 19, 3) := by decide +kernel
theorem dX5_isSame_198 : decode cX5_isSame 198 = .ok (.iload_n 3, 1) := by decide +kernel
theorem dX5_isSame_199 : decode cX5_isSame 199 = .ok (.aaload, 1) := by decide +kernel
theorem dX5_isSame_200 : decode cX5_isSame 200 = .ok (.iload 9, 2) := by decide +kernel
theorem dX5_isSame_202 : decode cX5_isSame 202 = .ok (.iaload, 1) := by decide +kernel
theorem dX5_isSame_203 : decode cX5_isSame 203 = .ok (.if_icmp .eq 5, 3) := by decide +kernel
theorem dX5_isSame_206 : decode cX5_isSame 206 = .ok (.iconst 0, 1) := by decide +kernel
theorem dX5_isSame_207 : decode cX5_isSame 207 = .ok (.ireturn, 1) := by decide +kernel
theorem dX5_isSame_208 : decode cX5_isSame 208 = .ok (.iload 10, 2) := by decide +kernel
theorem dX5_isSame_210 : decode cX5_isSame 210 = .ok (.ifCond .le 10, 3) := by decide +kernel
theorem dX5_isSame_213 : decode cX5_isSame 213 = .ok (.iload 7, 2) := by decide +kernel
theorem dX5_isSame_215 : decode cX5_isSame 215 = .ok (.iconst 1, 1) := by decide +kernel
theorem dX5_isSame_216 : decode cX5_isSame 216 = .ok (.iadd, 1) := by decide +kernel
theorem dX5_isSame_217 : decode cX5_isSame 217 = .ok (.goto 4, 3) := by decide +kernel
theorem dX5_isSame_220 : decode cX5_isSame 220 = .ok (.iconst 0, 1) := by decide +kernel
theorem dX5_isSame_221 : decode cX5_isSame 221 = .ok (.istore 7, 2) := by decide +kernel
theorem dX5_isSame_223 : decode cX5_isSame 223 = .ok (.iload 4, 2) := by decide +kernel
theorem dX5_isSame_225 : decode cX5_isSame 225 = .ok (.iload 10, 2) := by decide +kernel
theorem dX5_isSame_227 : decode cX5_isSame 227 = .ok (.ifCond .le 7, 3) := by decide +kernel
theorem dX5_isSame_230 : decode cX5_isSame 230 = .ok (.iconst 1, 1) := by decide +kernel
theorem dX5_isSame_231 : decode cX5_isSame 231 = .ok (.goto 4, 3) := by decide +kernel
theorem dX5_isSame_234 : decode cX5_isSame 234 = .ok (.iconst 0, 1) := by decide +kernel
theorem dX5_isSame_235 : decode cX5_isSame 235 = .ok (.iadd, 1) := by decide +kernel
theorem dX5_isSame_236 : decode cX5_isSame 236 = .ok (.istore 4, 2) := by decide +kernel
theorem dX5_isSame_238 : decode cX5_isSame 238 = .ok (.iload 5, 2) := by decide +kernel
theorem dX5_isSame_240 : decode cX5_isSame 240 = .ok (.iload 7, 2) := by decide +kernel
theorem dX5_isSame_242 : decode cX5_isSame 242 = .ok (.iconst 1, 1) := by decide +kernel
theorem dX5_isSame_243 : decode cX5_isSame 243 = .ok (.if_icmp .ne 7, 3) := by decide +kernel
theorem dX5_isSame_246 : decode cX5_isSame 246 = .ok (.iconst 1, 1) := by decide +kernel
theorem dX5_isSame_247 : decode cX5_isSame 247 = .ok (.goto 4, 3) := by decide +kernel
theorem dX5_isSame_250 : decode cX5_isSame 250 = .ok (.iconst 0, 1) := by decide +kernel
theorem dX5_isSame_251 : decode cX5_isSame 251 = .ok (.iadd, 1) := by decide +kernel
theorem dX5_isSame_252 : decode cX5_isSame 252 = .ok (.istore 5, 2) := by decide +kernel
theorem dX5_isSame_254 : decode cX5_isSame 254 = .ok (.iload 6, 2) := by decide +kernel
theorem dX5_isSame_256 : decode cX5_isSame 256 = .ok (.iload 7, 2) := by decide +kernel
theorem dX5_isSame_258 : decode cX5_isSame 258 = .ok (.invokestatic 49, 3) := by decide +kernel
theorem dX5_isSame_261 : decode cX5_isSame 261 = .ok (.istore 6, 2) := by decide +kernel
theorem dX5_isSame_263 : decode cX5_isSame 263 = .ok (.iload 8, 2) := by decide +kernel
theorem dX5_isSame_265 : decode cX5_isSame 265 = .ok (.iload 10, 2) := by decide +kernel
theorem dX5_isSame_267 : decode cX5_isSame 267 = .ok (.invokestatic 49, 3) := by decide +kernel
theorem dX5_isSame_270 : decode cX5_isSame 270 = .ok (.istore 8, 2) := by decide +kernel
theorem dX5_isSame_272 : decode cX5_isSame 272 = .ok (.iinc 9 1, 3) := by decide +kernel
theorem dX5_isSame_275 : decode cX5_isSame 275 = .ok (.goto (-172), 3) := by decide +kernel
theorem dX5_isSame_278 : decode cX5_isSame 278 = .ok (.aload_n 1, 1) := by decide +kernel
theorem dX5_isSame_279 : decode cX5_isSame 279 = .ok (.iload_n 3, 1) := by decide +kernel
theorem dX5_isSame_280 : decode cX5_isSame 280 = .ok (.iconst 0, 1) := by decide +kernel
theorem dX5_isSame_281 : decode cX5_isSame 281 = .ok (.invokevirtual 69, 3) := by decide +kernel
theorem dX5_isSame_284 : decode cX5_isSame 284 = .ok (.iload 4, 2) := by decide +kernel
theorem dX5_isSame_286 : decode cX5_isSame 286 = .ok (.if_icmp .ne 36, 3) := by decide +kernel
theorem dX5_isSame_289 : decode cX5_isSame 289 = .ok (.aload_n 1, 1) := by decide +kernel
theorem dX5_isSame_290 : decode cX5_isSame 290 = .ok (.iload_n 3, 1) := by decide +kernel
theorem dX5_isSame_291 : decode cX5_isSame 291 = .ok (.iconst 1, 1) := by decide +kernel
theorem dX5_isSame_292 : decode cX5_isSame 292 = .ok (.invokevirtual 69, 3) := by decide +kernel
theorem dX5_isSame_295 : decode cX5_isSame 295 = .ok (.iload 5, 2) := by decide +kernel
theorem dX5_isSame_297 : decode cX5_isSame 297 = .ok (.if_icmp .ne 25, 3) := by decide +kernel
theorem dX5_isSame_300 : decode cX5_isSame 300 = .ok (.aload_n 1, 1) := by decide +kernel
theorem dX5_isSame_301 : decode cX5_isSame 301 = .ok (.iload_n 3, 1) := by decide +kernel
theorem dX5_isSame_302 : decode cX5_isSame 302 = .ok (.iconst 2, 1) := by decide +kernel
theorem dX5_isSame_303 : decode cX5_isSame 303 = .ok (.invokevirtual 69, 3) := by decide +kernel
theorem dX5_isSame_306 : decode cX5_isSame 306 = .ok (.iload 6, 2) := by decide +kernel
theorem dX5_isSame_308 : decode cX5_isSame 308 = .ok (.if_icmp .ne 14, 3) := by decide +kernel
theorem dX5_isSame_311 : decode cX5_isSame 311 = .ok (.aload_n 1, 1) := by decide +kernel
theorem dX5_isSame_312 : decode cX5_isSame 312 = .ok (.iload_n 3, 1) := by decide +kernel
theorem dX5_isSame_313 : decode cX5_isSame 313 = .ok (.iconst 3, 1) := by decide +kernel
theorem dX5_isSame_314 : decode cX5_isSame 314 = .ok (.invokevirtual 69, 3) := by decide +kernel
theorem dX5_isSame_317 : decode cX5_isSame 317 = .ok (.iload 8, 2) := by decide +kernel
theorem dX5_isSame_319 : decode cX5_isSame 319 = .ok (.if_icmp .eq 5, 3) := by decide +kernel
theorem dX5_isSame_322 : decode cX5_isSame 322 = .ok (.iconst 0, 1) := by decide +kernel
theorem dX5_isSame_323 : decode cX5_isSame 323 = .ok (.ireturn, 1) := by decide +kernel
theorem dX5_isSame_324 : decode cX5_isSame 324 = .ok (.iinc 3 1, 3) := by decide +kernel
theorem dX5_isSame_327 : decode cX5_isSame 327 = .ok (.goto (-248), 3) := by decide +kernel
theorem dX5_isSame_330 : decode cX5_isSame 330 = .ok (.iconst 0, 1) := by decide +kernel
theorem dX5_isSame_331 : decode cX5_isSame 331 = .ok (.istore_n 3, 1) := by decide +kernel
theorem dX5_isSame_332 : decode cX5_isSame 332 = .ok (.iload_n 3, 1) := by decide +kernel
theorem dX5_isSame_333 : decode cX5_isSame 333 = .ok (.aload_n 0, 1) := by decide +kernel
theorem dX5_isSame_334 : decode cX5_isSame 334 = .ok (.getfield 9, 3) := by decide +kernel
theorem dX5_isSame_337 : decode cX5_isSame 337 = .ok (.arraylength, 1) := by decide +kernel
theorem dX5_isSame_338 : decode cX5_isSame 338 = .ok (.if_icmp .ge 130, 3) := by decide +kernel
theorem dX5_isSame_341 : decode cX5_isSame 341 = .ok (.aload_n 2, 1) := by decide +kernel
theorem dX5_isSame_342 : decode cX5_isSame 342 = .ok (.iconst 1, 1) := by decide +kernel
theorem dX5_isSame_343 : decode cX5_isSame 343 = .ok (.dup2, 1) := by decide +kernel
theorem dX5_isSame_344 : decode cX5_isSame 344 = .ok (.iaload, 1) := by decide +kernel
theorem dX5_isSame_345 : decode cX5_isSame 345 = .ok (.aload_n 0, 1) := by decide +kernel
theorem dX5_isSame_346 : decode cX5_isSame 346 = .ok (.getfield 9, 3) := by decide +kernel
theorem dX5_isSame_349 : decode cX5_isSame 349 = .ok (.iload_n 3, 1) := by decide +kernel
theorem dX5_isSame_350 : decode cX5_isSame 350 = .ok (.aaload, 1) := by decide +kernel
theorem dX5_isSame_351 : decode cX5_isSame 351 = .ok (.bipush 6, 2) := by decide +kernel
theorem dX5_isSame_353 : decode cX5_isSame 353 = .ok (.iaload, 1) := by decide +kernel
theorem dX5_isSame_354 : decode cX5_isSame 354 = .ok (.iadd, 1) := by decide +kernel
theorem dX5_isSame_355 : decode cX5_isSame 355 = .ok (.iastore, 1) := by decide +kernel
theorem dX5_isSame_356 : decode cX5_isSame 356 = .ok (.iconst 0, 1) := by decide +kernel
theorem dX5_isSame_357 : decode cX5_isSame 357 = .ok (.istore 4, 2) := by decide +kernel
theorem dX5_isSame_359 : decode cX5_isSame 359 = .ok (.iload 4, 2) := by decide +kernel
theorem dX5_isSame_361 : decode cX5_isSame 361 = .ok (.bipush 7, 2) := by decide +kernel
theorem dX5_isSame_363 : decode cX5_isSame 363 = .ok (.if_icmp .ge 30, 3) := by decide +kernel
theorem dX5_isSame_366 : decode cX5_isSame 366 = .ok (.aload_n 1, 1) := by decide +kernel
theorem dX5_isSame_367 : decode cX5_isSame 367 = .ok (.iload_n 3, 1) := by decide +kernel
theorem dX5_isSame_368 : decode cX5_isSame 368 = .ok (.iload 4, 2) := by decide +kernel
theorem dX5_isSame_370 : decode cX5_isSame 370 = .ok (.invokevirtual 72, 3) := by decide +kernel
theorem dX5_isSame_373 : decode cX5_isSame 373 = .ok (.aload_n 0, 1) := by decide +kernel
theorem dX5_isSame_374 : decode cX5_isSame 374 = .ok (.getfield 9, 3) := by decide +kernel
theorem dX5_isSame_377 : decode cX5_isSame 377 = .ok (.iload_n 3, 1) := by decide +kernel
theorem dX5_isSame_378 : decode cX5_isSame 378 = .ok (.aaload, 1) := by decide +kernel
theorem dX5_isSame_379 : decode cX5_isSame 379 = .ok (.iload 4, 2) := by decide +kernel
theorem dX5_isSame_381 : decode cX5_isSame 381 = .ok (.iaload, 1) := by decide +kernel
theorem dX5_isSame_382 : decode cX5_isSame 382 = .ok (.if_icmp .eq 5, 3) := by decide +kernel
theorem dX5_isSame_385 : decode cX5_isSame 385 = .ok (.iconst 0, 1) := by decide +kernel
theorem dX5_isSame_386 : decode cX5_isSame 386 = .ok (.ireturn, 1) := by decide +kernel
theorem dX5_isSame_387 : decode cX5_isSame 387 = .ok (.iinc 4 1, 3) := by decide +kernel
theorem dX5_isSame_390 : decode cX5_isSame 390 = .ok (.goto (-31), 3) := by decide +kernel
theorem dX5_isSame_393 : decode cX5_isSame 393 = .ok (.aload_n 1, 1) := by decide +kernel
theorem dX5_isSame_394 : decode cX5_isSame 394 = .ok (.iload_n 3, 1) := by decide +kernel
theorem dX5_isSame_395 : decode cX5_isSame 395 = .ok (.bipush 7, 2) := by decide +kernel
theorem dX5_isSame_397 : decode cX5_isSame 397 = .ok (.invokevirtual 72, 3) := by decide +kernel
theorem dX5_isSame_400 : decode cX5_isSame 400 = .ok (.aload_n 0, 1) := by decide +kernel
theorem dX5_isSame_401 : decode cX5_isSame 401 = .ok (.iload_n 3, 1) := by decide +kernel
theorem dX5_isSame_402 : decode cX5_isSame 402 = .ok (.invokevirtual 75, 3) := by decide +kernel
theorem dX5_isSame_405 : decode cX5_isSame 405 = .ok (.if_icmp .ne 22, 3) := by decide +kernel
theorem dX5_isSame_408 : decode cX5_isSame 408 = .ok (.aload_n 1, 1) := by decide +kernel
theorem dX5_isSame_409 : decode cX5_isSame 409 = .ok (.iload_n 3, 1) := by decide +kernel
theorem dX5_isSame_410 : decode cX5_isSame 410 = .ok (.bipush 8, 2) := by decide +kernel
theorem dX5_isSame_412 : decode cX5_isSame 412 = .ok (.invokevirtual 72, 3) := by decide +kernel
theorem dX5_isSame_415 : decode cX5_isSame 415 = .ok (.aload_n 0, 1) := by decide +kernel
theorem dX5_isSame_416 : decode cX5_isSame 416 = .ok (.getfield 9, 3) := by decide +kernel
theorem dX5_isSame_419 : decode cX5_isSame 419 = .ok (.iload_n 3, 1) := by decide +kernel
theorem dX5_isSame_420 : decode cX5_isSame 420 = .ok (.aaload, 1) := by decide +kernel
theorem dX5_isSame_421 : decode cX5_isSame 421 = .ok (.bipush 7, 2) := by decide +kernel
theorem dX5_isSame_423 : decode cX5_isSame 423 = .ok (.iaload, 1) := by decide +kernel
theorem dX5_isSame_424 : decode cX5_isSame 424 = .ok (.if_icmp .eq 5, 3) := by decide +kernel
theorem dX5_isSame_427 : decode cX5_isSame 427 = .ok (.iconst 0, 1) := by decide +kernel
theorem dX5_isSame_428 : decode cX5_isSame 428 = .ok (.ireturn, 1) := by decide +kernel
theorem dX5_isSame_429 : decode cX5_isSame 429 = .ok (.iload_n 3, 1) := by decide +kernel
theorem dX5_isSame_430 : decode cX5_isSame 430 = .ok (.aload_n 0, 1) := by decide +kernel
theorem dX5_isSame_431 : decode cX5_isSame 431 = .ok (.getfield 42, 3) := by decide +kernel
theorem dX5_isSame_434 : decode cX5_isSame 434 = .ok (.iadd, 1) := by decide +kernel
theorem dX5_isSame_435 : decode cX5_isSame 435 = .ok (.aload_n 0, 1) := by decide +kernel
theorem dX5_isSame_436 : decode cX5_isSame 436 = .ok (.getfield 9, 3) := by decide +kernel
theorem dX5_isSame_439 : decode cX5_isSame 439 = .ok (.arraylength, 1) := by decide +kernel
theorem dX5_isSame_440 : decode cX5_isSame 440 = .ok (.irem, 1) := by decide +kernel
theorem dX5_isSame_441 : decode cX5_isSame 441 = .ok (.istore 4, 2) := by decide +kernel
theorem dX5_isSame_443 : decode cX5_isSame 443 = .ok (.aload_n 1, 1) := by decide +kernel
theorem dX5_isSame_444 : decode cX5_isSame 444 = .ok (.iload_n 3, 1) := by decide +kernel
theorem dX5_isSame_445 : decode cX5_isSame 445 = .ok (.iload 4, 2) := by decide +kernel
theorem dX5_isSame_447 : decode cX5_isSame 447 = .ok (.invokevirtual 79, 3) := by decide +kernel
theorem dX5_isSame_450 : decode cX5_isSame 450 = .ok (.aload_n 0, 1) := by decide +kernel
theorem dX5_isSame_451 : decode cX5_isSame 451 = .ok (.iload_n 3, 1) := by decide +kernel
theorem dX5_isSame_452 : decode cX5_isSame 452 = .ok (.iload 4, 2) := by decide +kernel
theorem dX5_isSame_454 : decode cX5_isSame 454 = .ok (.invokevirtual 82, 3) := by decide +kernel
theorem dX5_isSame_457 : decode cX5_isSame 457 = .ok (.if_icmp .eq 5, 3) := by decide +kernel
theorem dX5_isSame_460 : decode cX5_isSame 460 = .ok (.iconst 0, 1) := by decide +kernel
theorem dX5_isSame_461 : decode cX5_isSame 461 = .ok (.ireturn, 1) := by decide +kernel
theorem dX5_isSame_462 : decode cX5_isSame 462 = .ok (.iinc 3 1, 3) := by decide +kernel
theorem dX5_isSame_465 : decode cX5_isSame 465 = .ok (.goto (-133), 3) := by decide +kernel
theorem dX5_isSame_468 : decode cX5_isSame 468 = .ok (.iconst 0, 1) := by decide +kernel
theorem dX5_isSame_469 : decode cX5_isSame 469 = .ok (.istore_n 3, 1) := by decide +kernel
theorem dX5_isSame_470 : decode cX5_isSame 470 = .ok (.iconst 0, 1) := by decide +kernel
theorem dX5_isSame_471 : decode cX5_isSame 471 = .ok (.istore 4, 2) := by decide +kernel
theorem dX5_isSame_473 : decode cX5_isSame 473 = .ok (.iload 4, 2) := by decide +kernel
theorem dX5_isSame_475 : decode cX5_isSame 475 = .ok (.aload_n 0, 1) := by decide +kernel
theorem dX5_isSame_476 : decode cX5_isSame 476 = .ok (.getfield 15, 3) := by decide +kernel
theorem dX5_isSame_479 : decode cX5_isSame 479 = .ok (.arraylength, 1) := by decide +kernel
theorem dX5_isSame_480 : decode cX5_isSame 480 = .ok (.if_icmp .ge 118, 3) := by decide +kernel
theorem dX5_isSame_483 : decode cX5_isSame 483 = .ok (.aload_n 0, 1) := by decide +kernel
theorem dX5_isSame_484 : decode cX5_isSame 484 = .ok (.getfield 15, 3) := by decide +kernel
theorem dX5_isSame_487 : decode cX5_isSame 487 = .ok (.iload 4, 2) := by decide +kernel
theorem dX5_isSame_489 : decode cX5_isSame 489 = .ok (.aaload, 1) := by decide +kernel
end
section
theorem dX5_isSame_490 : decode cX5_isSame 490 = .ok (.astore 5, 2) := by decide +kernel
theorem dX5_isSame_492 : decode cX5_isSame 492 = .ok (.aload_n 2, 1) := by decide +kernel
theorem dX5_isSame_493 : decode cX5_isSame 493 = .ok (.bipush 10, 2) := by decide +kernel
theorem dX5_isSame_495 : decode cX5_isSame 495 = .ok (.dup2, 1) := by decide +kernel
theorem dX5_isSame_496 : decode cX5_isSame 496 = .ok (.iaload, 1) := by decide +kernel
theorem dX5_isSame_497 : decode cX5_isSame 497 = .ok (.aload_n 0, 1) := by decide +kernel
theorem dX5_isSame_498 : decode cX5_isSame 498 = .ok (.aload 5, 2) := by decide +kernel
theorem dX5_isSame_500 : decode cX5_isSame 500 = .ok (.iconst 0, 1) := by decide +kernel
theorem dX5_isSame_501 : decode cX5_isSame 501 = .ok (.iaload, 1) := by decide +kernel
theorem dX5_isSame_502 : decode cX5_isSame 502 = .ok (.aload 5, 2) := by decide +kernel
theorem dX5_isSame_504 : decode cX5_isSame 504 = .ok (.iconst 1, 1) := by decide +kernel
theorem dX5_isSame_505 : decode cX5_isSame 505 = .ok (.iaload, 1) := by decide +kernel
theorem dX5_isSame_506 : decode cX5_isSame 506 = .ok (.invokevirtual 45, 3) := by decide +kernel
theorem dX5_isSame_509 : decode cX5_isSame 509 = .ok (.ifCond .eq 7, 3) := by decide +kernel
theorem dX5_isSame_512 : decode cX5_isSame 512 = .ok (.iconst 0, 1) := by decide +kernel
theorem dX5_isSame_513 : decode cX5_isSame 513 = .ok (.goto 4, 3) := by decide +kernel
theorem dX5_isSame_516 : decode cX5_isSame 516 = .ok (.iconst 1, 1) := by decide +kernel
theorem dX5_isSame_517 : decode cX5_isSame 517 = .ok (.iadd, 1) := by decide +kernel
theorem dX5_isSame_518 : decode cX5_isSame 518 = .ok (.iastore, 1) := by decide +kernel
theorem dX5_isSame_519 : decode cX5_isSame 519 = .ok (.iload_n 3, 1) := by decide +kernel
theorem dX5_isSame_520 : decode cX5_isSame 520 = .ok (.aload 5, 2) := by decide +kernel
theorem dX5_isSame_522 : decode cX5_isSame 522 = .ok (.iconst 2, 1) := by decide +kernel
theorem dX5_isSame_523 : decode cX5_isSame 523 = .ok (.iaload, 1) := by decide +kernel
theorem dX5_isSame_524 : decode cX5_isSame 524 = .ok (.iadd, 1) := by decide +kernel
theorem dX5_isSame_525 : decode cX5_isSame 525 = .ok (.istore_n 3, 1) := by decide +kernel
theorem dX5_isSame_526 : decode cX5_isSame 526 = .ok (.aload_n 1, 1) := by decide +kernel
theorem dX5_isSame_527 : decode cX5_isSame 527 = .ok (.iload 4, 2) := by decide +kernel
theorem dX5_isSame_529 : decode cX5_isSame 529 = .ok (.iconst 0, 1) := by decide +kernel
theorem dX5_isSame_530 : decode cX5_isSame 530 = .ok (.invokevirtual 85, 3) := by decide +kernel
theorem dX5_isSame_533 : decode cX5_isSame 533 = .ok (.aload 5, 2) := by decide +kernel
theorem dX5_isSame_535 : decode cX5_isSame 535 = .ok (.iconst 0, 1) := by decide +kernel
theorem dX5_isSame_536 : decode cX5_isSame 536 = .ok (.iaload, 1) := by decide +kernel
theorem dX5_isSame_537 : decode cX5_isSame 537 = .ok (.if_icmp .ne 53, 3) := by decide +kernel
theorem dX5_isSame_540 : decode cX5_isSame 540 = .ok (.aload_n 1, 1) := by decide +kernel
theorem dX5_isSame_541 : decode cX5_isSame 541 = .ok (.iload 4, 2) := by decide +kernel
theorem dX5_isSame_543 : decode cX5_isSame 543 = .ok (.iconst 1, 1) := by decide +kernel
theorem dX5_isSame_544 : decode cX5_isSame 544 = .ok (.invokevirtual 85, 3) := by decide +kernel
theorem dX5_isSame_547 : decode cX5_isSame 547 = .ok (.aload 5, 2) := by decide +kernel
theorem dX5_isSame_549 : decode cX5_isSame 549 = .ok (.iconst 1, 1) := by decide +kernel
theorem dX5_isSame_550 : decode cX5_isSame 550 = .ok (.iaload, 1) := by decide +kernel
theorem dX5_isSame_551 : decode cX5_isSame 551 = .ok (.if_icmp .ne 39, 3) := by decide +kernel
theorem dX5_isSame_554 : decode cX5_isSame 554 = .ok (.aload_n 1, 1) := by decide +kernel
theorem dX5_isSame_555 : decode cX5_isSame 555 = .ok (.iload 4, 2) := by decide +kernel
theorem dX5_isSame_557 : decode cX5_isSame 557 = .ok (.iconst 2, 1) := by decide +kernel
theorem dX5_isSame_558 : decode cX5_isSame 558 = .ok (.invokevirtual 85, 3) := by decide +kernel
theorem dX5_isSame_561 : decode cX5_isSame 561 = .ok (.aload 5, 2) := by decide +kernel
theorem dX5_isSame_563 : decode cX5_isSame 563 = .ok (.iconst 2, 1) := by decide +kernel
theorem dX5_isSame_564 : decode cX5_isSame 564 = .ok (.iaload, 1) := by decide +kernel
theorem dX5_isSame_565 : decode cX5_isSame 565 = .ok (.if_icmp .ne 25, 3) := by decide +kernel
theorem dX5_isSame_568 : decode cX5_isSame 568 = .ok (.aload_n 1, 1) := by decide +kernel
theorem dX5_isSame_569 : decode cX5_isSame 569 = .ok (.iload 4, 2) := by decide +kernel
theorem dX5_isSame_571 : decode cX5_isSame 571 = .ok (.iconst 3, 1) := by decide +kernel
theorem dX5_isSame_572 : decode cX5_isSame 572 = .ok (.invokevirtual 85, 3) := by decide +kernel
theorem dX5_isSame_575 : decode cX5_isSame 575 = .ok (.aload_n 0, 1) := by decide +kernel
theorem dX5_isSame_576 : decode cX5_isSame 576 = .ok (.aload 5, 2) := by decide +kernel
theorem dX5_isSame_578 : decode cX5_isSame 578 = .ok (.iconst 0, 1) := by decide +kernel
theorem dX5_isSame_579 : decode cX5_isSame 579 = .ok (.iaload, 1) := by decide +kernel
theorem dX5_isSame_580 : decode cX5_isSame 580 = .ok (.aload 5, 2) := by decide +kernel
theorem dX5_isSame_582 : decode cX5_isSame 582 = .ok (.iconst 1, 1) := by decide +kernel
theorem dX5_isSame_583 : decode cX5_isSame 583 = .ok (.iaload, 1) := by decide +kernel
theorem dX5_isSame_584 : decode cX5_isSame 584 = .ok (.invokevirtual 26, 3) := by decide +kernel
theorem dX5_isSame_587 : decode cX5_isSame 587 = .ok (.if_icmp .eq 5, 3) := by decide +kernel
theorem dX5_isSame_590 : decode cX5_isSame 590 = .ok (.iconst 0, 1) := by decide +kernel
theorem dX5_isSame_591 : decode cX5_isSame 591 = .ok (.ireturn, 1) := by decide +kernel
theorem dX5_isSame_592 : decode cX5_isSame 592 = .ok (.iinc 4 1, 3) := by decide +kernel
theorem dX5_isSame_595 : decode cX5_isSame 595 = .ok (.goto (-122), 3) := by decide +kernel
theorem dX5_isSame_598 : decode cX5_isSame 598 = .ok (.iconst 0, 1) := by decide +kernel
theorem dX5_isSame_599 : decode cX5_isSame 599 = .ok (.istore 4, 2) := by decide +kernel
theorem dX5_isSame_601 : decode cX5_isSame 601 = .ok (.iload 4, 2) := by decide +kernel
theorem dX5_isSame_603 : decode cX5_isSame 603 = .ok (.bipush 11, 2) := by decide +kernel
theorem dX5_isSame_605 : decode cX5_isSame 605 = .ok (.if_icmp .ge 24, 3) := by decide +kernel
theorem dX5_isSame_608 : decode cX5_isSame 608 = .ok (.aload_n 1, 1) := by decide +kernel
theorem dX5_isSame_609 : decode cX5_isSame 609 = .ok (.iload 4, 2) := by decide +kernel
theorem dX5_isSame_611 : decode cX5_isSame 611 = .ok (.invokevirtual 88, 3) := by decide +kernel
theorem dX5_isSame_614 : decode cX5_isSame 614 = .ok (.aload_n 2, 1) := by decide +kernel
theorem dX5_isSame_615 : decode cX5_isSame 615 = .ok (.iload 4, 2) := by decide +kernel
theorem dX5_isSame_617 : decode cX5_isSame 617 = .ok (.iaload, 1) := by decide +kernel
theorem dX5_isSame_618 : decode cX5_isSame 618 = .ok (.if_icmp .eq 5, 3) := by decide +kernel
theorem dX5_isSame_621 : decode cX5_isSame 621 = .ok (.iconst 0, 1) := by decide +kernel
theorem dX5_isSame_622 : decode cX5_isSame 622 = .ok (.ireturn, 1) := by decide +kernel
theorem dX5_isSame_623 : decode cX5_isSame 623 = .ok (.iinc 4 1, 3) := by decide +kernel
theorem dX5_isSame_626 : decode cX5_isSame 626 = .ok (.goto (-25), 3) := by decide +kernel
theorem dX5_isSame_629 : decode cX5_isSame 629 = .ok (.aload_n 1, 1) := by decide +kernel
theorem dX5_isSame_630 : decode cX5_isSame 630 = .ok (.invokevirtual 91, 3) := by decide +kernel
theorem dX5_isSame_633 : decode cX5_isSame 633 = .ok (.aload_n 0, 1) := by decide +kernel
theorem dX5_isSame_634 : decode cX5_isSame 634 = .ok (.getfield 15, 3) := by decide +kernel
theorem dX5_isSame_637 : decode cX5_isSame 637 = .ok (.arraylength, 1) := by decide +kernel
theorem dX5_isSame_638 : decode cX5_isSame 638 = .ok (.ifCond .ne 7, 3) := by decide +kernel
theorem dX5_isSame_641 : decode cX5_isSame 641 = .ok (.dconst 0, 1) := by decide +kernel
theorem dX5_isSame_642 : decode cX5_isSame 642 = .ok (.goto 12, 3) := by decide +kernel
theorem dX5_isSame_645 : decode cX5_isSame 645 = .ok (.iload_n 3, 1) := by decide +kernel
theorem dX5_isSame_646 : decode cX5_isSame 646 = .ok (.i2d, 1) := by decide +kernel
theorem dX5_isSame_647 : decode cX5_isSame 647 = .ok (.aload_n 0, 1) := by decide +kernel
theorem dX5_isSame_648 : decode cX5_isSame 648 = .ok (.getfield 15, 3) := by decide +kernel
theorem dX5_isSame_651 : decode cX5_isSame 651 = .ok (.arraylength, 1) := by decide +kernel
theorem dX5_isSame_652 : decode cX5_isSame 652 = .ok (.i2d, 1) := by decide +kernel
theorem dX5_isSame_653 : decode cX5_isSame 653 = .ok (.ddiv, 1) := by decide +kernel
theorem dX5_isSame_654 : decode cX5_isSame 654 = .ok (.dcmp .l, 1) := by decide +kernel
theorem dX5_isSame_655 : decode cX5_isSame 655 = .ok (.ifCond .ne 7, 3) := by decide +kernel
theorem dX5_isSame_658 : decode cX5_isSame 658 = .ok (.iconst 1, 1) := by decide +kernel
theorem dX5_isSame_659 : decode cX5_isSame 659 = .ok (.goto 4, 3) := by decide +kernel
theorem dX5_isSame_662 : decode cX5_isSame 662 = .ok (.iconst 0, 1) := by decide +kernel
theorem dX5_isSame_663 : decode cX5_isSame 663 = .ok (.ireturn, 1) := by decide +kernel
theorem dJ9_max_7cf53_0 : decode cJ9_max_7cf53 0 = .ok (.iload_n 0, 1) := by decide +kernel
theorem dJ9_max_7cf53_1 : decode cJ9_max_7cf53 1 = .ok (.iload_n 1, 1) := by decide +kernel
theorem dJ9_max_7cf53_2 : decode cJ9_max_7cf53 2 = .ok (.if_icmp .lt 7, 3) := by decide +kernel
theorem dJ9_max_7cf53_5 : decode cJ9_max_7cf53 5 = .ok (.iload_n 0, 1) := by decide +kernel
theorem dJ9_max_7cf53_6 : decode cJ9_max_7cf53 6 = .ok (.goto 4, 3) := by decide +kernel
theorem dJ9_max_7cf53_9 : decode cJ9_max_7cf53 9 = .ok (.iload_n 1, 1) := by decide +kernel
theorem dJ9_max_7cf53_10 : decode cJ9_max_7cf53 10 = .ok (.ireturn, 1) := by decide +kernel
theorem dJ9_min_7cf53_0 : decode cJ9_min_7cf53 0 = .ok (.iload_n 0, 1) := by decide +kernel
theorem dJ9_min_7cf53_1 : decode cJ9_min_7cf53 1 = .ok (.iload_n 1, 1) := by decide +kernel
theorem dJ9_min_7cf53_2 : decode cJ9_min_7cf53 2 = .ok (.if_icmp .gt 7, 3) := by decide +kernel
theorem dJ9_min_7cf53_5 : decode cJ9_min_7cf53 5 = .ok (.iload_n 0, 1) := by decide +kernel
theorem dJ9_min_7cf53_6 : decode cJ9_min_7cf53 6 = .ok (.goto 4, 3) := by decide +kernel
theorem dJ9_min_7cf53_9 : decode cJ9_min_7cf53 9 = .ok (.iload_n 1, 1) := by decide +kernel
theorem dJ9_min_7cf53_10 : decode cJ9_min_7cf53 10 = .ok (.ireturn, 1) := by decide +kernel
theorem dJxa1e45_init_da8c8_0 : decode cJxa1e45_init_da8c8 0 = .ok (.aload_n 0, 1) := by decide +kernel
theorem dJxa1e45_init_da8c8_1 : decode cJxa1e45_init_da8c8 1 = .ok (.invokespecial 1, 3) := by decide +kernel
theorem dJxa1e45_init_da8c8_4 : decode cJxa1e45_init_da8c8 4 = .ok (.return_, 1) := by decide +kernel
theorem dJxc12de_init_da8c8_0 : decode cJxc12de_init_da8c8 0 = .ok (.aload_n 0, 1) := by decide +kernel
theorem dJxc12de_init_da8c8_1 : decode cJxc12de_init_da8c8 1 = .ok (.invokespecial 1, 3) := by decide +kernel
theorem dJxc12de_init_da8c8_4 : decode cJxc12de_init_da8c8 4 = .ok (.aload_n 0, 1) := by decide +kernel
theorem dJxc12de_init_da8c8_5 : decode cJxc12de_init_da8c8 5 = .ok (.iconst 0, 1) := by decide +kernel
theorem dJxc12de_init_da8c8_6 : decode cJxc12de_init_da8c8 6 = .ok (.putfield 7, 3) := by decide +kernel
theorem dJxc12de_init_da8c8_9 : decode cJxc12de_init_da8c8 9 = .ok (.return_, 1) := by decide +kernel
theorem dJx4a65c_init_da8c8_0 : decode cJx4a65c_init_da8c8 0 = .ok (.aload_n 0, 1) := by decide +kernel
theorem dJx4a65c_init_da8c8_1 : decode cJx4a65c_init_da8c8 1 = .ok (.invokespecial 1, 3) := by decide +kernel
theorem dJx4a65c_init_da8c8_4 : decode cJx4a65c_init_da8c8 4 = .ok (.aload_n 0, 1) := by decide +kernel
theorem dJx4a65c_init_da8c8_5 : decode cJx4a65c_init_da8c8 5 = .ok (.getstatic 39, 3) := by decide +kernel
theorem dJx4a65c_init_da8c8_8 : decode cJx4a65c_init_da8c8 8 = .ok (.putfield 9, 3) := by decide +kernel
theorem dJx4a65c_init_da8c8_11 : decode cJx4a65c_init_da8c8 11 = .ok (.return_, 1) := by decide +kernel
theorem dJx4a65c_grow_92f84_0 : decode cJx4a65c_grow_92f84 0 = .ok (.aload_n 0, 1) := by decide +kernel
theorem dJx4a65c_grow_92f84_1 : decode cJx4a65c_grow_92f84 1 = .ok (.getfield 9, 3) := by decide +kernel
theorem dJx4a65c_grow_92f84_4 : decode cJx4a65c_grow_92f84 4 = .ok (.arraylength, 1) := by decide +kernel
theorem dJx4a65c_grow_92f84_5 : decode cJx4a65c_grow_92f84 5 = .ok (.istore_n 2, 1) := by decide +kernel
theorem dJx4a65c_grow_92f84_6 : decode cJx4a65c_grow_92f84 6 = .ok (.iload_n 2, 1) := by decide +kernel
theorem dJx4a65c_grow_92f84_7 : decode cJx4a65c_grow_92f84 7 = .ok (.ifCond .gt 13, 3) := by decide +kernel
theorem dJx4a65c_grow_92f84_10 : decode cJx4a65c_grow_92f84 10 = .ok (.aload_n 0, 1) := by decide +kernel
theorem dJx4a65c_grow_92f84_11 : decode cJx4a65c_grow_92f84 11 = .ok (.getfield 9, 3) := by decide +kernel
theorem dJx4a65c_grow_92f84_14 : decode cJx4a65c_grow_92f84 14 = .ok (.getstatic 39, 3) := by decide +kernel
theorem dJx4a65c_grow_92f84_17 : decode cJx4a65c_grow_92f84 17 = .ok (.if_acmp .eq 28, 3) := by decide +kernel
theorem dJx4a65c_grow_92f84_20 : decode cJx4a65c_grow_92f84 20 = .ok (.iload_n 2, 1) := by decide +kernel
theorem dJx4a65c_grow_92f84_21 : decode cJx4a65c_grow_92f84 21 = .ok (.iload_n 1, 1) := by decide +kernel
theorem dJx4a65c_grow_92f84_22 : decode cJx4a65c_grow_92f84 22 = .ok (.iload_n 2, 1) := by decide +kernel
theorem dJx4a65c_grow_92f84_23 : decode cJx4a65c_grow_92f84 23 = .ok (.isub, 1) := by decide +kernel
theorem dJx4a65c_grow_92f84_24 : decode cJx4a65c_grow_92f84 24 = .ok (.iload_n 2, 1) := by decide +kernel
theorem dJx4a65c_grow_92f84_25 : decode cJx4a65c_grow_92f84 25 = .ok (.iconst 1, 1) := by decide +kernel
theorem dJx4a65c_grow_92f84_26 : decode cJx4a65c_grow_92f84 26 = .ok (.ishr, 1) := by decide +kernel
theorem dJx4a65c_grow_92f84_27 : decode cJx4a65c_grow_92f84 27 = .ok (.invokestatic 73, 3) := by decide +kernel
theorem dJx4a65c_grow_92f84_30 : decode cJx4a65c_grow_92f84 30 = .ok (.istore_n 3, 1) := by decide +kernel
theorem dJx4a65c_grow_92f84_31 : decode cJx4a65c_grow_92f84 31 = .ok (.aload_n 0, 1) := by decide +kernel
theorem dJx4a65c_grow_92f84_32 : decode cJx4a65c_grow_92f84 32 = .ok (.aload_n 0, 1) := by decide +kernel
theorem dJx4a65c_grow_92f84_33 : decode cJx4a65c_grow_92f84 33 = .ok (.getfield 9, 3) := by decide +kernel
theorem dJx4a65c_grow_92f84_36 : decode cJx4a65c_grow_92f84 36 = .ok (.iload_n 3, 1) := by decide +kernel
theorem dJx4a65c_grow_92f84_37 : decode cJx4a65c_grow_92f84 37 = .ok (.invokestatic 66, 3) := by decide +kernel
theorem dJx4a65c_grow_92f84_40 : decode cJx4a65c_grow_92f84 40 = .ok (.dup_x1, 1) := by decide +kernel
theorem dJx4a65c_grow_92f84_41 : decode cJx4a65c_grow_92f84 41 = .ok (.putfield 9, 3) := by decide +kernel
theorem dJx4a65c_grow_92f84_44 : decode cJx4a65c_grow_92f84 44 = .ok (.areturn, 1) := by decide +kernel
theorem dJx4a65c_grow_92f84_45 : decode cJx4a65c_grow_92f84 45 = .ok (.aload_n 0, 1) := by decide +kernel
theorem dJx4a65c_grow_92f84_46 : decode cJx4a65c_grow_92f84 46 = .ok (.bipush 10, 2) := by decide +kernel
theorem dJx4a65c_grow_92f84_48 : decode cJx4a65c_grow_92f84 48 = .ok (.iload_n 1, 1) := by decide +kernel
theorem dJx4a65c_grow_92f84_49 : decode cJx4a65c_grow_92f84 49 = .ok (.invokestatic 79, 3) := by decide +kernel
theorem dJx4a65c_grow_92f84_52 : decode cJx4a65c_grow_92f84 52 = .ok (.anewarray 7, 3) := by decide +kernel
theorem dJx4a65c_grow_92f84_55 : decode cJx4a65c_grow_92f84 55 = .ok (.dup_x1, 1) := by decide +kernel
theorem dJx4a65c_grow_92f84_56 : decode cJx4a65c_grow_92f84 56 = .ok (.putfield 9, 3) := by decide +kernel
theorem dJx4a65c_grow_92f84_59 : decode cJx4a65c_grow_92f84 59 = .ok (.areturn, 1) := by decide +kernel
theorem dJx4a65c_grow_d5877_0 : decode cJx4a65c_grow_d5877 0 = .ok (.aload_n 0, 1) := by decide +kernel
theorem dJx4a65c_grow_d5877_1 : decode cJx4a65c_grow_d5877 1 = .ok (.aload_n 0, 1) := by decide +kernel
theorem dJx4a65c_grow_d5877_2 : decode cJx4a65c_grow_d5877 2 = .ok (.getfield 48, 3) := by decide +kernel
theorem dJx4a65c_grow_d5877_5 : decode cJx4a65c_grow_d5877 5 = .ok (.iconst 1, 1) := by decide +kernel
theorem dJx4a65c_grow_d5877_6 : decode cJx4a65c_grow_d5877 6 = .ok (.iadd, 1) := by decide +kernel
theorem dJx4a65c_grow_d5877_7 : decode cJx4a65c_grow_d5877 7 = .ok (.invokevirtual 69, 3) := by decide +kernel
theorem dJx4a65c_grow_d5877_10 : decode cJx4a65c_grow_d5877 10 = .ok (.areturn, 1) := by decide +kernel
theorem dJx4a65c_size_8abf5_0 : decode cJx4a65c_size_8abf5 0 = .ok (.aload_n 0, 1) := by decide +kernel
theorem dJx4a65c_size_8abf5_1 : decode cJx4a65c_size_8abf5 1 = .ok (.getfield 48, 3) := by decide +kernel
theorem dJx4a65c_size_8abf5_4 : decode cJx4a65c_size_8abf5 4 = .ok (.ireturn, 1) := by decide +kernel
theorem dJx4a65c_elementData_915e3_0 : decode cJx4a65c_elementData_915e3 0 = .ok (.aload_n 0, 1) := by decide +kernel
theorem dJx4a65c_elementData_915e3_1 : decode cJx4a65c_elementData_915e3 1 = .ok (.getfield 9, 3) := by decide +kernel
theorem dJx4a65c_elementData_915e3_4 : decode cJx4a65c_elementData_915e3 4 = .ok (.iload_n 1, 1) := by decide +kernel
theorem dJx4a65c_elementData_915e3_5 : decode cJx4a65c_elementData_915e3 5 = .ok (.aaload, 1) := by decide +kernel
theorem dJx4a65c_elementData_915e3_6 : decode cJx4a65c_elementData_915e3 6 = .ok (.areturn, 1) := by decide +kernel
theorem dJx4a65c_get_915e3_0 : decode cJx4a65c_get_915e3 0 = .ok (.iload_n 1, 1) := by decide +kernel
theorem dJx4a65c_get_915e3_1 : decode cJx4a65c_get_915e3 1 = .ok (.aload_n 0, 1) := by decide +kernel
theorem dJx4a65c_get_915e3_2 : decode cJx4a65c_get_915e3 2 = .ok (.getfield 48, 3) := by decide +kernel
theorem dJx4a65c_get_915e3_5 : decode cJx4a65c_get_915e3 5 = .ok (.invokestatic 118, 3) := by decide +kernel
theorem dJx4a65c_get_915e3_8 : decode cJx4a65c_get_915e3 8 = .ok (.pop, 1) := by decide +kernel
theorem dJx4a65c_get_915e3_9 : decode cJx4a65c_get_915e3 9 = .ok (.aload_n 0, 1) := by decide +kernel
theorem dJx4a65c_get_915e3_10 : decode cJx4a65c_get_915e3 10 = .ok (.iload_n 1, 1) := by decide +kernel
theorem dJx4a65c_get_915e3_11 : decode cJx4a65c_get_915e3 11 = .ok (.invokevirtual 123, 3) := by decide +kernel
theorem dJx4a65c_get_915e3_14 : decode cJx4a65c_get_915e3 14 = .ok (.areturn, 1) := by decide +kernel
theorem dJx4a65c_add_72be8_0 : decode cJx4a65c_add_72be8 0 = .ok (.iload_n 3, 1) := by decide +kernel
theorem dJx4a65c_add_72be8_1 : decode cJx4a65c_add_72be8 1 = .ok (.aload_n 2, 1) := by decide +kernel
theorem dJx4a65c_add_72be8_2 : decode cJx4a65c_add_72be8 2 = .ok (.arraylength, 1) := by decide +kernel
theorem dJx4a65c_add_72be8_3 : decode cJx4a65c_add_72be8 3 = .ok (.if_icmp .ne 8, 3) := by decide +kernel
theorem dJx4a65c_add_72be8_6 : decode cJx4a65c_add_72be8 6 = .ok (.aload_n 0, 1) := by decide +kernel
theorem dJx4a65c_add_72be8_7 : decode cJx4a65c_add_72be8 7 = .ok (.invokevirtual 129, 3) := by decide +kernel
theorem dJx4a65c_add_72be8_10 : decode cJx4a65c_add_72be8 10 = .ok (.astore_n 2, 1) := by decide +kernel
theorem dJx4a65c_add_72be8_11 : decode cJx4a65c_add_72be8 11 = .ok (.aload_n 2, 1) := by decide +kernel
theorem dJx4a65c_add_72be8_12 : decode cJx4a65c_add_72be8 12 = .ok (.iload_n 3, 1) := by decide +kernel
theorem dJx4a65c_add_72be8_13 : decode cJx4a65c_add_72be8 13 = .ok (.aload_n 1, 1) := by decide +kernel
theorem dJx4a65c_add_72be8_14 : decode cJx4a65c_add_72be8 14 = .ok (.aastore, 1) := by decide +kernel
theorem dJx4a65c_add_72be8_15 : decode cJx4a65c_add_72be8 15 = .ok (.aload_n 0, 1) := by decide +kernel
theorem dJx4a65c_add_72be8_16 : decode cJx4a65c_add_72be8 16 = .ok (.iload_n 3, 1) := by decide +kernel
theorem dJx4a65c_add_72be8_17 : decode cJx4a65c_add_72be8 17 = .ok (.iconst 1, 1) := by decide +kernel
theorem dJx4a65c_add_72be8_18 : decode cJx4a65c_add_72be8 18 = .ok (.iadd, 1) := by decide +kernel
theorem dJx4a65c_add_72be8_19 : decode cJx4a65c_add_72be8 19 = .ok (.putfield 48, 3) := by decide +kernel
theorem dJx4a65c_add_72be8_22 : decode cJx4a65c_add_72be8 22 = .ok (.return_, 1) := by decide +kernel
theorem dJx4a65c_add_9ea2d_0 : decode cJx4a65c_add_9ea2d 0 = .ok (.aload_n 0, 1) := by decide +kernel
theorem dJx4a65c_add_9ea2d_1 : decode cJx4a65c_add_9ea2d 1 = .ok (.dup, 1) := by decide +kernel
theorem dJx4a65c_add_9ea2d_2 : decode cJx4a65c_add_9ea2d 2 = .ok (.getfield 63, 3) := by decide +kernel
theorem dJx4a65c_add_9ea2d_5 : decode cJx4a65c_add_9ea2d 5 = .ok (.iconst 1, 1) := by decide +kernel
theorem dJx4a65c_add_9ea2d_6 : decode cJx4a65c_add_9ea2d 6 = .ok (.iadd, 1) := by decide +kernel
theorem dJx4a65c_add_9ea2d_7 : decode cJx4a65c_add_9ea2d 7 = .ok (.putfield 63, 3) := by decide +kernel
theorem dJx4a65c_add_9ea2d_10 : decode cJx4a65c_add_9ea2d 10 = .ok (.aload_n 0, 1) := by decide +kernel
theorem dJx4a65c_add_9ea2d_11 : decode cJx4a65c_add_9ea2d 11 = .ok (.aload_n 1, 1) := by decide +kernel
theorem dJx4a65c_add_9ea2d_12 : decode cJx4a65c_add_9ea2d 12 = .ok (.aload_n 0, 1) := by decide +kernel
theorem dJx4a65c_add_9ea2d_13 : decode cJx4a65c_add_9ea2d 13 = .ok (.getfield 9, 3) := by decide +kernel
theorem dJx4a65c_add_9ea2d_16 : decode cJx4a65c_add_9ea2d 16 = .ok (.aload_n 0, 1) := by decide +kernel
theorem dJx4a65c_add_9ea2d_17 : decode cJx4a65c_add_9ea2d 17 = .ok (.getfield 48, 3) := by decide +kernel
theorem dJx4a65c_add_9ea2d_20 : decode cJx4a65c_add_9ea2d 20 = .ok (.invokevirtual 131, 3) := by decide +kernel
theorem dJx4a65c_add_9ea2d_23 : decode cJx4a65c_add_9ea2d 23 = .ok (.iconst 1, 1) := by decide +kernel
theorem dJx4a65c_add_9ea2d_24 : decode cJx4a65c_add_9ea2d 24 = .ok (.ireturn, 1) := by decide +kernel
theorem dJx4a65c_remove_915e3_0 : decode cJx4a65c_remove_915e3 0 = .ok (.iload_n 1, 1) := by decide +kernel
theorem dJx4a65c_remove_915e3_1 : decode cJx4a65c_remove_915e3 1 = .ok (.aload_n 0, 1) := by decide +kernel
theorem dJx4a65c_remove_915e3_2 : decode cJx4a65c_remove_915e3 2 = .ok (.getfield 48, 3) := by decide +kernel
theorem dJx4a65c_remove_915e3_5 : decode cJx4a65c_remove_915e3 5 = .ok (.invokestatic 118, 3) := by decide +kernel
theorem dJx4a65c_remove_915e3_8 : decode cJx4a65c_remove_915e3 8 = .ok (.pop, 1) := by decide +kernel
theorem dJx4a65c_remove_915e3_9 : decode cJx4a65c_remove_915e3 9 = .ok (.aload_n 0, 1) := by decide +kernel
theorem dJx4a65c_remove_915e3_10 : decode cJx4a65c_remove_915e3 10 = .ok (.getfield 9, 3) := by decide +kernel
theorem dJx4a65c_remove_915e3_13 : decode cJx4a65c_remove_915e3 13 = .ok (.astore_n 2, 1) := by decide +kernel
theorem dJx4a65c_remove_915e3_14 : decode cJx4a65c_remove_915e3 14 = .ok (.aload_n 2, 1) := by decide +kernel
theorem dJx4a65c_remove_915e3_15 : decode cJx4a65c_remove_915e3 15 = .ok (.iload_n 1, 1) := by decide +kernel
theorem dJx4a65c_remove_915e3_16 : decode cJx4a65c_remove_915e3 16 = .ok (.aaload, 1) := by decide +kernel
theorem dJx4a65c_remove_915e3_17 : decode cJx4a65c_remove_915e3 17 = .ok (.astore_n 3, 1) := by decide +kernel
theorem dJx4a65c_remove_915e3_18 : decode cJx4a65c_remove_915e3 18 = .ok (.aload_n 0, 1) := by decide +kernel
theorem dJx4a65c_remove_915e3_19 : decode cJx4a65c_remove_915e3 19 = .ok (.aload_n 2, 1) := by decide +kernel
theorem dJx4a65c_remove_915e3_20 : decode cJx4a65c_remove_915e3 20 = .ok (.iload_n 1, 1) := by decide +kernel
theorem dJx4a65c_remove_915e3_21 : decode cJx4a65c_remove_915e3 21 = .ok (.invokevirtual 144, 3) := by decide +kernel
theorem dJx4a65c_remove_915e3_24 : decode cJx4a65c_remove_915e3 24 = .ok (.aload_n 3, 1) := by decide +kernel
theorem dJx4a65c_remove_915e3_25 : decode cJx4a65c_remove_915e3 25 = .ok (.areturn, 1) := by decide +kernel
theorem dJx4a65c_fastRemove_b59b0_0 : decode cJx4a65c_fastRemove_b59b0 0 = .ok (.aload_n 0, 1) := by decide +kernel
theorem dJx4a65c_fastRemove_b59b0_1 : decode cJx4a65c_fastRemove_b59b0 1 = .ok (.dup, 1) := by decide +kernel
theorem dJx4a65c_fastRemove_b59b0_2 : decode cJx4a65c_fastRemove_b59b0 2 = .ok (.getfield 63, 3) := by decide +kernel
theorem dJx4a65c_fastRemove_b59b0_5 : decode cJx4a65c_fastRemove_b59b0 5 = .ok (.iconst 1, 1) := by decide +kernel
theorem dJx4a65c_fastRemove_b59b0_6 : decode cJx4a65c_fastRemove_b59b0 6 = .ok (.iadd, 1) := by decide +kernel
theorem dJx4a65c_fastRemove_b59b0_7 : decode cJx4a65c_fastRemove_b59b0 7 = .ok (.putfield 63, 3) := by decide +kernel
theorem dJx4a65c_fastRemove_b59b0_10 : decode cJx4a65c_fastRemove_b59b0 10 = .ok (.aload_n 0, 1) := by decide +kernel
theorem dJx4a65c_fastRemove_b59b0_11 : decode cJx4a65c_fastRemove_b59b0 11 = .ok (.getfield 48, 3) := by decide +kernel
theorem dJx4a65c_fastRemove_b59b0_14 : decode cJx4a65c_fastRemove_b59b0 14 = .ok (.iconst 1, 1) := by decide +kernel
theorem dJx4a65c_fastRemove_b59b0_15 : decode cJx4a65c_fastRemove_b59b0 15 = .ok (.isub, 1) := by decide +kernel
theorem dJx4a65c_fastRemove_b59b0_16 : decode cJx4a65c_fastRemove_b59b0 16 = .ok (.dup, 1) := by decide +kernel
theorem dJx4a65c_fastRemove_b59b0_17 : decode cJx4a65c_fastRemove_b59b0 17 = .ok (.istore_n 3, 1) := by decide +kernel
theorem dJx4a65c_fastRemove_b59b0_18 : decode cJx4a65c_fastRemove_b59b0 18 = .ok (.iload_n 2, 1) := by decide +kernel
theorem dJx4a65c_fastRemove_b59b0_19 : decode cJx4a65c_fastRemove_b59b0 19 = .ok (.if_icmp .le 15, 3) := by decide +kernel
theorem dJx4a65c_fastRemove_b59b0_22 : decode cJx4a65c_fastRemove_b59b0 22 = .ok (.aload_n 1, 1) := by decide +kernel
theorem dJx4a65c_fastRemove_b59b0_23 : decode cJx4a65c_fastRemove_b59b0 23 = .ok (.iload_n 2, 1) := by decide +kernel
theorem dJx4a65c_fastRemove_b59b0_24 : decode cJx4a65c_fastRemove_b59b0 24 = .ok (.iconst 1, 1) := by decide +kernel
theorem dJx4a65c_fastRemove_b59b0_25 : decode cJx4a65c_fastRemove_b59b0 25 = .ok (.iadd, 1) := by decide +kernel
theorem dJx4a65c_fastRemove_b59b0_26 : decode cJx4a65c_fastRemove_b59b0 26 = .ok (.aload_n 1, 1) := by decide +kernel
theorem dJx4a65c_fastRemove_b59b0_27 : decode cJx4a65c_fastRemove_b59b0 27 = .ok (.iload_n 2, 1) := by decide +kernel
theorem dJx4a65c_fastRemove_b59b0_28 : decode cJx4a65c_fastRemove_b59b0 28 = .ok (.iload_n 3, 1) := by decide +kernel
theorem dJx4a65c_fastRemove_b59b0_29 : decode cJx4a65c_fastRemove_b59b0 29 = .ok (.iload_n 2, 1) := by decide +kernel
theorem dJx4a65c_fastRemove_b59b0_30 : decode cJx4a65c_fastRemove_b59b0 30 = .ok (.isub, 1) := by decide +kernel
theorem dJx4a65c_fastRemove_b59b0_31 : decode cJx4a65c_fastRemove_b59b0 31 = .ok (.invokestatic 112, 3) := by decide +kernel
theorem dJx4a65c_fastRemove_b59b0_34 : decode cJx4a65c_fastRemove_b59b0 34 = .ok (.aload_n 1, 1) := by decide +kernel
theorem dJx4a65c_fastRemove_b59b0_35 : decode cJx4a65c_fastRemove_b59b0 35 = .ok (.aload_n 0, 1) := by decide +kernel
theorem dJx4a65c_fastRemove_b59b0_36 : decode cJx4a65c_fastRemove_b59b0 36 = .ok (.iload_n 3, 1) := by decide +kernel
theorem dJx4a65c_fastRemove_b59b0_37 : decode cJx4a65c_fastRemove_b59b0 37 = .ok (.dup_x1, 1) := by decide +kernel
theorem dJx4a65c_fastRemove_b59b0_38 : decode cJx4a65c_fastRemove_b59b0 38 = .ok (.putfield 48, 3) := by decide +kernel
theorem dJx4a65c_fastRemove_b59b0_41 : decode cJx4a65c_fastRemove_b59b0 41 = .ok (.aconst_null, 1) := by decide +kernel
theorem dJx4a65c_fastRemove_b59b0_42 : decode cJx4a65c_fastRemove_b59b0 42 = .ok (.aastore, 1) := by decide +kernel
theorem dJx4a65c_fastRemove_b59b0_43 : decode cJx4a65c_fastRemove_b59b0 43 = .ok (.return_, 1) := by decide +kernel
theorem dJ7_fill_53178_0 : decode cJ7_fill_53178 0 = .ok (.iconst 0, 1) := by decide +kernel
theorem dJ7_fill_53178_1 : decode cJ7_fill_53178 1 = .ok (.istore_n 2, 1) := by decide +kernel
theorem dJ7_fill_53178_2 : decode cJ7_fill_53178 2 = .ok (.aload_n 0, 1) := by decide +kernel
theorem dJ7_fill_53178_3 : decode cJ7_fill_53178 3 = .ok (.arraylength, 1) := by decide +kernel
theorem dJ7_fill_53178_4 : decode cJ7_fill_53178 4 = .ok (.istore_n 3, 1) := by decide +kernel
theorem dJ7_fill_53178_5 : decode cJ7_fill_53178 5 = .ok (.iload_n 2, 1) := by decide +kernel
theorem dJ7_fill_53178_6 : decode cJ7_fill_53178 6 = .ok (.iload_n 3, 1) := by decide +kernel
theorem dJ7_fill_53178_7 : decode cJ7_fill_53178 7 = .ok (.if_icmp .ge 13, 3) := by decide +kernel
theorem dJ7_fill_53178_10 : decode cJ7_fill_53178 10 = .ok (.aload_n 0, 1) := by decide +kernel
theorem dJ7_fill_53178_11 : decode cJ7_fill_53178 11 = .ok (.iload_n 2, 1) := by decide +kernel
theorem dJ7_fill_53178_12 : decode cJ7_fill_53178 12 = .ok (.iload_n 1, 1) := by decide +kernel
theorem dJ7_fill_53178_13 : decode cJ7_fill_53178 13 = .ok (.iastore, 1) := by decide +kernel
theorem dJ7_fill_53178_14 : decode cJ7_fill_53178 14 = .ok (.iinc 2 1, 3) := by decide +kernel
theorem dJ7_fill_53178_17 : decode cJ7_fill_53178 17 = .ok (.goto (-12), 3) := by decide +kernel
theorem dJ7_fill_53178_20 : decode cJ7_fill_53178 20 = .ok (.return_, 1) := by decide +kernel
theorem dJ7_copyOf_1904c_0 : decode cJ7_copyOf_1904c 0 = .ok (.aload_n 0, 1) := by decide +kernel
theorem dJ7_copyOf_1904c_1 : decode cJ7_copyOf_1904c 1 = .ok (.iload_n 1, 1) := by decide +kernel
theorem dJ7_copyOf_1904c_2 : decode cJ7_copyOf_1904c 2 = .ok (.aload_n 0, 1) := by decide +kernel
theorem dJ7_copyOf_1904c_3 : decode cJ7_copyOf_1904c 3 = .ok (.invokevirtual 86, 3) := by decide +kernel
theorem dJ7_copyOf_1904c_6 : decode cJ7_copyOf_1904c 6 = .ok (.invokestatic 300, 3) := by decide +kernel
theorem dJ7_copyOf_1904c_9 : decode cJ7_copyOf_1904c 9 = .ok (.areturn, 1) := by decide +kernel
theorem dJ7_copyOf_6403c_0 : decode cJ7_copyOf_6403c 0 = .ok (.aload_n 2, 1) := by decide +kernel
theorem dJ7_copyOf_6403c_1 : decode cJ7_copyOf_6403c 1 = .ok (.ldc 110, 2) := by decide +kernel
theorem dJ7_copyOf_6403c_3 : decode cJ7_copyOf_6403c 3 = .ok (.if_acmp .ne 10, 3) := by decide +kernel
theorem dJ7_copyOf_6403c_6 : decode cJ7_copyOf_6403c 6 = .ok (.iload_n 1, 1) := by decide +kernel
theorem dJ7_copyOf_6403c_7 : decode cJ7_copyOf_6403c 7 = .ok (.anewarray 2, 3) := by decide +kernel
theorem dJ7_copyOf_6403c_10 : decode cJ7_copyOf_6403c 10 = .ok (.goto 14, 3) := by decide +kernel
theorem dJ7_copyOf_6403c_13 : decode cJ7_copyOf_6403c 13 = .ok (.aload_n 2, 1) := by decide +kernel
theorem dJ7_copyOf_6403c_14 : decode cJ7_copyOf_6403c 14 = .ok (.invokevirtual 90, 3) := by decide +kernel
theorem dJ7_copyOf_6403c_17 : decode cJ7_copyOf_6403c 17 = .ok (.iload_n 1, 1) := by decide +kernel
theorem dJ7_copyOf_6403c_18 : decode cJ7_copyOf_6403c 18 = .ok (.invokestatic 95, 3) := by decide +kernel
theorem dJ7_copyOf_6403c_21 : decode cJ7_copyOf_6403c 21 = .ok (.checkcast 110, 3) := by decide +kernel
theorem dJ7_copyOf_6403c_24 : decode cJ7_copyOf_6403c 24 = .ok (.astore_n 3, 1) := by decide +kernel
theorem dJ7_copyOf_6403c_25 : decode cJ7_copyOf_6403c 25 = .ok (.aload_n 0, 1) := by decide +kernel
theorem dJ7_copyOf_6403c_26 : decode cJ7_copyOf_6403c 26 = .ok (.iconst 0, 1) := by decide +kernel
theorem dJ7_copyOf_6403c_27 : decode cJ7_copyOf_6403c 27 = .ok (.aload_n 3, 1) := by decide +kernel
theorem dJ7_copyOf_6403c_28 : decode cJ7_copyOf_6403c 28 = .ok (.iconst 0, 1) := by decide +kernel
theorem dJ7_copyOf_6403c_29 : decode cJ7_copyOf_6403c 29 = .ok (.aload_n 0, 1) := by decide +kernel
theorem dJ7_copyOf_6403c_30 : decode cJ7_copyOf_6403c 30 = .ok (.arraylength, 1) := by decide +kernel
theorem dJ7_copyOf_6403c_31 : decode cJ7_copyOf_6403c 31 = .ok (.iload_n 1, 1) := by decide +kernel
theorem dJ7_copyOf_6403c_32 : decode cJ7_copyOf_6403c 32 = .ok (.invokestatic 304, 3) := by decide +kernel
theorem dJ7_copyOf_6403c_35 : decode cJ7_copyOf_6403c 35 = .ok (.invokestatic 150, 3) := by decide +kernel
theorem dJ7_copyOf_6403c_38 : decode cJ7_copyOf_6403c 38 = .ok (.aload_n 3, 1) := by decide +kernel
theorem dJ7_copyOf_6403c_39 : decode cJ7_copyOf_6403c 39 = .ok (.areturn, 1) := by decide +kernel
theorem dJ15_checkIndex_7cf53_0 : decode cJ15_checkIndex_7cf53 0 = .ok (.iload_n 0, 1) := by decide +kernel
theorem dJ15_checkIndex_7cf53_1 : decode cJ15_checkIndex_7cf53 1 = .ok (.iload_n 1, 1) := by decide +kernel
theorem dJ15_checkIndex_7cf53_2 : decode cJ15_checkIndex_7cf53 2 = .ok (.aconst_null, 1) := by decide +kernel
theorem dJ15_checkIndex_7cf53_3 : decode cJ15_checkIndex_7cf53 3 = .ok (.invokestatic 105, 3) := by decide +kernel
theorem dJ15_checkIndex_7cf53_6 : decode cJ15_checkIndex_7cf53 6 = .ok (.ireturn, 1) := by decide +kernel
theorem dJ8_newLength_cabcc_0 : decode cJ8_newLength_cabcc 0 = .ok (.iload_n 0, 1) := by decide +kernel
theorem dJ8_newLength_cabcc_1 : decode cJ8_newLength_cabcc 1 = .ok (.iload_n 1, 1) := by decide +kernel
theorem dJ8_newLength_cabcc_2 : decode cJ8_newLength_cabcc 2 = .ok (.iload_n 2, 1) := by decide +kernel
theorem dJ8_newLength_cabcc_3 : decode cJ8_newLength_cabcc 3 = .ok (.invokestatic 194, 3) := by decide +kernel
theorem dJ8_newLength_cabcc_6 : decode cJ8_newLength_cabcc 6 = .ok (.iadd, 1) := by decide +kernel
theorem dJ8_newLength_cabcc_7 : decode cJ8_newLength_cabcc 7 = .ok (.istore_n 3, 1) := by decide +kernel
theorem dJ8_newLength_cabcc_8 : decode cJ8_newLength_cabcc 8 = .ok (.iconst 0, 1) := by decide +kernel
theorem dJ8_newLength_cabcc_9 : decode cJ8_newLength_cabcc 9 = .ok (.iload_n 3, 1) := by decide +kernel
theorem dJ8_newLength_cabcc_10 : decode cJ8_newLength_cabcc 10 = .ok (.if_icmp .ge 11, 3) := by decide +kernel
theorem dJ8_newLength_cabcc_13 : decode cJ8_newLength_cabcc 13 = .ok (.iload_n 3, 1) := by decide +kernel
theorem dJ8_newLength_cabcc_14 : decode cJ8_newLength_cabcc 14 = .ok (.ldc 200, 2) := by decide +kernel
theorem dJ8_newLength_cabcc_16 : decode cJ8_newLength_cabcc 16 = .ok (.if_icmp .gt 5, 3) := by decide +kernel
theorem dJ8_newLength_cabcc_19 : decode cJ8_newLength_cabcc 19 = .ok (.iload_n 3, 1) := by decide +kernel
theorem dJ8_newLength_cabcc_20 : decode cJ8_newLength_cabcc 20 = .ok (.ireturn, 1) := by decide +kernel
theorem dJ8_newLength_cabcc_21 : decode cJ8_newLength_cabcc 21 = .ok (.iload_n 0, 1) := by decide +kernel
theorem dJ8_newLength_cabcc_22 : decode cJ8_newLength_cabcc 22 = .ok (.iload_n 1, 1) := by decide +kernel
theorem dJ8_newLength_cabcc_23 : decode cJ8_newLength_cabcc 23 = .ok (.invokestatic 201, 3) := by decide +kernel
theorem dJ8_newLength_cabcc_26 : decode cJ8_newLength_cabcc 26 = .ok (.ireturn, 1) := by decide +kernel
theorem dJ8_hugeLength_7cf53_0 : decode cJ8_hugeLength_7cf53 0 = .ok (.iload_n 0, 1) := by decide +kernel
theorem dJ8_hugeLength_7cf53_1 : decode cJ8_hugeLength_7cf53 1 = .ok (.iload_n 1, 1) := by decide +kernel
theorem dJ8_hugeLength_7cf53_2 : decode cJ8_hugeLength_7cf53 2 = .ok (.iadd, 1) := by decide +kernel
theorem dJ8_hugeLength_7cf53_3 : decode cJ8_hugeLength_7cf53 3 = .ok (.istore_n 2, 1) := by decide +kernel
theorem dJ8_hugeLength_7cf53_4 : decode cJ8_hugeLength_7cf53 4 = .ok (.iload_n 2, 1) := by decide +kernel
theorem dJ8_hugeLength_7cf53_5 : decode cJ8_hugeLength_7cf53 5 = .ok (.ifCond .ge 44, 3) := by decide +kernel
theorem dJ8_hugeLength_7cf53_8 : decode cJ8_hugeLength_7cf53 8 = .ok (.new 204, 3) := by decide +kernel
theorem dJ8_hugeLength_7cf53_11 : decode cJ8_hugeLength_7cf53 11 = .ok (.dup, 1) := by decide +kernel
theorem dJ8_hugeLength_7cf53_12 : decode cJ8_hugeLength_7cf53 12 = .ok (.new 89, 3) := by decide +kernel
theorem dJ8_hugeLength_7cf53_15 : decode cJ8_hugeLength_7cf53 15 = .ok (.dup, 1) := by decide +kernel
theorem dJ8_hugeLength_7cf53_16 : decode cJ8_hugeLength_7cf53 16 = .ok (.invokespecial 91, 3) := by decide +kernel
theorem dJ8_hugeLength_7cf53_19 : decode cJ8_hugeLength_7cf53 19 = .ok (.ldc 206, 2) := by decide +kernel
theorem dJ8_hugeLength_7cf53_21 : decode cJ8_hugeLength_7cf53 21 = .ok (.invokevirtual 94, 3) := by decide +kernel
theorem dJ8_hugeLength_7cf53_24 : decode cJ8_hugeLength_7cf53 24 = .ok (.iload_n 0, 1) := by decide +kernel
theorem dJ8_hugeLength_7cf53_25 : decode cJ8_hugeLength_7cf53 25 = .ok (.invokevirtual 98, 3) := by decide +kernel
theorem dJ8_hugeLength_7cf53_28 : decode cJ8_hugeLength_7cf53 28 = .ok (.ldc 208, 2) := by decide +kernel
theorem dJ8_hugeLength_7cf53_30 : decode cJ8_hugeLength_7cf53 30 = .ok (.invokevirtual 94, 3) := by decide +kernel
theorem dJ8_hugeLength_7cf53_33 : decode cJ8_hugeLength_7cf53 33 = .ok (.iload_n 1, 1) := by decide +kernel
theorem dJ8_hugeLength_7cf53_34 : decode cJ8_hugeLength_7cf53 34 = .ok (.invokevirtual 98, 3) := by decide +kernel
theorem dJ8_hugeLength_7cf53_37 : decode cJ8_hugeLength_7cf53 37 = .ok (.ldc 210, 2) := by decide +kernel
theorem dJ8_hugeLength_7cf53_39 : decode cJ8_hugeLength_7cf53 39 = .ok (.invokevirtual 94, 3) := by decide +kernel
theorem dJ8_hugeLength_7cf53_42 : decode cJ8_hugeLength_7cf53 42 = .ok (.invokevirtual 101, 3) := by decide +kernel
theorem dJ8_hugeLength_7cf53_45 : decode cJ8_hugeLength_7cf53 45 = .ok (.invokespecial 212, 3) := by decide +kernel
theorem dJ8_hugeLength_7cf53_48 : decode cJ8_hugeLength_7cf53 48 = .ok (.athrow, 1) := by decide +kernel
theorem dJ8_hugeLength_7cf53_49 : decode cJ8_hugeLength_7cf53 49 = .ok (.iload_n 2, 1) := by decide +kernel
theorem dJ8_hugeLength_7cf53_50 : decode cJ8_hugeLength_7cf53 50 = .ok (.ldc 200, 2) := by decide +kernel
theorem dJ8_hugeLength_7cf53_52 : decode cJ8_hugeLength_7cf53 52 = .ok (.if_icmp .gt 6, 3) := by decide +kernel
theorem dJ8_hugeLength_7cf53_55 : decode cJ8_hugeLength_7cf53 55 = .ok (.ldc 200, 2) := by decide +kernel
theorem dJ8_hugeLength_7cf53_57 : decode cJ8_hugeLength_7cf53 57 = .ok (.ireturn, 1) := by decide +kernel
theorem dJ8_hugeLength_7cf53_58 : decode cJ8_hugeLength_7cf53 58 = .ok (.iload_n 2, 1) := by decide +kernel
theorem dJ8_hugeLength_7cf53_59 : decode cJ8_hugeLength_7cf53 59 = .ok (.ireturn, 1) := by decide +kernel
theorem dJ3_checkIndex_8e157_0 : decode cJ3_checkIndex_8e157 0 = .ok (.iload_n 0, 1) := by decide +kernel
theorem dJ3_checkIndex_8e157_1 : decode cJ3_checkIndex_8e157 1 = .ok (.ifCond .lt 8, 3) := by decide +kernel
theorem dJ3_checkIndex_8e157_4 : decode cJ3_checkIndex_8e157 4 = .ok (.iload_n 0, 1) := by decide +kernel
theorem dJ3_checkIndex_8e157_5 : decode cJ3_checkIndex_8e157 5 = .ok (.iload_n 1, 1) := by decide +kernel
theorem dJ3_checkIndex_8e157_6 : decode cJ3_checkIndex_8e157 6 = .ok (.if_icmp .lt 10, 3) := by decide +kernel
theorem dJ3_checkIndex_8e157_9 : decode cJ3_checkIndex_8e157 9 = .ok (.aload_n 2, 1) := by decide +kernel
theorem dJ3_checkIndex_8e157_10 : decode cJ3_checkIndex_8e157 10 = .ok (.iload_n 0, 1) := by decide +kernel
theorem dJ3_checkIndex_8e157_11 : decode cJ3_checkIndex_8e157 11 = .ok (.iload_n 1, 1) := by decide +kernel
theorem dJ3_checkIndex_8e157_12 : decode cJ3_checkIndex_8e157 12 = .ok (.invokestatic 95, 3) := by decide +kernel
theorem dJ3_checkIndex_8e157_15 : decode cJ3_checkIndex_8e157 15 = .ok (.athrow, 1) := by decide +kernel
theorem dJ3_checkIndex_8e157_16 : decode cJ3_checkIndex_8e157 16 = .ok (.iload_n 0, 1) := by decide +kernel
theorem dJ3_checkIndex_8e157_17 : decode cJ3_checkIndex_8e157 17 = .ok (.ireturn, 1) := by decide +kernel
theorem dL_below_0 : decode cL_below 0 = .ok (.iload_n 0, 1) := by decide +kernel
theorem dL_below_1 : decode cL_below 1 = .ok (.ldc 7, 2) := by decide +kernel
theorem dL_below_3 : decode cL_below 3 = .ok (.iand, 1) := by decide +kernel
theorem dL_below_4 : decode cL_below 4 = .ok (.iload_n 1, 1) := by decide +kernel
theorem dL_below_5 : decode cL_below 5 = .ok (.irem, 1) := by decide +kernel
theorem dL_below_6 : decode cL_below 6 = .ok (.ireturn, 1) := by decide +kernel
theorem dL_cell_0 : decode cL_cell 0 = .ok (.iload_n 1, 1) := by decide +kernel
theorem dL_cell_1 : decode cL_cell 1 = .ok (.aload_n 0, 1) := by decide +kernel
theorem dL_cell_2 : decode cL_cell 2 = .ok (.arraylength, 1) := by decide +kernel
theorem dL_cell_3 : decode cL_cell 3 = .ok (.if_icmp .ge 9, 3) := by decide +kernel
theorem dL_cell_6 : decode cL_cell 6 = .ok (.aload_n 0, 1) := by decide +kernel
theorem dL_cell_7 : decode cL_cell 7 = .ok (.iload_n 1, 1) := by decide +kernel
theorem dL_cell_8 : decode cL_cell 8 = .ok (.iaload, 1) := by decide +kernel
theorem dL_cell_9 : decode cL_cell 9 = .ok (.goto 9, 3) := by decide +kernel
theorem dL_cell_12 : decode cL_cell 12 = .ok (.ldc 8, 2) := by decide +kernel
theorem dL_cell_14 : decode cL_cell 14 = .ok (.iload_n 1, 1) := by decide +kernel
theorem dL_cell_15 : decode cL_cell 15 = .ok (.iconst 3, 1) := by decide +kernel
theorem dL_cell_16 : decode cL_cell 16 = .ok (.iadd, 1) := by decide +kernel
theorem dL_cell_17 : decode cL_cell 17 = .ok (.imul, 1) := by decide +kernel
theorem dL_cell_18 : decode cL_cell 18 = .ok (.ireturn, 1) := by decide +kernel
theorem dL_act_0 : decode cL_act 0 = .ok (.aload_n 1, 1) := by decide +kernel
theorem dL_act_1 : decode cL_act 1 = .ok (.getfield 9, 3) := by decide +kernel
theorem dL_act_4 : decode cL_act 4 = .ok (.arraylength, 1) := by decide +kernel
theorem dL_act_5 : decode cL_act 5 = .ok (.istore_n 3, 1) := by decide +kernel
theorem dL_act_6 : decode cL_act 6 = .ok (.iload_n 3, 1) := by decide +kernel
theorem dL_act_7 : decode cL_act 7 = .ok (.ifCond .ne 7, 3) := by decide +kernel
theorem dL_act_10 : decode cL_act 10 = .ok (.iconst 0, 1) := by decide +kernel
theorem dL_act_11 : decode cL_act 11 = .ok (.goto 10, 3) := by decide +kernel
theorem dL_act_14 : decode cL_act 14 = .ok (.iload_n 2, 1) := by decide +kernel
theorem dL_act_15 : decode cL_act 15 = .ok (.iconst 3, 1) := by decide +kernel
theorem dL_act_16 : decode cL_act 16 = .ok (.ishr, 1) := by decide +kernel
theorem dL_act_17 : decode cL_act 17 = .ok (.iload_n 3, 1) := by decide +kernel
theorem dL_act_18 : decode cL_act 18 = .ok (.invokestatic 15, 3) := by decide +kernel
theorem dL_act_21 : decode cL_act 21 = .ok (.istore 4, 2) := by decide +kernel
theorem dL_act_23 : decode cL_act 23 = .ok (.iload_n 2, 1) := by decide +kernel
theorem dL_act_24 : decode cL_act 24 = .ok (.bipush 12, 2) := by decide +kernel
theorem dL_act_26 : decode cL_act 26 = .ok (.invokestatic 15, 3) := by decide +kernel
theorem dL_act_29 : decode cL_act 29 = .ok (.tableswitch 621 0 9 #[55, 55, 55, 55, 248, 310, 310, 408, 446, 446], 55) := by decide +kernel
theorem dL_act_84 : decode cL_act 84 = .ok (.iload_n 3, 1) := by decide +kernel
theorem dL_act_85 : decode cL_act 85 = .ok (.bipush 10, 2) := by decide +kernel
theorem dL_act_87 : decode cL_act 87 = .ok (.if_icmp .ne 5, 3) := by decide +kernel
theorem dL_act_90 : decode cL_act 90 = .ok (.iconst 1, 1) := by decide +kernel
theorem dL_act_91 : decode cL_act 91 = .ok (.ireturn, 1) := by decide +kernel
theorem dL_act_92 : decode cL_act 92 = .ok (.iload_n 2, 1) := by decide +kernel
theorem dL_act_93 : decode cL_act 93 = .ok (.iconst 2, 1) := by decide +kernel
theorem dL_act_94 : decode cL_act 94 = .ok (.ishr, 1) := by decide +kernel
theorem dL_act_95 : decode cL_act 95 = .ok (.iconst 3, 1) := by decide +kernel
theorem dL_act_96 : decode cL_act 96 = .ok (.invokestatic 15, 3) := by decide +kernel
theorem dL_act_99 : decode cL_act 99 = .ok (.ifCond .ne 8, 3) := by decide +kernel
theorem dL_act_102 : decode cL_act 102 = .ok (.bipush 24, 2) := by decide +kernel
theorem dL_act_104 : decode cL_act 104 = .ok (.goto 5, 3) := by decide +kernel
theorem dL_act_107 : decode cL_act 107 = .ok (.bipush 9, 2) := by decide +kernel
theorem dL_act_109 : decode cL_act 109 = .ok (.istore 5, 2) := by decide +kernel
theorem dL_act_111 : decode cL_act 111 = .ok (.iconst 1, 1) := by decide +kernel
theorem dL_act_112 : decode cL_act 112 = .ok (.iload_n 2, 1) := by decide +kernel
theorem dL_act_113 : decode cL_act 113 = .ok (.iconst 4, 1) := by decide +kernel
theorem dL_act_114 : decode cL_act 114 = .ok (.ishr, 1) := by decide +kernel
theorem dL_act_115 : decode cL_act 115 = .ok (.iload 5, 2) := by decide +kernel
theorem dL_act_117 : decode cL_act 117 = .ok (.invokestatic 15, 3) := by decide +kernel
theorem dL_act_120 : decode cL_act 120 = .ok (.iadd, 1) := by decide +kernel
theorem dL_act_121 : decode cL_act 121 = .ok (.istore 6, 2) := by decide +kernel
theorem dL_act_123 : decode cL_act 123 = .ok (.iconst 1, 1) := by decide +kernel
theorem dL_act_124 : decode cL_act 124 = .ok (.iload_n 2, 1) := by decide +kernel
theorem dL_act_125 : decode cL_act 125 = .ok (.bipush 6, 2) := by decide +kernel
theorem dL_act_127 : decode cL_act 127 = .ok (.ishr, 1) := by decide +kernel
theorem dL_act_128 : decode cL_act 128 = .ok (.iload 5, 2) := by decide +kernel
theorem dL_act_130 : decode cL_act 130 = .ok (.invokestatic 15, 3) := by decide +kernel
theorem dL_act_133 : decode cL_act 133 = .ok (.iadd, 1) := by decide +kernel
theorem dL_act_134 : decode cL_act 134 = .ok (.istore 7, 2) := by decide +kernel
theorem dL_act_136 : decode cL_act 136 = .ok (.bipush 8, 2) := by decide +kernel
theorem dL_act_138 : decode cL_act 138 = .ok (.newarray .int, 2) := by decide +kernel
theorem dL_act_140 : decode cL_act 140 = .ok (.dup, 1) := by decide +kernel
theorem dL_act_141 : decode cL_act 141 = .ok (.iconst 0, 1) := by decide +kernel
theorem dL_act_142 : decode cL_act 142 = .ok (.iload_n 2, 1) := by decide +kernel
theorem dL_act_143 : decode cL_act 143 = .ok (.iconst 5, 1) := by decide +kernel
theorem dL_act_144 : decode cL_act 144 = .ok (.ishr, 1) := by decide +kernel
theorem dL_act_145 : decode cL_act 145 = .ok (.bipush 25, 2) := by decide +kernel
theorem dL_act_147 : decode cL_act 147 = .ok (.iload 6, 2) := by decide +kernel
theorem dL_act_149 : decode cL_act 149 = .ok (.isub, 1) := by decide +kernel
theorem dL_act_150 : decode cL_act 150 = .ok (.invokestatic 15, 3) := by decide +kernel
theorem dL_act_153 : decode cL_act 153 = .ok (.iastore, 1) := by decide +kernel
theorem dL_act_154 : decode cL_act 154 = .ok (.dup, 1) := by decide +kernel
theorem dL_act_155 : decode cL_act 155 = .ok (.iconst 1, 1) := by decide +kernel
theorem dL_act_156 : decode cL_act 156 = .ok (.iload_n 2, 1) := by decide +kernel
theorem dL_act_157 : decode cL_act 157 = .ok (.bipush 7, 2) := by decide +kernel
theorem dL_act_159 : decode cL_act 159 = .ok (.ishr, 1) := by decide +kernel
theorem dL_act_160 : decode cL_act 160 = .ok (.bipush 25, 2) := by decide +kernel
theorem dL_act_162 : decode cL_act 162 = .ok (.iload 7, 2) := by decide +kernel
theorem dL_act_164 : decode cL_act 164 = .ok (.isub, 1) := by decide +kernel
theorem dL_act_165 : decode cL_act 165 = .ok (.invokestatic 15, 3) := by decide +kernel
theorem dL_act_168 : decode cL_act 168 = .ok (.iastore, 1) := by decide +kernel
theorem dL_act_169 : decode cL_act 169 = .ok (.dup, 1) := by decide +kernel
theorem dL_act_170 : decode cL_act 170 = .ok (.iconst 2, 1) := by decide +kernel
theorem dL_act_171 : decode cL_act 171 = .ok (.iload 6, 2) := by decide +kernel
theorem dL_act_173 : decode cL_act 173 = .ok (.iastore, 1) := by decide +kernel
theorem dL_act_174 : decode cL_act 174 = .ok (.dup, 1) := by decide +kernel
theorem dL_act_175 : decode cL_act 175 = .ok (.iconst 3, 1) := by decide +kernel
theorem dL_act_176 : decode cL_act 176 = .ok (.iload 7, 2) := by decide +kernel
theorem dL_act_178 : decode cL_act 178 = .ok (.iastore, 1) := by decide +kernel
theorem dL_act_179 : decode cL_act 179 = .ok (.dup, 1) := by decide +kernel
theorem dL_act_180 : decode cL_act 180 = .ok (.iconst 4, 1) := by decide +kernel
theorem dL_act_181 : decode cL_act 181 = .ok (.iconst 1, 1) := by decide +kernel
theorem dL_act_182 : decode cL_act 182 = .ok (.iload_n 2, 1) := by decide +kernel
theorem dL_act_183 : decode cL_act 183 = .ok (.bipush 8, 2) := by decide +kernel
theorem dL_act_185 : decode cL_act 185 = .ok (.ishr, 1) := by decide +kernel
theorem dL_act_186 : decode cL_act 186 = .ok (.iload_n 2, 1) := by decide +kernel
theorem dL_act_187 : decode cL_act 187 = .ok (.iconst 3, 1) := by decide +kernel
theorem dL_act_188 : decode cL_act 188 = .ok (.ishr, 1) := by decide +kernel
theorem dL_act_189 : decode cL_act 189 = .ok (.iconst 2, 1) := by decide +kernel
theorem dL_act_190 : decode cL_act 190 = .ok (.invokestatic 15, 3) := by decide +kernel
theorem dL_act_193 : decode cL_act 193 = .ok (.ifCond .ne 8, 3) := by decide +kernel
theorem dL_act_196 : decode cL_act 196 = .ok (.bipush 9, 2) := by decide +kernel
theorem dL_act_198 : decode cL_act 198 = .ok (.goto 4, 3) := by decide +kernel
theorem dL_act_201 : decode cL_act 201 = .ok (.iconst 3, 1) := by decide +kernel
theorem dL_act_202 : decode cL_act 202 = .ok (.invokestatic 15, 3) := by decide +kernel
theorem dL_act_205 : decode cL_act 205 = .ok (.iadd, 1) := by decide +kernel
theorem dL_act_206 : decode cL_act 206 = .ok (.iastore, 1) := by decide +kernel
theorem dL_act_207 : decode cL_act 207 = .ok (.dup, 1) := by decide +kernel
theorem dL_act_208 : decode cL_act 208 = .ok (.iconst 5, 1) := by decide +kernel
theorem dL_act_209 : decode cL_act 209 = .ok (.iload_n 2, 1) := by decide +kernel
theorem dL_act_210 : decode cL_act 210 = .ok (.bipush 9, 2) := by decide +kernel
theorem dL_act_212 : decode cL_act 212 = .ok (.ishr, 1) := by decide +kernel
theorem dL_act_213 : decode cL_act 213 = .ok (.iconst 4, 1) := by decide +kernel
theorem dL_act_214 : decode cL_act 214 = .ok (.invokestatic 15, 3) := by decide +kernel
theorem dL_act_217 : decode cL_act 217 = .ok (.iastore, 1) := by decide +kernel
theorem dL_act_218 : decode cL_act 218 = .ok (.dup, 1) := by decide +kernel
theorem dL_act_219 : decode cL_act 219 = .ok (.bipush 6, 2) := by decide +kernel
theorem dL_act_221 : decode cL_act 221 = .ok (.iconst 1, 1) := by decide +kernel
theorem dL_act_222 : decode cL_act 222 = .ok (.iastore, 1) := by decide +kernel
theorem dL_act_223 : decode cL_act 223 = .ok (.dup, 1) := by decide +kernel
theorem dL_act_224 : decode cL_act 224 = .ok (.bipush 7, 2) := by decide +kernel
theorem dL_act_226 : decode cL_act 226 = .ok (.iconst 0, 1) := by decide +kernel
theorem dL_act_227 : decode cL_act 227 = .ok (.iastore, 1) := by decide +kernel
theorem dL_act_228 : decode cL_act 228 = .ok (.astore 8, 2) := by decide +kernel
theorem dL_act_230 : decode cL_act 230 = .ok (.aload_n 1, 1) := by decide +kernel
theorem dL_act_231 : decode cL_act 231 = .ok (.aload_n 1, 1) := by decide +kernel
theorem dL_act_232 : decode cL_act 232 = .ok (.getfield 9, 3) := by decide +kernel
theorem dL_act_235 : decode cL_act 235 = .ok (.aload 8, 2) := by decide +kernel
theorem dL_act_237 : decode cL_act 237 = .ok (.invokestatic 21, 3) := by decide +kernel
theorem dL_act_240 : decode cL_act 240 = .ok (.putfield 9, 3) := by decide +kernel
theorem dL_act_243 : decode cL_act 243 = .ok (.aload_n 0, 1) := by decide +kernel
theorem dL_act_244 : decode cL_act 244 = .ok (.aload 8, 2) := by decide +kernel
theorem dL_act_246 : decode cL_act 246 = .ok (.iconst 0, 1) := by decide +kernel
theorem dL_act_247 : decode cL_act 247 = .ok (.iaload, 1) := by decide +kernel
theorem dL_act_248 : decode cL_act 248 = .ok (.aload 8, 2) := by decide +kernel
theorem dL_act_250 : decode cL_act 250 = .ok (.iconst 1, 1) := by decide +kernel
theorem dL_act_251 : decode cL_act 251 = .ok (.iaload, 1) := by decide +kernel
theorem dL_act_252 : decode cL_act 252 = .ok (.iload 6, 2) := by decide +kernel
theorem dL_act_254 : decode cL_act 254 = .ok (.iload 7, 2) := by decide +kernel
theorem dL_act_256 : decode cL_act 256 = .ok (.aload 8, 2) := by decide +kernel
theorem dL_act_258 : decode cL_act 258 = .ok (.iconst 4, 1) := by decide +kernel
theorem dL_act_259 : decode cL_act 259 = .ok (.iaload, 1) := by decide +kernel
theorem dL_act_260 : decode cL_act 260 = .ok (.aload 8, 2) := by decide +kernel
theorem dL_act_262 : decode cL_act 262 = .ok (.iconst 5, 1) := by decide +kernel
theorem dL_act_263 : decode cL_act 263 = .ok (.iaload, 1) := by decide +kernel
theorem dL_act_264 : decode cL_act 264 = .ok (.invokevirtual 25, 3) := by decide +kernel
theorem dL_act_267 : decode cL_act 267 = .ok (.iload_n 3, 1) := by decide +kernel
theorem dL_act_268 : decode cL_act 268 = .ok (.if_icmp .ne 7, 3) := by decide +kernel
theorem dL_act_271 : decode cL_act 271 = .ok (.iconst 1, 1) := by decide +kernel
theorem dL_act_272 : decode cL_act 272 = .ok (.goto 4, 3) := by decide +kernel
theorem dL_act_275 : decode cL_act 275 = .ok (.iconst 0, 1) := by decide +kernel
theorem dL_act_276 : decode cL_act 276 = .ok (.ireturn, 1) := by decide +kernel
theorem dL_act_277 : decode cL_act 277 = .ok (.iload_n 3, 1) := by decide +kernel
theorem dL_act_278 : decode cL_act 278 = .ok (.ifCond .ne 5, 3) := by decide +kernel
theorem dL_act_281 : decode cL_act 281 = .ok (.iconst 1, 1) := by decide +kernel
theorem dL_act_282 : decode cL_act 282 = .ok (.ireturn, 1) := by decide +kernel
theorem dL_act_283 : decode cL_act 283 = .ok (.aload_n 1, 1) := by decide +kernel
theorem dL_act_284 : decode cL_act 284 = .ok (.getfield 9, 3) := by decide +kernel
theorem dL_act_287 : decode cL_act 287 = .ok (.iload 4, 2) := by decide +kernel
theorem dL_act_289 : decode cL_act 289 = .ok (.aaload, 1) := by decide +kernel
theorem dL_act_290 : decode cL_act 290 = .ok (.bipush 6, 2) := by decide +kernel
theorem dL_act_292 : decode cL_act 292 = .ok (.iconst 1, 1) := by decide +kernel
theorem dL_act_293 : decode cL_act 293 = .ok (.aload_n 1, 1) := by decide +kernel
theorem dL_act_294 : decode cL_act 294 = .ok (.getfield 9, 3) := by decide +kernel
theorem dL_act_297 : decode cL_act 297 = .ok (.iload 4, 2) := by decide +kernel
theorem dL_act_299 : decode cL_act 299 = .ok (.aaload, 1) := by decide +kernel
theorem dL_act_300 : decode cL_act 300 = .ok (.bipush 6, 2) := by decide +kernel
theorem dL_act_302 : decode cL_act 302 = .ok (.iaload, 1) := by decide +kernel
theorem dL_act_303 : decode cL_act 303 = .ok (.isub, 1) := by decide +kernel
theorem dL_act_304 : decode cL_act 304 = .ok (.iastore, 1) := by decide +kernel
theorem dL_act_305 : decode cL_act 305 = .ok (.aload_n 0, 1) := by decide +kernel
theorem dL_act_306 : decode cL_act 306 = .ok (.iload 4, 2) := by decide +kernel
theorem dL_act_308 : decode cL_act 308 = .ok (.invokevirtual 31, 3) := by decide +kernel
theorem dL_act_311 : decode cL_act 311 = .ok (.aload_n 1, 1) := by decide +kernel
theorem dL_act_312 : decode cL_act 312 = .ok (.getfield 9, 3) := by decide +kernel
theorem dL_act_315 : decode cL_act 315 = .ok (.iload 4, 2) := by decide +kernel
theorem dL_act_317 : decode cL_act 317 = .ok (.aaload, 1) := by decide +kernel
theorem dL_act_318 : decode cL_act 318 = .ok (.bipush 6, 2) := by decide +kernel
theorem dL_act_320 : decode cL_act 320 = .ok (.iaload, 1) := by decide +kernel
theorem dL_act_321 : decode cL_act 321 = .ok (.iconst 1, 1) := by decide +kernel
theorem dL_act_322 : decode cL_act 322 = .ok (.if_icmp .ne 7, 3) := by decide +kernel
theorem dL_act_325 : decode cL_act 325 = .ok (.iconst 1, 1) := by decide +kernel
theorem dL_act_326 : decode cL_act 326 = .ok (.goto 4, 3) := by decide +kernel
theorem dL_act_329 : decode cL_act 329 = .ok (.iconst 0, 1) := by decide +kernel
theorem dL_act_330 : decode cL_act 330 = .ok (.if_icmp .ne 7, 3) := by decide +kernel
theorem dL_act_333 : decode cL_act 333 = .ok (.iconst 1, 1) := by decide +kernel
theorem dL_act_334 : decode cL_act 334 = .ok (.goto 4, 3) := by decide +kernel
theorem dL_act_337 : decode cL_act 337 = .ok (.iconst 0, 1) := by decide +kernel
theorem dL_act_338 : decode cL_act 338 = .ok (.ireturn, 1) := by decide +kernel
theorem dL_act_339 : decode cL_act 339 = .ok (.iload_n 3, 1) := by decide +kernel
theorem dL_act_340 : decode cL_act 340 = .ok (.ifCond .ne 5, 3) := by decide +kernel
theorem dL_act_343 : decode cL_act 343 = .ok (.iconst 1, 1) := by decide +kernel
theorem dL_act_344 : decode cL_act 344 = .ok (.ireturn, 1) := by decide +kernel
theorem dL_act_345 : decode cL_act 345 = .ok (.aload_n 1, 1) := by decide +kernel
theorem dL_act_346 : decode cL_act 346 = .ok (.getfield 9, 3) := by decide +kernel
theorem dL_act_349 : decode cL_act 349 = .ok (.iload 4, 2) := by decide +kernel
theorem dL_act_351 : decode cL_act 351 = .ok (.aaload, 1) := by decide +kernel
theorem dL_act_352 : decode cL_act 352 = .ok (.iconst 0, 1) := by decide +kernel
theorem dL_act_353 : decode cL_act 353 = .ok (.iload_n 2, 1) := by decide +kernel
theorem dL_act_354 : decode cL_act 354 = .ok (.iconst 5, 1) := by decide +kernel
theorem dL_act_355 : decode cL_act 355 = .ok (.ishr, 1) := by decide +kernel
theorem dL_act_356 : decode cL_act 356 = .ok (.bipush 25, 2) := by decide +kernel
theorem dL_act_358 : decode cL_act 358 = .ok (.aload_n 1, 1) := by decide +kernel
theorem dL_act_359 : decode cL_act 359 = .ok (.getfield 9, 3) := by decide +kernel
theorem dL_act_362 : decode cL_act 362 = .ok (.iload 4, 2) := by decide +kernel
theorem dL_act_364 : decode cL_act 364 = .ok (.aaload, 1) := by decide +kernel
theorem dL_act_365 : decode cL_act 365 = .ok (.iconst 2, 1) := by decide +kernel
theorem dL_act_366 : decode cL_act 366 = .ok (.iaload, 1) := by decide +kernel
theorem dL_act_367 : decode cL_act 367 = .ok (.isub, 1) := by decide +kernel
theorem dL_act_368 : decode cL_act 368 = .ok (.invokestatic 15, 3) := by decide +kernel
theorem dL_act_371 : decode cL_act 371 = .ok (.iastore, 1) := by decide +kernel
theorem dL_act_372 : decode cL_act 372 = .ok (.aload_n 1, 1) := by decide +kernel
theorem dL_act_373 : decode cL_act 373 = .ok (.getfield 9, 3) := by decide +kernel
theorem dL_act_376 : decode cL_act 376 = .ok (.iload 4, 2) := by decide +kernel
theorem dL_act_378 : decode cL_act 378 = .ok (.aaload, 1) := by decide +kernel
theorem dL_act_379 : decode cL_act 379 = .ok (.iconst 1, 1) := by decide +kernel
theorem dL_act_380 : decode cL_act 380 = .ok (.iload_n 2, 1) := by decide +kernel
theorem dL_act_381 : decode cL_act 381 = .ok (.bipush 7, 2) := by decide +kernel
theorem dL_act_383 : decode cL_act 383 = .ok (.ishr, 1) := by decide +kernel
theorem dL_act_384 : decode cL_act 384 = .ok (.bipush 25, 2) := by decide +kernel
theorem dL_act_386 : decode cL_act 386 = .ok (.aload_n 1, 1) := by decide +kernel
theorem dL_act_387 : decode cL_act 387 = .ok (.getfield 9, 3) := by decide +kernel
theorem dL_act_390 : decode cL_act 390 = .ok (.iload 4, 2) := by decide +kernel
theorem dL_act_392 : decode cL_act 392 = .ok (.aaload, 1) := by decide +kernel
theorem dL_act_393 : decode cL_act 393 = .ok (.iconst 3, 1) := by decide +kernel
theorem dL_act_394 : decode cL_act 394 = .ok (.iaload, 1) := by decide +kernel
theorem dL_act_395 : decode cL_act 395 = .ok (.isub, 1) := by decide +kernel
theorem dL_act_396 : decode cL_act 396 = .ok (.invokestatic 15, 3) := by decide +kernel
theorem dL_act_399 : decode cL_act 399 = .ok (.iastore, 1) := by decide +kernel
theorem dL_act_400 : decode cL_act 400 = .ok (.aload_n 0, 1) := by decide +kernel
theorem dL_act_401 : decode cL_act 401 = .ok (.iload 4, 2) := by decide +kernel
theorem dL_act_403 : decode cL_act 403 = .ok (.aload_n 1, 1) := by decide +kernel
theorem dL_act_404 : decode cL_act 404 = .ok (.getfield 9, 3) := by decide +kernel
theorem dL_act_407 : decode cL_act 407 = .ok (.iload 4, 2) := by decide +kernel
theorem dL_act_409 : decode cL_act 409 = .ok (.aaload, 1) := by decide +kernel
theorem dL_act_410 : decode cL_act 410 = .ok (.iconst 0, 1) := by decide +kernel
theorem dL_act_411 : decode cL_act 411 = .ok (.iaload, 1) := by decide +kernel
theorem dL_act_412 : decode cL_act 412 = .ok (.aload_n 1, 1) := by decide +kernel
theorem dL_act_413 : decode cL_act 413 = .ok (.getfield 9, 3) := by decide +kernel
theorem dL_act_416 : decode cL_act 416 = .ok (.iload 4, 2) := by decide +kernel
theorem dL_act_418 : decode cL_act 418 = .ok (.aaload, 1) := by decide +kernel
theorem dL_act_419 : decode cL_act 419 = .ok (.iconst 1, 1) := by decide +kernel
theorem dL_act_420 : decode cL_act 420 = .ok (.iaload, 1) := by decide +kernel
theorem dL_act_421 : decode cL_act 421 = .ok (.invokevirtual 35, 3) := by decide +kernel
theorem dL_act_424 : decode cL_act 424 = .ok (.aload_n 1, 1) := by decide +kernel
theorem dL_act_425 : decode cL_act 425 = .ok (.invokevirtual 39, 3) := by decide +kernel
theorem dL_act_428 : decode cL_act 428 = .ok (.if_icmp .ne 7, 3) := by decide +kernel
theorem dL_act_431 : decode cL_act 431 = .ok (.iconst 1, 1) := by decide +kernel
theorem dL_act_432 : decode cL_act 432 = .ok (.goto 4, 3) := by decide +kernel
theorem dL_act_435 : decode cL_act 435 = .ok (.iconst 0, 1) := by decide +kernel
theorem dL_act_436 : decode cL_act 436 = .ok (.ireturn, 1) := by decide +kernel
theorem dL_act_437 : decode cL_act 437 = .ok (.iload_n 3, 1) := by decide +kernel
theorem dL_act_438 : decode cL_act 438 = .ok (.iconst 3, 1) := by decide +kernel
theorem dL_act_439 : decode cL_act 439 = .ok (.if_icmp .ge 5, 3) := by decide +kernel
theorem dL_act_442 : decode cL_act 442 = .ok (.iconst 1, 1) := by decide +kernel
theorem dL_act_443 : decode cL_act 443 = .ok (.ireturn, 1) := by decide +kernel
theorem dL_act_444 : decode cL_act 444 = .ok (.aload_n 1, 1) := by decide +kernel
theorem dL_act_445 : decode cL_act 445 = .ok (.aload_n 1, 1) := by decide +kernel
theorem dL_act_446 : decode cL_act 446 = .ok (.getfield 9, 3) := by decide +kernel
theorem dL_act_449 : decode cL_act 449 = .ok (.iload 4, 2) := by decide +kernel
theorem dL_act_451 : decode cL_act 451 = .ok (.invokestatic 43, 3) := by decide +kernel
theorem dL_act_454 : decode cL_act 454 = .ok (.putfield 9, 3) := by decide +kernel
theorem dL_act_457 : decode cL_act 457 = .ok (.aload_n 0, 1) := by decide +kernel
theorem dL_act_458 : decode cL_act 458 = .ok (.iload 4, 2) := by decide +kernel
theorem dL_act_460 : decode cL_act 460 = .ok (.invokevirtual 47, 3) := by decide +kernel
theorem dL_act_463 : decode cL_act 463 = .ok (.iload_n 3, 1) := by decide +kernel
theorem dL_act_464 : decode cL_act 464 = .ok (.iconst 1, 1) := by decide +kernel
theorem dL_act_465 : decode cL_act 465 = .ok (.isub, 1) := by decide +kernel
theorem dL_act_466 : decode cL_act 466 = .ok (.if_icmp .ne 7, 3) := by decide +kernel
theorem dL_act_469 : decode cL_act 469 = .ok (.iconst 1, 1) := by decide +kernel
theorem dL_act_470 : decode cL_act 470 = .ok (.goto 4, 3) := by decide +kernel
theorem dL_act_473 : decode cL_act 473 = .ok (.iconst 0, 1) := by decide +kernel
theorem dL_act_474 : decode cL_act 474 = .ok (.ireturn, 1) := by decide +kernel
theorem dL_act_475 : decode cL_act 475 = .ok (.iload_n 2, 1) := by decide +kernel
theorem dL_act_476 : decode cL_act 476 = .ok (.iconst 4, 1) := by decide +kernel
theorem dL_act_477 : decode cL_act 477 = .ok (.ishr, 1) := by decide +kernel
theorem dL_act_478 : decode cL_act 478 = .ok (.bipush 24, 2) := by decide +kernel
theorem dL_act_480 : decode cL_act 480 = .ok (.invokestatic 15, 3) := by decide +kernel
theorem dL_act_483 : decode cL_act 483 = .ok (.istore 5, 2) := by decide +kernel
theorem dL_act_485 : decode cL_act 485 = .ok (.iload_n 2, 1) := by decide +kernel
theorem dL_act_486 : decode cL_act 486 = .ok (.bipush 6, 2) := by decide +kernel
theorem dL_act_488 : decode cL_act 488 = .ok (.ishr, 1) := by decide +kernel
theorem dL_act_489 : decode cL_act 489 = .ok (.bipush 24, 2) := by decide +kernel
theorem dL_act_491 : decode cL_act 491 = .ok (.invokestatic 15, 3) := by decide +kernel
theorem dL_act_494 : decode cL_act 494 = .ok (.istore 6, 2) := by decide +kernel
theorem dL_act_496 : decode cL_act 496 = .ok (.aload_n 1, 1) := by decide +kernel
theorem dL_act_497 : decode cL_act 497 = .ok (.getfield 51, 3) := by decide +kernel
theorem dL_act_500 : decode cL_act 500 = .ok (.arraylength, 1) := by decide +kernel
theorem dL_act_501 : decode cL_act 501 = .ok (.bipush 8, 2) := by decide +kernel
theorem dL_act_503 : decode cL_act 503 = .ok (.if_icmp .ge 7, 3) := by decide +kernel
theorem dL_act_506 : decode cL_act 506 = .ok (.iconst 1, 1) := by decide +kernel
theorem dL_act_507 : decode cL_act 507 = .ok (.goto 4, 3) := by decide +kernel
theorem dL_act_510 : decode cL_act 510 = .ok (.iconst 0, 1) := by decide +kernel
theorem dL_act_511 : decode cL_act 511 = .ok (.istore 7, 2) := by decide +kernel
theorem dL_act_513 : decode cL_act 513 = .ok (.aload_n 1, 1) := by decide +kernel
theorem dL_act_514 : decode cL_act 514 = .ok (.getfield 51, 3) := by decide +kernel
theorem dL_act_517 : decode cL_act 517 = .ok (.astore 8, 2) := by decide +kernel
theorem dL_act_519 : decode cL_act 519 = .ok (.aload 8, 2) := by decide +kernel
theorem dL_act_521 : decode cL_act 521 = .ok (.arraylength, 1) := by decide +kernel
theorem dL_act_522 : decode cL_act 522 = .ok (.istore 9, 2) := by decide +kernel
theorem dL_act_524 : decode cL_act 524 = .ok (.iconst 0, 1) := by decide +kernel
theorem dL_act_525 : decode cL_act 525 = .ok (.istore 10, 2) := by decide +kernel
theorem dL_act_527 : decode cL_act 527 = .ok (.iload 10, 2) := by decide +kernel
theorem dL_act_529 : decode cL_act 529 = .ok (.iload 9, 2) := by decide +kernel
theorem dL_act_531 : decode cL_act 531 = .ok (.if_icmp .ge 44, 3) := by decide +kernel
theorem dL_act_534 : decode cL_act 534 = .ok (.aload 8, 2) := by decide +kernel
theorem dL_act_536 : decode cL_act 536 = .ok (.iload 10, 2) := by decide +kernel
theorem dL_act_538 : decode cL_act 538 = .ok (.aaload, 1) := by decide +kernel
theorem dL_act_539 : decode cL_act 539 = .ok (.astore 11, 2) := by decide +kernel
theorem dL_act_541 : decode cL_act 541 = .ok (.iload 7, 2) := by decide +kernel
theorem dL_act_543 : decode cL_act 543 = .ok (.aload 11, 2) := by decide +kernel
theorem dL_act_545 : decode cL_act 545 = .ok (.iconst 0, 1) := by decide +kernel
theorem dL_act_546 : decode cL_act 546 = .ok (.iaload, 1) := by decide +kernel
theorem dL_act_547 : decode cL_act 547 = .ok (.iload 5, 2) := by decide +kernel
theorem dL_act_549 : decode cL_act 549 = .ok (.if_icmp .ne 12, 3) := by decide +kernel
theorem dL_act_552 : decode cL_act 552 = .ok (.aload 11, 2) := by decide +kernel
theorem dL_act_554 : decode cL_act 554 = .ok (.iconst 1, 1) := by decide +kernel
theorem dL_act_555 : decode cL_act 555 = .ok (.iaload, 1) := by decide +kernel
theorem dL_act_556 : decode cL_act 556 = .ok (.iload 6, 2) := by decide +kernel
theorem dL_act_558 : decode cL_act 558 = .ok (.if_icmp .eq 7, 3) := by decide +kernel
theorem dL_act_561 : decode cL_act 561 = .ok (.iconst 1, 1) := by decide +kernel
theorem dL_act_562 : decode cL_act 562 = .ok (.goto 4, 3) := by decide +kernel
theorem dL_act_565 : decode cL_act 565 = .ok (.iconst 0, 1) := by decide +kernel
theorem dL_act_566 : decode cL_act 566 = .ok (.iand, 1) := by decide +kernel
theorem dL_act_567 : decode cL_act 567 = .ok (.istore 7, 2) := by decide +kernel
theorem dL_act_569 : decode cL_act 569 = .ok (.iinc 10 1, 3) := by decide +kernel
theorem dL_act_572 : decode cL_act 572 = .ok (.goto (-45), 3) := by decide +kernel
theorem dL_act_575 : decode cL_act 575 = .ok (.iload 7, 2) := by decide +kernel
theorem dL_act_577 : decode cL_act 577 = .ok (.ifCond .eq 31, 3) := by decide +kernel
theorem dL_act_580 : decode cL_act 580 = .ok (.aload_n 1, 1) := by decide +kernel
theorem dL_act_581 : decode cL_act 581 = .ok (.aload_n 1, 1) := by decide +kernel
theorem dL_act_582 : decode cL_act 582 = .ok (.getfield 51, 3) := by decide +kernel
theorem dL_act_585 : decode cL_act 585 = .ok (.iconst 3, 1) := by decide +kernel
theorem dL_act_586 : decode cL_act 586 = .ok (.newarray .int, 2) := by decide +kernel
theorem dL_act_588 : decode cL_act 588 = .ok (.dup, 1) := by decide +kernel
theorem dL_act_589 : decode cL_act 589 = .ok (.iconst 0, 1) := by decide +kernel
theorem dL_act_590 : decode cL_act 590 = .ok (.iload 5, 2) := by decide +kernel
theorem dL_act_592 : decode cL_act 592 = .ok (.iastore, 1) := by decide +kernel
theorem dL_act_593 : decode cL_act 593 = .ok (.dup, 1) := by decide +kernel
theorem dL_act_594 : decode cL_act 594 = .ok (.iconst 1, 1) := by decide +kernel
theorem dL_act_595 : decode cL_act 595 = .ok (.iload 6, 2) := by decide +kernel
theorem dL_act_597 : decode cL_act 597 = .ok (.iastore, 1) := by decide +kernel
theorem dL_act_598 : decode cL_act 598 = .ok (.dup, 1) := by decide +kernel
theorem dL_act_599 : decode cL_act 599 = .ok (.iconst 2, 1) := by decide +kernel
theorem dL_act_600 : decode cL_act 600 = .ok (.iconst 0, 1) := by decide +kernel
theorem dL_act_601 : decode cL_act 601 = .ok (.iastore, 1) := by decide +kernel
theorem dL_act_602 : decode cL_act 602 = .ok (.invokestatic 21, 3) := by decide +kernel
theorem dL_act_605 : decode cL_act 605 = .ok (.putfield 51, 3) := by decide +kernel
theorem dL_act_608 : decode cL_act 608 = .ok (.aload_n 0, 1) := by decide +kernel
theorem dL_act_609 : decode cL_act 609 = .ok (.iload 5, 2) := by decide +kernel
theorem dL_act_611 : decode cL_act 611 = .ok (.iload 6, 2) := by decide +kernel
theorem dL_act_613 : decode cL_act 613 = .ok (.invokevirtual 54, 3) := by decide +kernel
theorem dL_act_616 : decode cL_act 616 = .ok (.aload_n 1, 1) := by decide +kernel
theorem dL_act_617 : decode cL_act 617 = .ok (.getfield 51, 3) := by decide +kernel
theorem dL_act_620 : decode cL_act 620 = .ok (.arraylength, 1) := by decide +kernel
theorem dL_act_621 : decode cL_act 621 = .ok (.iconst 1, 1) := by decide +kernel
theorem dL_act_622 : decode cL_act 622 = .ok (.isub, 1) := by decide +kernel
theorem dL_act_623 : decode cL_act 623 = .ok (.if_icmp .ne 12, 3) := by decide +kernel
theorem dL_act_626 : decode cL_act 626 = .ok (.iload 7, 2) := by decide +kernel
theorem dL_act_628 : decode cL_act 628 = .ok (.ifCond .eq 7, 3) := by decide +kernel
theorem dL_act_631 : decode cL_act 631 = .ok (.iconst 1, 1) := by decide +kernel
theorem dL_act_632 : decode cL_act 632 = .ok (.goto 4, 3) := by decide +kernel
theorem dL_act_635 : decode cL_act 635 = .ok (.iconst 0, 1) := by decide +kernel
theorem dL_act_636 : decode cL_act 636 = .ok (.ireturn, 1) := by decide +kernel
theorem dL_act_637 : decode cL_act 637 = .ok (.astore 8, 2) := by decide +kernel
theorem dL_act_639 : decode cL_act 639 = .ok (.iload 7, 2) := by decide +kernel
theorem dL_act_641 : decode cL_act 641 = .ok (.ifCond .ne 7, 3) := by decide +kernel
theorem dL_act_644 : decode cL_act 644 = .ok (.iconst 1, 1) := by decide +kernel
theorem dL_act_645 : decode cL_act 645 = .ok (.goto 4, 3) := by decide +kernel
theorem dL_act_648 : decode cL_act 648 = .ok (.iconst 0, 1) := by decide +kernel
theorem dL_act_649 : decode cL_act 649 = .ok (.ireturn, 1) := by decide +kernel
theorem dL_act_650 : decode cL_act 650 = .ok (.iconst 1, 1) := by decide +kernel
theorem dL_act_651 : decode cL_act 651 = .ok (.iload_n 2, 1) := by decide +kernel
theorem dL_act_652 : decode cL_act 652 = .ok (.iconst 4, 1) := by decide +kernel
theorem dL_act_653 : decode cL_act 653 = .ok (.ishr, 1) := by decide +kernel
theorem dL_act_654 : decode cL_act 654 = .ok (.bipush 20, 2) := by decide +kernel
theorem dL_act_656 : decode cL_act 656 = .ok (.invokestatic 15, 3) := by decide +kernel
theorem dL_act_659 : decode cL_act 659 = .ok (.iadd, 1) := by decide +kernel
theorem dL_act_660 : decode cL_act 660 = .ok (.istore 5, 2) := by decide +kernel
theorem dL_act_662 : decode cL_act 662 = .ok (.aload_n 0, 1) := by decide +kernel
theorem dL_act_663 : decode cL_act 663 = .ok (.iload 5, 2) := by decide +kernel
theorem dL_act_665 : decode cL_act 665 = .ok (.invokevirtual 59, 3) := by decide +kernel
theorem dL_act_668 : decode cL_act 668 = .ok (.aload_n 1, 1) := by decide +kernel
theorem dL_act_669 : decode cL_act 669 = .ok (.iload 5, 2) := by decide +kernel
theorem dL_act_671 : decode cL_act 671 = .ok (.invokevirtual 62, 3) := by decide +kernel
theorem dL_act_674 : decode cL_act 674 = .ok (.if_icmp .ne 7, 3) := by decide +kernel
theorem dL_act_677 : decode cL_act 677 = .ok (.iconst 1, 1) := by decide +kernel
theorem dL_act_678 : decode cL_act 678 = .ok (.goto 4, 3) := by decide +kernel
theorem dL_act_681 : decode cL_act 681 = .ok (.iconst 0, 1) := by decide +kernel
theorem dL_act_682 : decode cL_act 682 = .ok (.ireturn, 1) := by decide +kernel
theorem dL_build_0 : decode cL_build 0 = .ok (.new 10, 3) := by decide +kernel
theorem dL_build_3 : decode cL_build 3 = .ok (.dup, 1) := by decide +kernel
theorem dL_build_4 : decode cL_build 4 = .ok (.invokespecial 63, 3) := by decide +kernel
theorem dL_build_7 : decode cL_build 7 = .ok (.astore_n 2, 1) := by decide +kernel
theorem dL_build_8 : decode cL_build 8 = .ok (.iconst 0, 1) := by decide +kernel
theorem dL_build_9 : decode cL_build 9 = .ok (.istore_n 3, 1) := by decide +kernel
theorem dL_build_10 : decode cL_build 10 = .ok (.iload_n 3, 1) := by decide +kernel
theorem dL_build_11 : decode cL_build 11 = .ok (.bipush 12, 2) := by decide +kernel
theorem dL_build_13 : decode cL_build 13 = .ok (.if_icmp .ge 49, 3) := by decide +kernel
theorem dL_build_16 : decode cL_build 16 = .ok (.aload_n 0, 1) := by decide +kernel
theorem dL_build_17 : decode cL_build 17 = .ok (.aload_n 2, 1) := by decide +kernel
theorem dL_build_18 : decode cL_build 18 = .ok (.iload_n 3, 1) := by decide +kernel
theorem dL_build_19 : decode cL_build 19 = .ok (.iconst 4, 1) := by decide +kernel
theorem dL_build_20 : decode cL_build 20 = .ok (.if_icmp .ge 18, 3) := by decide +kernel
theorem dL_build_23 : decode cL_build 23 = .ok (.bipush 12, 2) := by decide +kernel
theorem dL_build_25 : decode cL_build 25 = .ok (.aload_n 1, 1) := by decide +kernel
theorem dL_build_26 : decode cL_build 26 = .ok (.iload_n 3, 1) := by decide +kernel
theorem dL_build_27 : decode cL_build 27 = .ok (.invokestatic 64, 3) := by decide +kernel
theorem dL_build_30 : decode cL_build 30 = .ok (.iconst 5, 1) := by decide +kernel
theorem dL_build_31 : decode cL_build 31 = .ok (.ishr, 1) := by decide +kernel
theorem dL_build_32 : decode cL_build 32 = .ok (.imul, 1) := by decide +kernel
theorem dL_build_33 : decode cL_build 33 = .ok (.iload_n 3, 1) := by decide +kernel
theorem dL_build_34 : decode cL_build 34 = .ok (.iadd, 1) := by decide +kernel
theorem dL_build_35 : decode cL_build 35 = .ok (.goto 13, 3) := by decide +kernel
theorem dL_build_38 : decode cL_build 38 = .ok (.aload_n 1, 1) := by decide +kernel
theorem dL_build_39 : decode cL_build 39 = .ok (.iload_n 3, 1) := by decide +kernel
theorem dL_build_40 : decode cL_build 40 = .ok (.invokestatic 64, 3) := by decide +kernel
theorem dL_build_43 : decode cL_build 43 = .ok (.bipush 71, 2) := by decide +kernel
theorem dL_build_45 : decode cL_build 45 = .ok (.iload_n 3, 1) := by decide +kernel
theorem dL_build_46 : decode cL_build 46 = .ok (.imul, 1) := by decide +kernel
theorem dL_build_47 : decode cL_build 47 = .ok (.iadd, 1) := by decide +kernel
theorem dL_build_48 : decode cL_build 48 = .ok (.invokestatic 68, 3) := by decide +kernel
theorem dL_build_51 : decode cL_build 51 = .ok (.ifCond .ne 5, 3) := by decide +kernel
theorem dL_build_54 : decode cL_build 54 = .ok (.aconst_null, 1) := by decide +kernel
theorem dL_build_55 : decode cL_build 55 = .ok (.areturn, 1) := by decide +kernel
theorem dL_build_56 : decode cL_build 56 = .ok (.iinc 3 1, 3) := by decide +kernel
theorem dL_build_59 : decode cL_build 59 = .ok (.goto (-49), 3) := by decide +kernel
theorem dL_build_62 : decode cL_build 62 = .ok (.aload_n 2, 1) := by decide +kernel
theorem dL_build_63 : decode cL_build 63 = .ok (.areturn, 1) := by decide +kernel
theorem dL_law_0 : decode cL_law 0 = .ok (.new 26, 3) := by decide +kernel
theorem dL_law_3 : decode cL_law 3 = .ok (.dup, 1) := by decide +kernel
theorem dL_law_4 : decode cL_law 4 = .ok (.invokespecial 72, 3) := by decide +kernel
theorem dL_law_7 : decode cL_law 7 = .ok (.astore_n 1, 1) := by decide +kernel
theorem dL_law_8 : decode cL_law 8 = .ok (.aload_n 1, 1) := by decide +kernel
theorem dL_law_9 : decode cL_law 9 = .ok (.aload_n 0, 1) := by decide +kernel
theorem dL_law_10 : decode cL_law 10 = .ok (.invokestatic 73, 3) := by decide +kernel
theorem dL_law_13 : decode cL_law 13 = .ok (.astore_n 2, 1) := by decide +kernel
theorem dL_law_14 : decode cL_law 14 = .ok (.aload_n 2, 1) := by decide +kernel
theorem dL_law_15 : decode cL_law 15 = .ok (.ifnonnull 5, 3) := by decide +kernel
theorem dL_law_18 : decode cL_law 18 = .ok (.iconst 0, 1) := by decide +kernel
theorem dL_law_19 : decode cL_law 19 = .ok (.ireturn, 1) := by decide +kernel
theorem dL_law_20 : decode cL_law 20 = .ok (.aload_n 1, 1) := by decide +kernel
theorem dL_law_21 : decode cL_law 21 = .ok (.bipush 8, 2) := by decide +kernel
theorem dL_law_23 : decode cL_law 23 = .ok (.invokevirtual 77, 3) := by decide +kernel
theorem dL_law_26 : decode cL_law 26 = .ok (.aload_n 1, 1) := by decide +kernel
theorem dL_law_27 : decode cL_law 27 = .ok (.bipush 9, 2) := by decide +kernel
theorem dL_law_29 : decode cL_law 29 = .ok (.invokevirtual 77, 3) := by decide +kernel
theorem dL_law_32 : decode cL_law 32 = .ok (.iadd, 1) := by decide +kernel
theorem dL_law_33 : decode cL_law 33 = .ok (.istore_n 3, 1) := by decide +kernel
theorem dL_law_34 : decode cL_law 34 = .ok (.iload_n 3, 1) := by decide +kernel
theorem dL_law_35 : decode cL_law 35 = .ok (.sipush 576, 3) := by decide +kernel
theorem dL_law_38 : decode cL_law 38 = .ok (.irem, 1) := by decide +kernel
theorem dL_law_39 : decode cL_law 39 = .ok (.ifCond .eq 5, 3) := by decide +kernel
theorem dL_law_42 : decode cL_law 42 = .ok (.iconst 0, 1) := by decide +kernel
theorem dL_law_43 : decode cL_law 43 = .ok (.ireturn, 1) := by decide +kernel
theorem dL_law_44 : decode cL_law 44 = .ok (.iconst 0, 1) := by decide +kernel
theorem dL_law_45 : decode cL_law 45 = .ok (.istore 4, 2) := by decide +kernel
theorem dL_law_47 : decode cL_law 47 = .ok (.iload 4, 2) := by decide +kernel
theorem dL_law_49 : decode cL_law 49 = .ok (.bipush 8, 2) := by decide +kernel
theorem dL_law_51 : decode cL_law 51 = .ok (.if_icmp .ge 1004, 3) := by decide +kernel
theorem dL_law_54 : decode cL_law 54 = .ok (.aload_n 0, 1) := by decide +kernel
theorem dL_law_55 : decode cL_law 55 = .ok (.iload 4, 2) := by decide +kernel
theorem dL_law_57 : decode cL_law 57 = .ok (.iconst 3, 1) := by decide +kernel
theorem dL_law_58 : decode cL_law 58 = .ok (.iadd, 1) := by decide +kernel
theorem dL_law_59 : decode cL_law 59 = .ok (.invokestatic 64, 3) := by decide +kernel
theorem dL_law_62 : decode cL_law 62 = .ok (.iconst 1, 1) := by decide +kernel
theorem dL_law_63 : decode cL_law 63 = .ok (.ishr, 1) := by decide +kernel
theorem dL_law_64 : decode cL_law 64 = .ok (.bipush 47, 2) := by decide +kernel
theorem dL_law_66 : decode cL_law 66 = .ok (.iload 4, 2) := by decide +kernel
theorem dL_law_68 : decode cL_law 68 = .ok (.imul, 1) := by decide +kernel
theorem dL_law_69 : decode cL_law 69 = .ok (.iadd, 1) := by decide +kernel
theorem dL_law_70 : decode cL_law 70 = .ok (.istore 5, 2) := by decide +kernel
theorem dL_law_72 : decode cL_law 72 = .ok (.aload_n 1, 1) := by decide +kernel
theorem dL_law_73 : decode cL_law 73 = .ok (.aload_n 2, 1) := by decide +kernel
theorem dL_law_74 : decode cL_law 74 = .ok (.iload 5, 2) := by decide +kernel
theorem dL_law_76 : decode cL_law 76 = .ok (.invokestatic 68, 3) := by decide +kernel
theorem dL_law_79 : decode cL_law 79 = .ok (.ifCond .ne 5, 3) := by decide +kernel
theorem dL_law_82 : decode cL_law 82 = .ok (.iconst 0, 1) := by decide +kernel
theorem dL_law_83 : decode cL_law 83 = .ok (.ireturn, 1) := by decide +kernel
theorem dL_law_84 : decode cL_law 84 = .ok (.aload_n 1, 1) := by decide +kernel
theorem dL_law_85 : decode cL_law 85 = .ok (.invokevirtual 80, 3) := by decide +kernel
theorem dL_law_88 : decode cL_law 88 = .ok (.lstore 6, 2) := by decide +kernel
theorem dL_law_90 : decode cL_law 90 = .ok (.aload_n 1, 1) := by decide +kernel
theorem dL_law_91 : decode cL_law 91 = .ok (.iconst 3, 1) := by decide +kernel
theorem dL_law_92 : decode cL_law 92 = .ok (.invokevirtual 77, 3) := by decide +kernel
theorem dL_law_95 : decode cL_law 95 = .ok (.istore 8, 2) := by decide +kernel
theorem dL_law_97 : decode cL_law 97 = .ok (.iconst 0, 1) := by decide +kernel
theorem dL_law_98 : decode cL_law 98 = .ok (.istore 9, 2) := by decide +kernel
theorem dL_law_100 : decode cL_law 100 = .ok (.iconst 0, 1) := by decide +kernel
theorem dL_law_101 : decode cL_law 101 = .ok (.istore 10, 2) := by decide +kernel
theorem dL_law_103 : decode cL_law 103 = .ok (.iconst 0, 1) := by decide +kernel
theorem dL_law_104 : decode cL_law 104 = .ok (.istore 11, 2) := by decide +kernel
theorem dL_law_106 : decode cL_law 106 = .ok (.iconst 0, 1) := by decide +kernel
theorem dL_law_107 : decode cL_law 107 = .ok (.istore 12, 2) := by decide +kernel
theorem dL_law_109 : decode cL_law 109 = .ok (.aload_n 1, 1) := by decide +kernel
theorem dL_law_110 : decode cL_law 110 = .ok (.iconst 0, 1) := by decide +kernel
theorem dL_law_111 : decode cL_law 111 = .ok (.invokevirtual 77, 3) := by decide +kernel
theorem dL_law_114 : decode cL_law 114 = .ok (.istore 13, 2) := by decide +kernel
theorem dL_law_116 : decode cL_law 116 = .ok (.iconst 0, 1) := by decide +kernel
theorem dL_law_117 : decode cL_law 117 = .ok (.istore 14, 2) := by decide +kernel
theorem dL_law_119 : decode cL_law 119 = .ok (.iload 14, 2) := by decide +kernel
theorem dL_law_121 : decode cL_law 121 = .ok (.bipush 24, 2) := by decide +kernel
theorem dL_law_123 : decode cL_law 123 = .ok (.if_icmp .ge 352, 3) := by decide +kernel
theorem dL_law_126 : decode cL_law 126 = .ok (.iload 9, 2) := by decide +kernel
theorem dL_law_128 : decode cL_law 128 = .ok (.aload_n 1, 1) := by decide +kernel
theorem dL_law_129 : decode cL_law 129 = .ok (.iload 14, 2) := by decide +kernel
theorem dL_law_131 : decode cL_law 131 = .ok (.iconst 0, 1) := by decide +kernel
theorem dL_law_132 : decode cL_law 132 = .ok (.invokevirtual 84, 3) := by decide +kernel
theorem dL_law_135 : decode cL_law 135 = .ok (.iadd, 1) := by decide +kernel
theorem dL_law_136 : decode cL_law 136 = .ok (.istore 9, 2) := by decide +kernel
theorem dL_law_138 : decode cL_law 138 = .ok (.aload_n 1, 1) := by decide +kernel
theorem dL_law_139 : decode cL_law 139 = .ok (.iload 14, 2) := by decide +kernel
theorem dL_law_141 : decode cL_law 141 = .ok (.iconst 2, 1) := by decide +kernel
theorem dL_law_142 : decode cL_law 142 = .ok (.invokevirtual 84, 3) := by decide +kernel
theorem dL_law_145 : decode cL_law 145 = .ok (.aload_n 1, 1) := by decide +kernel
theorem dL_law_146 : decode cL_law 146 = .ok (.iload 14, 2) := by decide +kernel
theorem dL_law_148 : decode cL_law 148 = .ok (.iconst 0, 1) := by decide +kernel
theorem dL_law_149 : decode cL_law 149 = .ok (.invokevirtual 84, 3) := by decide +kernel
theorem dL_law_152 : decode cL_law 152 = .ok (.if_icmp .gt 78, 3) := by decide +kernel
theorem dL_law_155 : decode cL_law 155 = .ok (.aload_n 1, 1) := by decide +kernel
theorem dL_law_156 : decode cL_law 156 = .ok (.iload 14, 2) := by decide +kernel
theorem dL_law_158 : decode cL_law 158 = .ok (.iconst 1, 1) := by decide +kernel
theorem dL_law_159 : decode cL_law 159 = .ok (.invokevirtual 84, 3) := by decide +kernel
theorem dL_law_162 : decode cL_law 162 = .ok (.aload_n 1, 1) := by decide +kernel
theorem dL_law_163 : decode cL_law 163 = .ok (.iload 14, 2) := by decide +kernel
theorem dL_law_165 : decode cL_law 165 = .ok (.iconst 0, 1) := by decide +kernel
theorem dL_law_166 : decode cL_law 166 = .ok (.invokevirtual 84, 3) := by decide +kernel
theorem dL_law_169 : decode cL_law 169 = .ok (.if_icmp .gt 61, 3) := by decide +kernel
theorem dL_law_172 : decode cL_law 172 = .ok (.aload_n 1, 1) := by decide +kernel
theorem dL_law_173 : decode cL_law 173 = .ok (.iload 14, 2) := by decide +kernel
theorem dL_law_175 : decode cL_law 175 = .ok (.iconst 0, 1) := by decide +kernel
theorem dL_law_176 : decode cL_law 176 = .ok (.invokevirtual 84, 3) := by decide +kernel
theorem dL_law_179 : decode cL_law 179 = .ok (.ifCond .le 7, 3) := by decide +kernel
theorem dL_law_182 : decode cL_law 182 = .ok (.iconst 1, 1) := by decide +kernel
theorem dL_law_183 : decode cL_law 183 = .ok (.goto 4, 3) := by decide +kernel
theorem dL_law_186 : decode cL_law 186 = .ok (.iconst 0, 1) := by decide +kernel
theorem dL_law_187 : decode cL_law 187 = .ok (.aload_n 1, 1) := by decide +kernel
theorem dL_law_188 : decode cL_law 188 = .ok (.iload 14, 2) := by decide +kernel
theorem dL_law_190 : decode cL_law 190 = .ok (.iconst 3, 1) := by decide +kernel
theorem dL_law_191 : decode cL_law 191 = .ok (.invokevirtual 84, 3) := by decide +kernel
theorem dL_law_194 : decode cL_law 194 = .ok (.ifCond .le 7, 3) := by decide +kernel
theorem dL_law_197 : decode cL_law 197 = .ok (.iconst 1, 1) := by decide +kernel
theorem dL_law_198 : decode cL_law 198 = .ok (.goto 4, 3) := by decide +kernel
theorem dL_law_201 : decode cL_law 201 = .ok (.iconst 0, 1) := by decide +kernel
theorem dL_law_202 : decode cL_law 202 = .ok (.if_icmp .ne 28, 3) := by decide +kernel
theorem dL_law_205 : decode cL_law 205 = .ok (.aload_n 1, 1) := by decide +kernel
theorem dL_law_206 : decode cL_law 206 = .ok (.iload 14, 2) := by decide +kernel
theorem dL_law_208 : decode cL_law 208 = .ok (.iconst 1, 1) := by decide +kernel
theorem dL_law_209 : decode cL_law 209 = .ok (.invokevirtual 84, 3) := by decide +kernel
theorem dL_law_212 : decode cL_law 212 = .ok (.aload_n 1, 1) := by decide +kernel
theorem dL_law_213 : decode cL_law 213 = .ok (.iload 14, 2) := by decide +kernel
theorem dL_law_215 : decode cL_law 215 = .ok (.iconst 2, 1) := by decide +kernel
theorem dL_law_216 : decode cL_law 216 = .ok (.invokevirtual 84, 3) := by decide +kernel
theorem dL_law_219 : decode cL_law 219 = .ok (.imul, 1) := by decide +kernel
theorem dL_law_220 : decode cL_law 220 = .ok (.aload_n 1, 1) := by decide +kernel
theorem dL_law_221 : decode cL_law 221 = .ok (.iload 14, 2) := by decide +kernel
theorem dL_law_223 : decode cL_law 223 = .ok (.iconst 0, 1) := by decide +kernel
theorem dL_law_224 : decode cL_law 224 = .ok (.invokevirtual 84, 3) := by decide +kernel
theorem dL_law_227 : decode cL_law 227 = .ok (.if_icmp .ge 5, 3) := by decide +kernel
theorem dL_law_230 : decode cL_law 230 = .ok (.iconst 0, 1) := by decide +kernel
theorem dL_law_231 : decode cL_law 231 = .ok (.ireturn, 1) := by decide +kernel
theorem dL_law_232 : decode cL_law 232 = .ok (.iload 5, 2) := by decide +kernel
theorem dL_law_234 : decode cL_law 234 = .ok (.iconst 3, 1) := by decide +kernel
theorem dL_law_235 : decode cL_law 235 = .ok (.ishr, 1) := by decide +kernel
theorem dL_law_236 : decode cL_law 236 = .ok (.bipush 24, 2) := by decide +kernel
theorem dL_law_238 : decode cL_law 238 = .ok (.invokestatic 15, 3) := by decide +kernel
theorem dL_law_241 : decode cL_law 241 = .ok (.istore 15, 2) := by decide +kernel
theorem dL_law_243 : decode cL_law 243 = .ok (.aload_n 1, 1) := by decide +kernel
theorem dL_law_244 : decode cL_law 244 = .ok (.iload 14, 2) := by decide +kernel
theorem dL_law_246 : decode cL_law 246 = .ok (.iload 15, 2) := by decide +kernel
theorem dL_law_248 : decode cL_law 248 = .ok (.iconst 1, 1) := by decide +kernel
theorem dL_law_249 : decode cL_law 249 = .ok (.invokevirtual 87, 3) := by decide +kernel
theorem dL_law_252 : decode cL_law 252 = .ok (.istore 16, 2) := by decide +kernel
theorem dL_law_254 : decode cL_law 254 = .ok (.iload 16, 2) := by decide +kernel
theorem dL_law_256 : decode cL_law 256 = .ok (.ifCond .ge 7, 3) := by decide +kernel
theorem dL_law_259 : decode cL_law 259 = .ok (.iconst 1, 1) := by decide +kernel
theorem dL_law_260 : decode cL_law 260 = .ok (.goto 4, 3) := by decide +kernel
theorem dL_law_263 : decode cL_law 263 = .ok (.iconst 0, 1) := by decide +kernel
theorem dL_law_264 : decode cL_law 264 = .ok (.aload_n 1, 1) := by decide +kernel
theorem dL_law_265 : decode cL_law 265 = .ok (.iload 14, 2) := by decide +kernel
theorem dL_law_267 : decode cL_law 267 = .ok (.iload 15, 2) := by decide +kernel
theorem dL_law_269 : decode cL_law 269 = .ok (.iconst 0, 1) := by decide +kernel
theorem dL_law_270 : decode cL_law 270 = .ok (.invokevirtual 87, 3) := by decide +kernel
theorem dL_law_273 : decode cL_law 273 = .ok (.ifCond .ne 7, 3) := by decide +kernel
theorem dL_law_276 : decode cL_law 276 = .ok (.iconst 1, 1) := by decide +kernel
theorem dL_law_277 : decode cL_law 277 = .ok (.goto 4, 3) := by decide +kernel
theorem dL_law_280 : decode cL_law 280 = .ok (.iconst 0, 1) := by decide +kernel
theorem dL_law_281 : decode cL_law 281 = .ok (.if_icmp .ne 27, 3) := by decide +kernel
theorem dL_law_284 : decode cL_law 284 = .ok (.iload 16, 2) := by decide +kernel
theorem dL_law_286 : decode cL_law 286 = .ok (.iload 13, 2) := by decide +kernel
theorem dL_law_288 : decode cL_law 288 = .ok (.if_icmp .ge 20, 3) := by decide +kernel
theorem dL_law_291 : decode cL_law 291 = .ok (.aload_n 1, 1) := by decide +kernel
theorem dL_law_292 : decode cL_law 292 = .ok (.iload 14, 2) := by decide +kernel
theorem dL_law_294 : decode cL_law 294 = .ok (.iload 15, 2) := by decide +kernel
theorem dL_law_296 : decode cL_law 296 = .ok (.iconst 0, 1) := by decide +kernel
theorem dL_law_297 : decode cL_law 297 = .ok (.invokevirtual 87, 3) := by decide +kernel
theorem dL_law_300 : decode cL_law 300 = .ok (.aload_n 1, 1) := by decide +kernel
theorem dL_law_301 : decode cL_law 301 = .ok (.iconst 1, 1) := by decide +kernel
theorem dL_law_302 : decode cL_law 302 = .ok (.invokevirtual 77, 3) := by decide +kernel
theorem dL_law_305 : decode cL_law 305 = .ok (.if_icmp .le 5, 3) := by decide +kernel
theorem dL_law_308 : decode cL_law 308 = .ok (.iconst 0, 1) := by decide +kernel
theorem dL_law_309 : decode cL_law 309 = .ok (.ireturn, 1) := by decide +kernel
theorem dL_law_310 : decode cL_law 310 = .ok (.iconst 0, 1) := by decide +kernel
theorem dL_law_311 : decode cL_law 311 = .ok (.istore 17, 2) := by decide +kernel
theorem dL_law_313 : decode cL_law 313 = .ok (.iload 17, 2) := by decide +kernel
theorem dL_law_315 : decode cL_law 315 = .ok (.iload 13, 2) := by decide +kernel
theorem dL_law_317 : decode cL_law 317 = .ok (.if_icmp .ge 152, 3) := by decide +kernel
end
section
theorem dL_law_320 : decode cL_law 320 = .ok (.aload_n 1, 1) := by decide +kernel
theorem dL_law_321 : decode cL_law 321 = .ok (.iload 17, 2) := by decide +kernel
theorem dL_law_323 : decode cL_law 323 = .ok (.bipush 6, 2) := by decide +kernel
theorem dL_law_325 : decode cL_law 325 = .ok (.invokevirtual 89, 3) := by decide +kernel
theorem dL_law_328 : decode cL_law 328 = .ok (.iconst 1, 1) := by decide +kernel
theorem dL_law_329 : decode cL_law 329 = .ok (.if_icmp .ne 71, 3) := by decide +kernel
theorem dL_law_332 : decode cL_law 332 = .ok (.iload 14, 2) := by decide +kernel
theorem dL_law_334 : decode cL_law 334 = .ok (.aload_n 1, 1) := by decide +kernel
theorem dL_law_335 : decode cL_law 335 = .ok (.iload 17, 2) := by decide +kernel
theorem dL_law_337 : decode cL_law 337 = .ok (.iconst 0, 1) := by decide +kernel
theorem dL_law_338 : decode cL_law 338 = .ok (.invokevirtual 89, 3) := by decide +kernel
theorem dL_law_341 : decode cL_law 341 = .ok (.if_icmp .lt 59, 3) := by decide +kernel
theorem dL_law_344 : decode cL_law 344 = .ok (.iload 14, 2) := by decide +kernel
theorem dL_law_346 : decode cL_law 346 = .ok (.aload_n 1, 1) := by decide +kernel
theorem dL_law_347 : decode cL_law 347 = .ok (.iload 17, 2) := by decide +kernel
theorem dL_law_349 : decode cL_law 349 = .ok (.iconst 0, 1) := by decide +kernel
theorem dL_law_350 : decode cL_law 350 = .ok (.invokevirtual 89, 3) := by decide +kernel
theorem dL_law_353 : decode cL_law 353 = .ok (.aload_n 1, 1) := by decide +kernel
theorem dL_law_354 : decode cL_law 354 = .ok (.iload 17, 2) := by decide +kernel
theorem dL_law_356 : decode cL_law 356 = .ok (.iconst 2, 1) := by decide +kernel
theorem dL_law_357 : decode cL_law 357 = .ok (.invokevirtual 89, 3) := by decide +kernel
theorem dL_law_360 : decode cL_law 360 = .ok (.iadd, 1) := by decide +kernel
theorem dL_law_361 : decode cL_law 361 = .ok (.if_icmp .ge 39, 3) := by decide +kernel
theorem dL_law_364 : decode cL_law 364 = .ok (.iload 15, 2) := by decide +kernel
theorem dL_law_366 : decode cL_law 366 = .ok (.aload_n 1, 1) := by decide +kernel
theorem dL_law_367 : decode cL_law 367 = .ok (.iload 17, 2) := by decide +kernel
theorem dL_law_369 : decode cL_law 369 = .ok (.iconst 1, 1) := by decide +kernel
theorem dL_law_370 : decode cL_law 370 = .ok (.invokevirtual 89, 3) := by decide +kernel
theorem dL_law_373 : decode cL_law 373 = .ok (.if_icmp .lt 27, 3) := by decide +kernel
theorem dL_law_376 : decode cL_law 376 = .ok (.iload 15, 2) := by decide +kernel
theorem dL_law_378 : decode cL_law 378 = .ok (.aload_n 1, 1) := by decide +kernel
theorem dL_law_379 : decode cL_law 379 = .ok (.iload 17, 2) := by decide +kernel
theorem dL_law_381 : decode cL_law 381 = .ok (.iconst 1, 1) := by decide +kernel
theorem dL_law_382 : decode cL_law 382 = .ok (.invokevirtual 89, 3) := by decide +kernel
theorem dL_law_385 : decode cL_law 385 = .ok (.aload_n 1, 1) := by decide +kernel
theorem dL_law_386 : decode cL_law 386 = .ok (.iload 17, 2) := by decide +kernel
theorem dL_law_388 : decode cL_law 388 = .ok (.iconst 3, 1) := by decide +kernel
theorem dL_law_389 : decode cL_law 389 = .ok (.invokevirtual 89, 3) := by decide +kernel
theorem dL_law_392 : decode cL_law 392 = .ok (.iadd, 1) := by decide +kernel
theorem dL_law_393 : decode cL_law 393 = .ok (.if_icmp .ge 7, 3) := by decide +kernel
theorem dL_law_396 : decode cL_law 396 = .ok (.iconst 1, 1) := by decide +kernel
theorem dL_law_397 : decode cL_law 397 = .ok (.goto 4, 3) := by decide +kernel
theorem dL_law_400 : decode cL_law 400 = .ok (.iconst 0, 1) := by decide +kernel
theorem dL_law_401 : decode cL_law 401 = .ok (.istore 18, 2) := by decide +kernel
theorem dL_law_403 : decode cL_law 403 = .ok (.iload 17, 2) := by decide +kernel
theorem dL_law_405 : decode cL_law 405 = .ok (.iload 16, 2) := by decide +kernel
theorem dL_law_407 : decode cL_law 407 = .ok (.if_icmp .ne 8, 3) := by decide +kernel
theorem dL_law_410 : decode cL_law 410 = .ok (.iload 18, 2) := by decide +kernel
theorem dL_law_412 : decode cL_law 412 = .ok (.ifCond .eq 49, 3) := by decide +kernel
theorem dL_law_415 : decode cL_law 415 = .ok (.iload 18, 2) := by decide +kernel
theorem dL_law_417 : decode cL_law 417 = .ok (.ifCond .eq 46, 3) := by decide +kernel
theorem dL_law_420 : decode cL_law 420 = .ok (.aload_n 1, 1) := by decide +kernel
theorem dL_law_421 : decode cL_law 421 = .ok (.iload 17, 2) := by decide +kernel
theorem dL_law_423 : decode cL_law 423 = .ok (.iconst 4, 1) := by decide +kernel
theorem dL_law_424 : decode cL_law 424 = .ok (.invokevirtual 89, 3) := by decide +kernel
theorem dL_law_427 : decode cL_law 427 = .ok (.aload_n 1, 1) := by decide +kernel
theorem dL_law_428 : decode cL_law 428 = .ok (.iload 16, 2) := by decide +kernel
theorem dL_law_430 : decode cL_law 430 = .ok (.iconst 4, 1) := by decide +kernel
theorem dL_law_431 : decode cL_law 431 = .ok (.invokevirtual 89, 3) := by decide +kernel
theorem dL_law_434 : decode cL_law 434 = .ok (.if_icmp .gt 27, 3) := by decide +kernel
theorem dL_law_437 : decode cL_law 437 = .ok (.aload_n 1, 1) := by decide +kernel
theorem dL_law_438 : decode cL_law 438 = .ok (.iload 17, 2) := by decide +kernel
theorem dL_law_440 : decode cL_law 440 = .ok (.iconst 4, 1) := by decide +kernel
theorem dL_law_441 : decode cL_law 441 = .ok (.invokevirtual 89, 3) := by decide +kernel
theorem dL_law_444 : decode cL_law 444 = .ok (.aload_n 1, 1) := by decide +kernel
theorem dL_law_445 : decode cL_law 445 = .ok (.iload 16, 2) := by decide +kernel
theorem dL_law_447 : decode cL_law 447 = .ok (.iconst 4, 1) := by decide +kernel
theorem dL_law_448 : decode cL_law 448 = .ok (.invokevirtual 89, 3) := by decide +kernel
theorem dL_law_451 : decode cL_law 451 = .ok (.if_icmp .ne 12, 3) := by decide +kernel
theorem dL_law_454 : decode cL_law 454 = .ok (.iload 17, 2) := by decide +kernel
theorem dL_law_456 : decode cL_law 456 = .ok (.iload 16, 2) := by decide +kernel
theorem dL_law_458 : decode cL_law 458 = .ok (.if_icmp .ge 5, 3) := by decide +kernel
theorem dL_law_461 : decode cL_law 461 = .ok (.iconst 0, 1) := by decide +kernel
theorem dL_law_462 : decode cL_law 462 = .ok (.ireturn, 1) := by decide +kernel
theorem dL_law_463 : decode cL_law 463 = .ok (.iinc 17 1, 3) := by decide +kernel
theorem dL_law_466 : decode cL_law 466 = .ok (.goto (-153), 3) := by decide +kernel
theorem dL_law_469 : decode cL_law 469 = .ok (.iinc 14 1, 3) := by decide +kernel
theorem dL_law_472 : decode cL_law 472 = .ok (.goto (-353), 3) := by decide +kernel
theorem dL_law_475 : decode cL_law 475 = .ok (.iconst 0, 1) := by decide +kernel
theorem dL_law_476 : decode cL_law 476 = .ok (.istore 14, 2) := by decide +kernel
theorem dL_law_478 : decode cL_law 478 = .ok (.iload 14, 2) := by decide +kernel
theorem dL_law_480 : decode cL_law 480 = .ok (.iload 13, 2) := by decide +kernel
theorem dL_law_482 : decode cL_law 482 = .ok (.if_icmp .ge 142, 3) := by decide +kernel
theorem dL_law_485 : decode cL_law 485 = .ok (.aload_n 1, 1) := by decide +kernel
theorem dL_law_486 : decode cL_law 486 = .ok (.iload 14, 2) := by decide +kernel
theorem dL_law_488 : decode cL_law 488 = .ok (.bipush 6, 2) := by decide +kernel
theorem dL_law_490 : decode cL_law 490 = .ok (.invokevirtual 89, 3) := by decide +kernel
theorem dL_law_493 : decode cL_law 493 = .ok (.iconst 1, 1) := by decide +kernel
theorem dL_law_494 : decode cL_law 494 = .ok (.if_icmp .ne 21, 3) := by decide +kernel
theorem dL_law_497 : decode cL_law 497 = .ok (.aload_n 1, 1) := by decide +kernel
theorem dL_law_498 : decode cL_law 498 = .ok (.iload 14, 2) := by decide +kernel
theorem dL_law_500 : decode cL_law 500 = .ok (.iconst 2, 1) := by decide +kernel
theorem dL_law_501 : decode cL_law 501 = .ok (.invokevirtual 89, 3) := by decide +kernel
theorem dL_law_504 : decode cL_law 504 = .ok (.aload_n 1, 1) := by decide +kernel
theorem dL_law_505 : decode cL_law 505 = .ok (.iload 14, 2) := by decide +kernel
theorem dL_law_507 : decode cL_law 507 = .ok (.iconst 3, 1) := by decide +kernel
theorem dL_law_508 : decode cL_law 508 = .ok (.invokevirtual 89, 3) := by decide +kernel
theorem dL_law_511 : decode cL_law 511 = .ok (.imul, 1) := by decide +kernel
theorem dL_law_512 : decode cL_law 512 = .ok (.goto 4, 3) := by decide +kernel
theorem dL_law_515 : decode cL_law 515 = .ok (.iconst 0, 1) := by decide +kernel
theorem dL_law_516 : decode cL_law 516 = .ok (.istore 15, 2) := by decide +kernel
theorem dL_law_518 : decode cL_law 518 = .ok (.iload 11, 2) := by decide +kernel
theorem dL_law_520 : decode cL_law 520 = .ok (.iload 15, 2) := by decide +kernel
theorem dL_law_522 : decode cL_law 522 = .ok (.iadd, 1) := by decide +kernel
theorem dL_law_523 : decode cL_law 523 = .ok (.istore 11, 2) := by decide +kernel
theorem dL_law_525 : decode cL_law 525 = .ok (.iload 10, 2) := by decide +kernel
theorem dL_law_527 : decode cL_law 527 = .ok (.aload_n 1, 1) := by decide +kernel
theorem dL_law_528 : decode cL_law 528 = .ok (.iload 14, 2) := by decide +kernel
theorem dL_law_530 : decode cL_law 530 = .ok (.bipush 7, 2) := by decide +kernel
theorem dL_law_532 : decode cL_law 532 = .ok (.invokevirtual 89, 3) := by decide +kernel
theorem dL_law_535 : decode cL_law 535 = .ok (.iadd, 1) := by decide +kernel
theorem dL_law_536 : decode cL_law 536 = .ok (.istore 10, 2) := by decide +kernel
theorem dL_law_538 : decode cL_law 538 = .ok (.iload 12, 2) := by decide +kernel
theorem dL_law_540 : decode cL_law 540 = .ok (.iload 15, 2) := by decide +kernel
theorem dL_law_542 : decode cL_law 542 = .ok (.invokestatic 92, 3) := by decide +kernel
theorem dL_law_545 : decode cL_law 545 = .ok (.istore 12, 2) := by decide +kernel
theorem dL_law_547 : decode cL_law 547 = .ok (.iload 5, 2) := by decide +kernel
theorem dL_law_549 : decode cL_law 549 = .ok (.iconst 2, 1) := by decide +kernel
theorem dL_law_550 : decode cL_law 550 = .ok (.ishr, 1) := by decide +kernel
theorem dL_law_551 : decode cL_law 551 = .ok (.iload 13, 2) := by decide +kernel
theorem dL_law_553 : decode cL_law 553 = .ok (.invokestatic 15, 3) := by decide +kernel
theorem dL_law_556 : decode cL_law 556 = .ok (.istore 16, 2) := by decide +kernel
theorem dL_law_558 : decode cL_law 558 = .ok (.aload_n 1, 1) := by decide +kernel
theorem dL_law_559 : decode cL_law 559 = .ok (.iload 14, 2) := by decide +kernel
theorem dL_law_561 : decode cL_law 561 = .ok (.bipush 7, 2) := by decide +kernel
theorem dL_law_563 : decode cL_law 563 = .ok (.invokevirtual 89, 3) := by decide +kernel
theorem dL_law_566 : decode cL_law 566 = .ok (.iload 15, 2) := by decide +kernel
theorem dL_law_568 : decode cL_law 568 = .ok (.if_icmp .gt 48, 3) := by decide +kernel
theorem dL_law_571 : decode cL_law 571 = .ok (.aload_n 1, 1) := by decide +kernel
theorem dL_law_572 : decode cL_law 572 = .ok (.iload 14, 2) := by decide +kernel
theorem dL_law_574 : decode cL_law 574 = .ok (.iload 14, 2) := by decide +kernel
theorem dL_law_576 : decode cL_law 576 = .ok (.invokevirtual 97, 3) := by decide +kernel
theorem dL_law_579 : decode cL_law 579 = .ok (.iload 15, 2) := by decide +kernel
theorem dL_law_581 : decode cL_law 581 = .ok (.if_icmp .ne 35, 3) := by decide +kernel
theorem dL_law_584 : decode cL_law 584 = .ok (.aload_n 1, 1) := by decide +kernel
theorem dL_law_585 : decode cL_law 585 = .ok (.iload 14, 2) := by decide +kernel
theorem dL_law_587 : decode cL_law 587 = .ok (.iload 16, 2) := by decide +kernel
theorem dL_law_589 : decode cL_law 589 = .ok (.invokevirtual 97, 3) := by decide +kernel
theorem dL_law_592 : decode cL_law 592 = .ok (.aload_n 1, 1) := by decide +kernel
theorem dL_law_593 : decode cL_law 593 = .ok (.iload 16, 2) := by decide +kernel
theorem dL_law_595 : decode cL_law 595 = .ok (.iload 14, 2) := by decide +kernel
theorem dL_law_597 : decode cL_law 597 = .ok (.invokevirtual 97, 3) := by decide +kernel
theorem dL_law_600 : decode cL_law 600 = .ok (.if_icmp .ne 16, 3) := by decide +kernel
theorem dL_law_603 : decode cL_law 603 = .ok (.aload_n 1, 1) := by decide +kernel
theorem dL_law_604 : decode cL_law 604 = .ok (.iload 14, 2) := by decide +kernel
theorem dL_law_606 : decode cL_law 606 = .ok (.iload 16, 2) := by decide +kernel
theorem dL_law_608 : decode cL_law 608 = .ok (.invokevirtual 97, 3) := by decide +kernel
theorem dL_law_611 : decode cL_law 611 = .ok (.iload 15, 2) := by decide +kernel
theorem dL_law_613 : decode cL_law 613 = .ok (.if_icmp .le 5, 3) := by decide +kernel
theorem dL_law_616 : decode cL_law 616 = .ok (.iconst 0, 1) := by decide +kernel
theorem dL_law_617 : decode cL_law 617 = .ok (.ireturn, 1) := by decide +kernel
theorem dL_law_618 : decode cL_law 618 = .ok (.iinc 14 1, 3) := by decide +kernel
theorem dL_law_621 : decode cL_law 621 = .ok (.goto (-143), 3) := by decide +kernel
theorem dL_law_624 : decode cL_law 624 = .ok (.iload 9, 2) := by decide +kernel
theorem dL_law_626 : decode cL_law 626 = .ok (.iload 8, 2) := by decide +kernel
theorem dL_law_628 : decode cL_law 628 = .ok (.if_icmp .ne 39, 3) := by decide +kernel
theorem dL_law_631 : decode cL_law 631 = .ok (.iload 8, 2) := by decide +kernel
theorem dL_law_633 : decode cL_law 633 = .ok (.iload 11, 2) := by decide +kernel
theorem dL_law_635 : decode cL_law 635 = .ok (.if_icmp .gt 32, 3) := by decide +kernel
theorem dL_law_638 : decode cL_law 638 = .ok (.iload 8, 2) := by decide +kernel
theorem dL_law_640 : decode cL_law 640 = .ok (.iload 12, 2) := by decide +kernel
theorem dL_law_642 : decode cL_law 642 = .ok (.if_icmp .lt 25, 3) := by decide +kernel
theorem dL_law_645 : decode cL_law 645 = .ok (.iload 8, 2) := by decide +kernel
theorem dL_law_647 : decode cL_law 647 = .ok (.sipush 576, 3) := by decide +kernel
theorem dL_law_650 : decode cL_law 650 = .ok (.if_icmp .gt 17, 3) := by decide +kernel
theorem dL_law_653 : decode cL_law 653 = .ok (.iload 10, 2) := by decide +kernel
theorem dL_law_655 : decode cL_law 655 = .ok (.aload_n 1, 1) := by decide +kernel
theorem dL_law_656 : decode cL_law 656 = .ok (.bipush 6, 2) := by decide +kernel
theorem dL_law_658 : decode cL_law 658 = .ok (.invokevirtual 77, 3) := by decide +kernel
theorem dL_law_661 : decode cL_law 661 = .ok (.iadd, 1) := by decide +kernel
theorem dL_law_662 : decode cL_law 662 = .ok (.iload 8, 2) := by decide +kernel
theorem dL_law_664 : decode cL_law 664 = .ok (.if_icmp .eq 5, 3) := by decide +kernel
theorem dL_law_667 : decode cL_law 667 = .ok (.iconst 0, 1) := by decide +kernel
theorem dL_law_668 : decode cL_law 668 = .ok (.ireturn, 1) := by decide +kernel
theorem dL_law_669 : decode cL_law 669 = .ok (.aload_n 1, 1) := by decide +kernel
theorem dL_law_670 : decode cL_law 670 = .ok (.iconst 4, 1) := by decide +kernel
theorem dL_law_671 : decode cL_law 671 = .ok (.invokevirtual 77, 3) := by decide +kernel
theorem dL_law_674 : decode cL_law 674 = .ok (.istore 14, 2) := by decide +kernel
theorem dL_law_676 : decode cL_law 676 = .ok (.iload 14, 2) := by decide +kernel
theorem dL_law_678 : decode cL_law 678 = .ok (.iconst 2, 1) := by decide +kernel
theorem dL_law_679 : decode cL_law 679 = .ok (.irem, 1) := by decide +kernel
theorem dL_law_680 : decode cL_law 680 = .ok (.ifCond .ne 61, 3) := by decide +kernel
theorem dL_law_683 : decode cL_law 683 = .ok (.iload 14, 2) := by decide +kernel
theorem dL_law_685 : decode cL_law 685 = .ok (.iconst 4, 1) := by decide +kernel
theorem dL_law_686 : decode cL_law 686 = .ok (.iload 8, 2) := by decide +kernel
theorem dL_law_688 : decode cL_law 688 = .ok (.imul, 1) := by decide +kernel
theorem dL_law_689 : decode cL_law 689 = .ok (.if_icmp .gt 52, 3) := by decide +kernel
theorem dL_law_692 : decode cL_law 692 = .ok (.iload 14, 2) := by decide +kernel
theorem dL_law_694 : decode cL_law 694 = .ok (.iload 14, 2) := by decide +kernel
theorem dL_law_696 : decode cL_law 696 = .ok (.imul, 1) := by decide +kernel
theorem dL_law_697 : decode cL_law 697 = .ok (.bipush 16, 2) := by decide +kernel
theorem dL_law_699 : decode cL_law 699 = .ok (.iload 8, 2) := by decide +kernel
theorem dL_law_701 : decode cL_law 701 = .ok (.imul, 1) := by decide +kernel
theorem dL_law_702 : decode cL_law 702 = .ok (.if_icmp .lt 39, 3) := by decide +kernel
theorem dL_law_705 : decode cL_law 705 = .ok (.aload_n 1, 1) := by decide +kernel
theorem dL_law_706 : decode cL_law 706 = .ok (.iconst 5, 1) := by decide +kernel
theorem dL_law_707 : decode cL_law 707 = .ok (.invokevirtual 77, 3) := by decide +kernel
theorem dL_law_710 : decode cL_law 710 = .ok (.iload 8, 2) := by decide +kernel
theorem dL_law_712 : decode cL_law 712 = .ok (.if_icmp .gt 29, 3) := by decide +kernel
theorem dL_law_715 : decode cL_law 715 = .ok (.aload_n 1, 1) := by decide +kernel
theorem dL_law_716 : decode cL_law 716 = .ok (.iconst 5, 1) := by decide +kernel
theorem dL_law_717 : decode cL_law 717 = .ok (.invokevirtual 77, 3) := by decide +kernel
theorem dL_law_720 : decode cL_law 720 = .ok (.ifCond .ne 7, 3) := by decide +kernel
theorem dL_law_723 : decode cL_law 723 = .ok (.iconst 1, 1) := by decide +kernel
theorem dL_law_724 : decode cL_law 724 = .ok (.goto 4, 3) := by decide +kernel
theorem dL_law_727 : decode cL_law 727 = .ok (.iconst 0, 1) := by decide +kernel
theorem dL_law_728 : decode cL_law 728 = .ok (.iload 8, 2) := by decide +kernel
theorem dL_law_730 : decode cL_law 730 = .ok (.ifCond .ne 7, 3) := by decide +kernel
theorem dL_law_733 : decode cL_law 733 = .ok (.iconst 1, 1) := by decide +kernel
theorem dL_law_734 : decode cL_law 734 = .ok (.goto 4, 3) := by decide +kernel
theorem dL_law_737 : decode cL_law 737 = .ok (.iconst 0, 1) := by decide +kernel
theorem dL_law_738 : decode cL_law 738 = .ok (.if_icmp .eq 5, 3) := by decide +kernel
theorem dL_law_741 : decode cL_law 741 = .ok (.iconst 0, 1) := by decide +kernel
theorem dL_law_742 : decode cL_law 742 = .ok (.ireturn, 1) := by decide +kernel
theorem dL_law_743 : decode cL_law 743 = .ok (.iconst 0, 1) := by decide +kernel
theorem dL_law_744 : decode cL_law 744 = .ok (.istore 15, 2) := by decide +kernel
theorem dL_law_746 : decode cL_law 746 = .ok (.iload 15, 2) := by decide +kernel
theorem dL_law_748 : decode cL_law 748 = .ok (.aload_n 1, 1) := by decide +kernel
theorem dL_law_749 : decode cL_law 749 = .ok (.iconst 2, 1) := by decide +kernel
theorem dL_law_750 : decode cL_law 750 = .ok (.invokevirtual 77, 3) := by decide +kernel
theorem dL_law_753 : decode cL_law 753 = .ok (.if_icmp .ge 50, 3) := by decide +kernel
theorem dL_law_756 : decode cL_law 756 = .ok (.aload_n 1, 1) := by decide +kernel
theorem dL_law_757 : decode cL_law 757 = .ok (.iload 15, 2) := by decide +kernel
theorem dL_law_759 : decode cL_law 759 = .ok (.iconst 2, 1) := by decide +kernel
theorem dL_law_760 : decode cL_law 760 = .ok (.invokevirtual 100, 3) := by decide +kernel
theorem dL_law_763 : decode cL_law 763 = .ok (.aload_n 1, 1) := by decide +kernel
theorem dL_law_764 : decode cL_law 764 = .ok (.aload_n 1, 1) := by decide +kernel
theorem dL_law_765 : decode cL_law 765 = .ok (.iload 15, 2) := by decide +kernel
theorem dL_law_767 : decode cL_law 767 = .ok (.iconst 0, 1) := by decide +kernel
theorem dL_law_768 : decode cL_law 768 = .ok (.invokevirtual 100, 3) := by decide +kernel
theorem dL_law_771 : decode cL_law 771 = .ok (.aload_n 1, 1) := by decide +kernel
theorem dL_law_772 : decode cL_law 772 = .ok (.iload 15, 2) := by decide +kernel
theorem dL_law_774 : decode cL_law 774 = .ok (.iconst 1, 1) := by decide +kernel
theorem dL_law_775 : decode cL_law 775 = .ok (.invokevirtual 100, 3) := by decide +kernel
theorem dL_law_778 : decode cL_law 778 = .ok (.iconst 2, 1) := by decide +kernel
theorem dL_law_779 : decode cL_law 779 = .ok (.invokevirtual 87, 3) := by decide +kernel
theorem dL_law_782 : decode cL_law 782 = .ok (.if_icmp .gt 13, 3) := by decide +kernel
theorem dL_law_785 : decode cL_law 785 = .ok (.aload_n 1, 1) := by decide +kernel
theorem dL_law_786 : decode cL_law 786 = .ok (.iload 15, 2) := by decide +kernel
theorem dL_law_788 : decode cL_law 788 = .ok (.iconst 2, 1) := by decide +kernel
theorem dL_law_789 : decode cL_law 789 = .ok (.invokevirtual 100, 3) := by decide +kernel
theorem dL_law_792 : decode cL_law 792 = .ok (.ifCond .ge 5, 3) := by decide +kernel
theorem dL_law_795 : decode cL_law 795 = .ok (.iconst 0, 1) := by decide +kernel
theorem dL_law_796 : decode cL_law 796 = .ok (.ireturn, 1) := by decide +kernel
theorem dL_law_797 : decode cL_law 797 = .ok (.iinc 15 1, 3) := by decide +kernel
theorem dL_law_800 : decode cL_law 800 = .ok (.goto (-54), 3) := by decide +kernel
theorem dL_law_803 : decode cL_law 803 = .ok (.aload_n 1, 1) := by decide +kernel
theorem dL_law_804 : decode cL_law 804 = .ok (.invokevirtual 103, 3) := by decide +kernel
theorem dL_law_807 : decode cL_law 807 = .ok (.istore 15, 2) := by decide +kernel
theorem dL_law_809 : decode cL_law 809 = .ok (.iload 15, 2) := by decide +kernel
theorem dL_law_811 : decode cL_law 811 = .ok (.ifCond .ge 7, 3) := by decide +kernel
theorem dL_law_814 : decode cL_law 814 = .ok (.iconst 1, 1) := by decide +kernel
theorem dL_law_815 : decode cL_law 815 = .ok (.goto 4, 3) := by decide +kernel
theorem dL_law_818 : decode cL_law 818 = .ok (.iconst 0, 1) := by decide +kernel
theorem dL_law_819 : decode cL_law 819 = .ok (.aload_n 1, 1) := by decide +kernel
theorem dL_law_820 : decode cL_law 820 = .ok (.iconst 1, 1) := by decide +kernel
theorem dL_law_821 : decode cL_law 821 = .ok (.invokevirtual 77, 3) := by decide +kernel
theorem dL_law_824 : decode cL_law 824 = .ok (.ifCond .ne 7, 3) := by decide +kernel
theorem dL_law_827 : decode cL_law 827 = .ok (.iconst 1, 1) := by decide +kernel
theorem dL_law_828 : decode cL_law 828 = .ok (.goto 4, 3) := by decide +kernel
theorem dL_law_831 : decode cL_law 831 = .ok (.iconst 0, 1) := by decide +kernel
theorem dL_law_832 : decode cL_law 832 = .ok (.if_icmp .ne 13, 3) := by decide +kernel
theorem dL_law_835 : decode cL_law 835 = .ok (.aload_n 1, 1) := by decide +kernel
theorem dL_law_836 : decode cL_law 836 = .ok (.invokevirtual 80, 3) := by decide +kernel
theorem dL_law_839 : decode cL_law 839 = .ok (.lload 6, 2) := by decide +kernel
theorem dL_law_841 : decode cL_law 841 = .ok (.lcmp, 1) := by decide +kernel
theorem dL_law_842 : decode cL_law 842 = .ok (.ifCond .eq 5, 3) := by decide +kernel
theorem dL_law_845 : decode cL_law 845 = .ok (.iconst 0, 1) := by decide +kernel
theorem dL_law_846 : decode cL_law 846 = .ok (.ireturn, 1) := by decide +kernel
theorem dL_law_847 : decode cL_law 847 = .ok (.iload 15, 2) := by decide +kernel
theorem dL_law_849 : decode cL_law 849 = .ok (.ifCond .lt 99, 3) := by decide +kernel
theorem dL_law_852 : decode cL_law 852 = .ok (.aload_n 1, 1) := by decide +kernel
theorem dL_law_853 : decode cL_law 853 = .ok (.iload 15, 2) := by decide +kernel
theorem dL_law_855 : decode cL_law 855 = .ok (.bipush 7, 2) := by decide +kernel
theorem dL_law_857 : decode cL_law 857 = .ok (.invokevirtual 89, 3) := by decide +kernel
theorem dL_law_860 : decode cL_law 860 = .ok (.istore 16, 2) := by decide +kernel
theorem dL_law_862 : decode cL_law 862 = .ok (.iconst 0, 1) := by decide +kernel
theorem dL_law_863 : decode cL_law 863 = .ok (.istore 17, 2) := by decide +kernel
theorem dL_law_865 : decode cL_law 865 = .ok (.iload 17, 2) := by decide +kernel
theorem dL_law_867 : decode cL_law 867 = .ok (.iload 13, 2) := by decide +kernel
theorem dL_law_869 : decode cL_law 869 = .ok (.if_icmp .ge 36, 3) := by decide +kernel
theorem dL_law_872 : decode cL_law 872 = .ok (.aload_n 1, 1) := by decide +kernel
theorem dL_law_873 : decode cL_law 873 = .ok (.iload 17, 2) := by decide +kernel
theorem dL_law_875 : decode cL_law 875 = .ok (.bipush 6, 2) := by decide +kernel
theorem dL_law_877 : decode cL_law 877 = .ok (.invokevirtual 89, 3) := by decide +kernel
theorem dL_law_880 : decode cL_law 880 = .ok (.iconst 1, 1) := by decide +kernel
theorem dL_law_881 : decode cL_law 881 = .ok (.if_icmp .ne 18, 3) := by decide +kernel
theorem dL_law_884 : decode cL_law 884 = .ok (.aload_n 1, 1) := by decide +kernel
theorem dL_law_885 : decode cL_law 885 = .ok (.iload 17, 2) := by decide +kernel
theorem dL_law_887 : decode cL_law 887 = .ok (.bipush 7, 2) := by decide +kernel
theorem dL_law_889 : decode cL_law 889 = .ok (.invokevirtual 89, 3) := by decide +kernel
theorem dL_law_892 : decode cL_law 892 = .ok (.iload 16, 2) := by decide +kernel
theorem dL_law_894 : decode cL_law 894 = .ok (.if_icmp .ge 5, 3) := by decide +kernel
theorem dL_law_897 : decode cL_law 897 = .ok (.iconst 0, 1) := by decide +kernel
theorem dL_law_898 : decode cL_law 898 = .ok (.ireturn, 1) := by decide +kernel
theorem dL_law_899 : decode cL_law 899 = .ok (.iinc 17 1, 3) := by decide +kernel
theorem dL_law_902 : decode cL_law 902 = .ok (.goto (-37), 3) := by decide +kernel
theorem dL_law_905 : decode cL_law 905 = .ok (.aload_n 1, 1) := by decide +kernel
theorem dL_law_906 : decode cL_law 906 = .ok (.iload 15, 2) := by decide +kernel
theorem dL_law_908 : decode cL_law 908 = .ok (.invokevirtual 31, 3) := by decide +kernel
theorem dL_law_911 : decode cL_law 911 = .ok (.ifCond .ne 35, 3) := by decide +kernel
theorem dL_law_914 : decode cL_law 914 = .ok (.aload_n 1, 1) := by decide +kernel
theorem dL_law_915 : decode cL_law 915 = .ok (.iconst 3, 1) := by decide +kernel
theorem dL_law_916 : decode cL_law 916 = .ok (.invokevirtual 77, 3) := by decide +kernel
theorem dL_law_919 : decode cL_law 919 = .ok (.iload 8, 2) := by decide +kernel
theorem dL_law_921 : decode cL_law 921 = .ok (.iload 16, 2) := by decide +kernel
theorem dL_law_923 : decode cL_law 923 = .ok (.isub, 1) := by decide +kernel
theorem dL_law_924 : decode cL_law 924 = .ok (.if_icmp .ne 22, 3) := by decide +kernel
theorem dL_law_927 : decode cL_law 927 = .ok (.aload_n 1, 1) := by decide +kernel
theorem dL_law_928 : decode cL_law 928 = .ok (.iload 15, 2) := by decide +kernel
theorem dL_law_930 : decode cL_law 930 = .ok (.invokevirtual 31, 3) := by decide +kernel
theorem dL_law_933 : decode cL_law 933 = .ok (.ifCond .eq 13, 3) := by decide +kernel
theorem dL_law_936 : decode cL_law 936 = .ok (.aload_n 1, 1) := by decide +kernel
theorem dL_law_937 : decode cL_law 937 = .ok (.invokevirtual 80, 3) := by decide +kernel
theorem dL_law_940 : decode cL_law 940 = .ok (.lload 6, 2) := by decide +kernel
theorem dL_law_942 : decode cL_law 942 = .ok (.lcmp, 1) := by decide +kernel
theorem dL_law_943 : decode cL_law 943 = .ok (.ifCond .eq 5, 3) := by decide +kernel
theorem dL_law_946 : decode cL_law 946 = .ok (.iconst 0, 1) := by decide +kernel
theorem dL_law_947 : decode cL_law 947 = .ok (.ireturn, 1) := by decide +kernel
theorem dL_law_948 : decode cL_law 948 = .ok (.iconst 1, 1) := by decide +kernel
theorem dL_law_949 : decode cL_law 949 = .ok (.iload 5, 2) := by decide +kernel
theorem dL_law_951 : decode cL_law 951 = .ok (.iconst 5, 1) := by decide +kernel
theorem dL_law_952 : decode cL_law 952 = .ok (.ishr, 1) := by decide +kernel
theorem dL_law_953 : decode cL_law 953 = .ok (.bipush 20, 2) := by decide +kernel
theorem dL_law_955 : decode cL_law 955 = .ok (.invokestatic 15, 3) := by decide +kernel
theorem dL_law_958 : decode cL_law 958 = .ok (.iadd, 1) := by decide +kernel
theorem dL_law_959 : decode cL_law 959 = .ok (.istore 16, 2) := by decide +kernel
theorem dL_law_961 : decode cL_law 961 = .ok (.aload_n 1, 1) := by decide +kernel
theorem dL_law_962 : decode cL_law 962 = .ok (.iload 16, 2) := by decide +kernel
theorem dL_law_964 : decode cL_law 964 = .ok (.invokevirtual 59, 3) := by decide +kernel
theorem dL_law_967 : decode cL_law 967 = .ok (.istore 17, 2) := by decide +kernel
theorem dL_law_969 : decode cL_law 969 = .ok (.aload_n 2, 1) := by decide +kernel
theorem dL_law_970 : decode cL_law 970 = .ok (.iload 16, 2) := by decide +kernel
theorem dL_law_972 : decode cL_law 972 = .ok (.invokevirtual 62, 3) := by decide +kernel
theorem dL_law_975 : decode cL_law 975 = .ok (.iload 17, 2) := by decide +kernel
theorem dL_law_977 : decode cL_law 977 = .ok (.if_icmp .ne 56, 3) := by decide +kernel
theorem dL_law_980 : decode cL_law 980 = .ok (.iload 17, 2) := by decide +kernel
theorem dL_law_982 : decode cL_law 982 = .ok (.ifCond .lt 51, 3) := by decide +kernel
theorem dL_law_985 : decode cL_law 985 = .ok (.iload 17, 2) := by decide +kernel
theorem dL_law_987 : decode cL_law 987 = .ok (.sipush 576, 3) := by decide +kernel
theorem dL_law_990 : decode cL_law 990 = .ok (.iload 16, 2) := by decide +kernel
theorem dL_law_992 : decode cL_law 992 = .ok (.imul, 1) := by decide +kernel
theorem dL_law_993 : decode cL_law 993 = .ok (.if_icmp .gt 40, 3) := by decide +kernel
theorem dL_law_996 : decode cL_law 996 = .ok (.aload_n 1, 1) := by decide +kernel
theorem dL_law_997 : decode cL_law 997 = .ok (.bipush 8, 2) := by decide +kernel
theorem dL_law_999 : decode cL_law 999 = .ok (.invokevirtual 77, 3) := by decide +kernel
theorem dL_law_1002 : decode cL_law 1002 = .ok (.aload_n 1, 1) := by decide +kernel
theorem dL_law_1003 : decode cL_law 1003 = .ok (.bipush 9, 2) := by decide +kernel
theorem dL_law_1005 : decode cL_law 1005 = .ok (.invokevirtual 77, 3) := by decide +kernel
theorem dL_law_1008 : decode cL_law 1008 = .ok (.iadd, 1) := by decide +kernel
theorem dL_law_1009 : decode cL_law 1009 = .ok (.iload_n 3, 1) := by decide +kernel
theorem dL_law_1010 : decode cL_law 1010 = .ok (.if_icmp .le 23, 3) := by decide +kernel
theorem dL_law_1013 : decode cL_law 1013 = .ok (.aload_n 1, 1) := by decide +kernel
theorem dL_law_1014 : decode cL_law 1014 = .ok (.bipush 8, 2) := by decide +kernel
theorem dL_law_1016 : decode cL_law 1016 = .ok (.invokevirtual 77, 3) := by decide +kernel
theorem dL_law_1019 : decode cL_law 1019 = .ok (.aload_n 1, 1) := by decide +kernel
theorem dL_law_1020 : decode cL_law 1020 = .ok (.bipush 9, 2) := by decide +kernel
theorem dL_law_1022 : decode cL_law 1022 = .ok (.invokevirtual 77, 3) := by decide +kernel
theorem dL_law_1025 : decode cL_law 1025 = .ok (.iadd, 1) := by decide +kernel
theorem dL_law_1026 : decode cL_law 1026 = .ok (.sipush 576, 3) := by decide +kernel
theorem dL_law_1029 : decode cL_law 1029 = .ok (.irem, 1) := by decide +kernel
theorem dL_law_1030 : decode cL_law 1030 = .ok (.ifCond .eq 5, 3) := by decide +kernel
theorem dL_law_1033 : decode cL_law 1033 = .ok (.iconst 0, 1) := by decide +kernel
theorem dL_law_1034 : decode cL_law 1034 = .ok (.ireturn, 1) := by decide +kernel
theorem dL_law_1035 : decode cL_law 1035 = .ok (.aload_n 1, 1) := by decide +kernel
theorem dL_law_1036 : decode cL_law 1036 = .ok (.bipush 8, 2) := by decide +kernel
theorem dL_law_1038 : decode cL_law 1038 = .ok (.invokevirtual 77, 3) := by decide +kernel
theorem dL_law_1041 : decode cL_law 1041 = .ok (.aload_n 1, 1) := by decide +kernel
theorem dL_law_1042 : decode cL_law 1042 = .ok (.bipush 9, 2) := by decide +kernel
theorem dL_law_1044 : decode cL_law 1044 = .ok (.invokevirtual 77, 3) := by decide +kernel
theorem dL_law_1047 : decode cL_law 1047 = .ok (.iadd, 1) := by decide +kernel
theorem dL_law_1048 : decode cL_law 1048 = .ok (.istore_n 3, 1) := by decide +kernel
theorem dL_law_1049 : decode cL_law 1049 = .ok (.iinc 4 1, 3) := by decide +kernel
theorem dL_law_1052 : decode cL_law 1052 = .ok (.goto (-1005), 3) := by decide +kernel
theorem dL_law_1055 : decode cL_law 1055 = .ok (.aload_n 2, 1) := by decide +kernel
theorem dL_law_1056 : decode cL_law 1056 = .ok (.aload_n 1, 1) := by decide +kernel
theorem dL_law_1057 : decode cL_law 1057 = .ok (.invokevirtual 106, 3) := by decide +kernel
theorem dL_law_1060 : decode cL_law 1060 = .ok (.ireturn, 1) := by decide +kernel
end
section
/-! THE ABSTRACT HEAP: which cells of the machine's heap a walk speaks of, and what they hold -/
abbrev zC : Type := (Nat × vp_A) ⊕ ((Nat × List Value) ⊕ Option (Nat × (Nat → Int32)))
abbrev zH : Type := Nat → Option zC
abbrev zG : Type := va_G × (Nat → ClassId)
/-- how a method ends: thrown (the class, the heap), or returned (the answer, the heap, its size) -/
abbrev zV : Type := (String × zH) ⊕ (Option Value × zH × Nat)
def z_up (h : zH) (a : Nat) (c : zC) : zH := fun q => if q = a then some c else h q
abbrev zI (n : Nat) (f : Nat → Int32) : zC := .inl (0, n, .inl f)
abbrev zQ (n : Nat) (f : Nat → Option Nat) : zC := .inl (1, n, .inr (.inr (.inr (.inr f))))
/-- an array of int[] -/
abbrev zD (n : Nat) (f : Nat → Option Nat) : zC := .inl (2, n, .inr (.inr (.inr (.inr f))))
abbrev zO (ci : Nat) (fs : List Value) : zC := .inr (.inl (ci, fs))
abbrev zE : zC := .inr (.inr none)
/-- the script -/
abbrev zT (n : Nat) (f : Nat → Int32) : zC := .inr (.inr (some (n, f)))
/-- a cell of the world for the kit's rows -/
def z_tr (G : zG) : zC → Option va_E
  | .inl a => some (.inl (G.2 a.1, a.2))
  | .inr (.inl o) => some (.inr o)
  | .inr (.inr _) => none
/-- what stands outside: the JDK's empty array, the script -/
def z_ou (lo q : Nat) (U : State) (H : Heap) : Option (Nat × (Nat → Int32)) → Prop
  | none => va_T (.object "java/lang/Object") q 0 (fun _ => .null) (fun z : Nat => lo ≤ z) U H
  | some r => va_X q r.1 r.2 U H ∧ q < H.size ∧ ¬ lo ≤ q
def z_at (G : zG) (lo : Nat) (U : State) (H : Heap) (q : Nat) (c : zC) : Prop :=
  (∀ e, z_tr G c = some e → lo ≤ q ∧ va_at G.1 vwCl (q, e) H) ∧ (∀ w, c = .inr (.inr w) → z_ou lo q U H w)
theorem z_ou.moved {lo q : Nat} {u U : State} {H : Heap} {w : Option (Nat × (Nat → Int32))} (hvm : u.vm.Alike U.vm) (h : z_ou lo q u H w) : z_ou lo q U H w := by
  cases w with
  | none => exact va_T.moved hvm h
  | some r => exact ⟨va_X.moved hvm h.1, h.2⟩
theorem z_ou.kept {lo q : Nat} {U : State} {H H1 : Heap} {w : Option (Nat × (Nat → Int32))} (h : z_ou lo q U H w) (hq : ∀ a : Nat, a < H.size → ¬ lo ≤ a → H1[a]? = H[a]?) : z_ou lo q U H1 w := by
  cases w with
  | none => exact va_T.kept h hq
  | some r =>
    have e := hq q h.2.1 h.2.2
    refine ⟨va_X.kept h.1 e, ?_, h.2.2⟩
    obtain ⟨scr, h1, -⟩ := h.1
    rw [← e] at h1
    exact (Array.getElem?_eq_some_iff.mp h1).1
def z_hp (G : zG) (lo : Nat) (U : State) (h : zH) (H : Heap) : Prop := ∀ (q : Nat) (c : zC), h q = some c → z_at G lo U H q c
abbrev z_tys (G : zG) : List (ClassId × FieldType) := [(G.2 0, .int), (G.2 1, .object "java/lang/Object"), (G.2 2, .array .int)]
def z_K (G : zG) (U : State) : Prop := va_K G.1 vwCl (z_tys G) U
def z_Z (lo t0 : Nat) (U : State) (H : Heap) : Prop :=
  va_Z "java/util/ArrayList" "DEFAULTCAPACITY_EMPTY_ELEMENTDATA" "[Ljava/lang/Object;" (.ref t0) (fun z : Nat => lo ≤ z) U H ∧
  vx_Zq Bundle.tN "UNASSIGNED_STACK" Bundle.steD (fun z : Nat => lo ≤ z) U H ∧ vx_Zq Bundle.tN "SUPPRESSED_SENTINEL" Bundle.listD (fun z : Nat => lo ≤ z) U H
/-- words that are not among the good ones: casts -/
abbrev z_ws : List Cond := [.castable RX0 "java/lang/Object", .castable RX3 "java/lang/Object",
  .castable "java/lang/IllegalArgumentException" "java/lang/IllegalArgumentException", .castable "java/lang/IndexOutOfBoundsException" "java/lang/IndexOutOfBoundsException", .castable "java/lang/IllegalStateException" "java/lang/IllegalStateException"]
/-- the texts of the class's exceptions -/
abbrev z_ss : List (String × Nat × String) := [(RX4, 115, "there are 8 stalls"), (RX4, 121, "a stall is there"), (RX4, 180, "column is not 0 to 23"), (RX4, 255, "there is no such stall"), (RX4, 267, "x or y is not 0 to 23"), (RX4, 269, "w or h is not 1 to 24"), (RX4, 271, "some cell of it is not in the square"), (RX4, 273, "drops is not 1 to 20"), (RX4, 275, "there is no such what"), (RX4, 52, "level is not 1 to 9"), (RX4, 57, "side is not 0 to 3"), (RX4, 69, "there are 10 awnings"), (RX1, 48, "there is no such awning")]
/-- .. and what the exceptions' constructors are declared to be -/
abbrev z_ds : List Cond := [.declares ⟨"java/lang/RuntimeException", "<init>", "(Ljava/lang/String;)V"⟩, .declares ⟨"java/lang/Exception", "<init>", "(Ljava/lang/String;)V"⟩, .declares ⟨"java/lang/Throwable", "<init>", "(Ljava/lang/String;)V"⟩]
def z_T (U : State) : Prop :=
  (∀ w ∈ z_ws, va_Nw w U) ∧ va_Nw (.methodLinkNest RX1 85 yX4_isCell RX4) U ∧ va_Nw (.methodLinkNest RX2 40 yX4_isCell RX4) U ∧ (va_Nw (.methodLinkNest RL 63 yX5_init RL) U ∧ (Cond.arrayOver (.array .int)).before #[] U = true) ∧ va_AO "java/lang/Object" U ∧ (∀ q ∈ z_ss, ∃ a, vk_R q.1 q.2.1 q.2.2 a U) ∧ ∀ w ∈ z_ds, va_Nw w U
theorem z_ws_castable : ∀ w ∈ z_ws, ∃ C T, w = .castable C T := by
  intro w hw
  simp only [z_ws, List.mem_cons, List.not_mem_nil, or_false] at hw
  rcases hw with rfl | rfl | rfl | rfl | rfl <;> exact ⟨_, _, rfl⟩
theorem z_ds_declares : ∀ w ∈ z_ds, ∃ y, w = .declares y := by
  intro w hw
  simp only [z_ds, List.mem_cons, List.not_mem_nil, or_false] at hw
  rcases hw with rfl | rfl | rfl <;> exact ⟨_, rfl⟩
theorem z_T.warm {s U : State} (hW : s.WarmedH U.vm) (h : z_T s) : z_T U := by
  obtain ⟨h1, h2, h3, ⟨h7, h8⟩, h4, h5, h6⟩ := h
  refine ⟨fun w hw => ?_, va_Nw.warmM hW h2, va_Nw.warmM hW h3, ⟨va_Nw.warmM hW h7, over_moved hW.alike h8⟩, va_AO.moved hW.alike h4, fun q hq => ?_, fun w hw => ?_⟩
  · obtain ⟨C, T, rfl⟩ := z_ws_castable w hw
    exact va_Nw.warmC hW (h1 _ hw)
  · obtain ⟨a, ha⟩ := h5 q hq
    exact ⟨a, vk_R.warm hW ha⟩
  · obtain ⟨y, rfl⟩ := z_ds_declares w hw
    exact va_Nw.warmD hW (h6 _ hw)
theorem z_T.same {s U : State} (hv : s.vm = U.vm) (h : z_T s) : z_T U := by
  obtain ⟨h1, h2, h3, ⟨h7, h8⟩, h4, h5, h6⟩ := h
  refine ⟨fun w hw => ?_, va_Nw.same rfl hv h2, va_Nw.same rfl hv h3, ⟨va_Nw.same rfl hv h7, over_moved (by rw [← hv]; exact Vm.Alike.refl _) h8⟩, ?_, fun q hq => ?_, fun w hw => ?_⟩
  · obtain ⟨C, T, rfl⟩ := z_ws_castable w hw
    exact va_Nw.same rfl hv (h1 _ hw)
  · exact va_AO.moved (by rw [← hv]; exact Vm.Alike.refl _) h4
  · obtain ⟨a, ha⟩ := h5 q hq
    exact ⟨a, vk_R.same hv.symm ha⟩
  · obtain ⟨y, rfl⟩ := z_ds_declares w hw
    exact va_Nw.same rfl hv (h6 _ hw)
theorem z_Z.moved {lo t0 : Nat} {u U : State} {H : Heap} (hvm : u.vm.Alike U.vm) (h : z_Z lo t0 u H) : z_Z lo t0 U H := ⟨va_Z.moved hvm h.1, vx_Zq.moved hvm h.2.1, vx_Zq.moved hvm h.2.2⟩
theorem z_Z.kept {lo t0 : Nat} {U : State} {H H1 : Heap} (h : z_Z lo t0 U H) (hq : ∀ a : Nat, a < H.size → ¬ lo ≤ a → H1[a]? = H[a]?) : z_Z lo t0 U H1 := ⟨va_Z.kept h.1 hq, vx_Zq.kept h.2.1 hq, vx_Zq.kept h.2.2 hq⟩
theorem z_at.moved {G : zG} {lo : Nat} {u U : State} {H : Heap} {q : Nat} {c : zC} (hvm : u.vm.Alike U.vm) (h : z_at G lo u H q c) : z_at G lo U H q c := ⟨h.1, fun w e => (h.2 w e).moved hvm⟩
theorem z_hp.moved {G : zG} {lo : Nat} {u U : State} {h : zH} {H : Heap} (hvm : u.vm.Alike U.vm) (hh : z_hp G lo u h H) : z_hp G lo U h H := fun q c hq => (hh q c hq).moved hvm
def z_U (G : zG) (lo t0 : Nat) (h : zH) (nx : Nat) (U : State) : Prop := U.heap.size = nx ∧ lo ≤ nx ∧ z_K G U ∧ z_Z lo t0 U U.heap ∧ z_T U ∧ z_hp G lo U h U.heap
theorem z_blind {G : zG} {lo t0 : Nat} {h : zH} {nx : Nat} {av : List Value} : FrameBlind (va_Pc av (z_U G lo t0 h nx)) := by
  intro a U g mk ⟨h0, h1, h2, h3, h4, h5, h6⟩
  exact ⟨h0, h1, h2, va_K.moved (u := U) (U := U.calling g mk a) (Vm.Alike.refl U.vm) h3, z_Z.moved (u := U) (U := U.calling g mk a) (Vm.Alike.refl U.vm) h4, z_T.same (s := U) (U := U.calling g mk a) rfl h5, z_hp.moved (u := U) (U := U.calling g mk a) (Vm.Alike.refl U.vm) h6⟩
def z_qn (G : zG) (lo : Nat) (oo : zV) : Array Value → State → Outcome → State → Prop := fun _ st oc t => ∃ (v : Option Value) (h1 : zH) (n1 : Nat), oo = .inr (v, h1, n1) ∧ oc = .returned v ∧ t.heap.size = n1 ∧ z_hp G lo t h1 t.heap ∧ va_F (fun z : Nat => lo ≤ z) st t
def z_qx (G : zG) (lo : Nat) (oo : zV) : String → State → State → Prop := fun E st t => ∃ h1 : zH, oo = .inl (E, h1) ∧ z_hp G lo t h1 t.heap ∧ va_F (fun z : Nat => lo ≤ z) st t
abbrev z_rm (fr lc mc ms : Nat) : Room := { frames := fr, cells := mc, slots := ms, locals := lc }
/-- A METHOD'S CONTRACT: from every heap that holds h, at size nx: it ends as oo says -/
def z_Met (l : Launch) (y : MethodName) (cc : ByteArray) (maxL : Nat) (ret : Option FieldType) (fr lc : Nat) (G : zG) (lo t0 : Nat) (av : List Value) (h : zH) (nx : Nat) (oo : zV) (mc ms : Nat) : Prop :=
  vx_Met l y (Cond.code y cc maxL ret :: wsL_law) (z_rm fr lc mc ms) (va_Pc av (z_U G lo t0 h nx)) (z_qn G lo oo) (z_qx G lo oo) mc ms (fun z : Nat => lo ≤ z)
/-- what a walk of a method has at hand all along -/
def z_Cx (p : Program) (l : Launch) (s : State) (m : MethodId) (args : Array Value) (meth : Method) (c : Code) (cc : ByteArray) (nL : Nat) (own : String) (ret : Option FieldType) (G : zG) (lo t0 : Nat) : Prop :=
  CallFix p m c cc nL s args wsL_law own ∧ meth.sig.returnType = ret ∧ meth.locks = false ∧ (own = RL ∨ ∀ x ∈ c.exceptionTable.toList, False) ∧ lo ≤ s.heap.size ∧ z_K G s ∧ z_Z lo t0 s s.heap ∧ z_T s
/-- a point of a walk: the machine at pc, with these locals, this stack, over any heap that holds h -/
def z_R (p : Program) (l : Launch) (e : Env) (R : Room) (s : State) (m : MethodId) (args : Array Value) (below : List Frame) (meth : Method) (c : Code) (G : zG) (lo nL cells slots : Nat) (Q : State → Prop) (pc : Nat) (lv : List (Nat × Value)) (st : List Value) (h : zH) (nx : Nat) : Prop :=
  ∀ (H : Heap) (locs : List Loc) (ls : Array Slot), H.size = nx → z_hp G lo s h H → va_S (fun z : Nat => lo ≤ z) s.heap H locs → lv_has ls nL lv → W p l e R s m args below meth c H locs cells slots Q (F0 m pc ls st)
theorem z_of {l : Launch} {y : MethodName} {cc : ByteArray} {maxL : Nat} {ret : Option FieldType} {fr lc : Nat} {G : zG} {lo t0 : Nat} {av : List Value} {h : zH} {nx : Nat} {oo : zV} {mc ms : Nat} (lv : List (Nat × Value)) (hy : plainName y.cls = true) (hn : (lg_sl av).length ≤ maxL) (hlv : lv_args 0 av = lv)
    (body : ∀ p e s m below meth c, z_Cx p l s m av.toArray meth c cc maxL y.cls ret G lo t0 → meth.name = y.name → z_R p l e (z_rm fr lc mc ms) s m av.toArray below meth c G lo maxL 0 0 (vx_MQ below (z_qn G lo oo) (z_qx G lo oo) av.toArray s mc ms (fun z : Nat => lo ≤ z)) 0 lv [] h nx) : z_Met l y cc maxL ret fr lc G lo t0 av h nx oo mc ms := by
  subst hlv
  refine vx_ofW (cc := cc) (maxL := maxL) (ret := ret) hy rfl ?_
  intro p e s m args below meth c s₁ B hml htab hv
  obtain ⟨rfl, hsz, hlo, hK, hZ, hT, hh⟩ := hv
  have hts := atoms_spec (ws := Cond.code y cc maxL ret :: wsL_law) B.pre
  have hown : s.vm.findClass y.cls = some m.cls := findClass_of_methodNamed B.named
  have hl := lv_entry av (n := maxL) hn
  rw [lg_entry_eq]
  exact body p e s m below meth c ⟨⟨B.exec, B.bytes, hml, hown, fun w hw => hts w (List.mem_cons_of_mem _ hw)⟩, B.returns, B.notSynchronized, .inr htab, by rw [hsz]; exact hlo, hK, hZ, hT⟩ (name_of_methodNamed B.named B.method).1 s.heap [] _ hsz hh va_S.rf hl
/-- from a point of a walk, what a callee asks -/
theorem z_pre {p : Program} {l : Launch} {s : State} {m : MethodId} {args : Array Value} {meth : Method} {c : Code} {cc : ByteArray} {nL : Nat} {own : String} {ret : Option FieldType} {G : zG} {lo t0 : Nat} (C : z_Cx p l s m args meth c cc nL own ret G lo t0) {h : zH} {nx : Nat} {H : Heap} {locs : List Loc} (hz : H.size = nx) (hh : z_hp G lo s h H) (hS : va_S (fun z : Nat => lo ≤ z) s.heap H locs) : ∀ U : State, U.heap = H → s.WarmedH U.vm → z_U G lo t0 h nx U := by
  intro U hU hW
  obtain ⟨-, -, -, -, hlo, hK, hZ, hT⟩ := C
  refine ⟨by rw [hU]; exact hz, by rw [← hz]; exact Nat.le_trans hlo hS.1, va_K.moved hW.alike hK, ?_, z_T.warm hW hT, by rw [hU]; exact hh.moved hW.alike⟩
  rw [hU]
  exact z_Z.moved hW.alike (hZ.kept hS.2.1)
end
section
/-! what is read and written of the abstract heap -/
def z_ob (h : zH) (a ci : Nat) : Option (List Value) := match h a with
  | some (.inr (.inl o)) => if o.1 = ci then some o.2 else none
  | _ => none
def z_gI (h : zH) (a ci k : Nat) : Option Int32 := (z_ob h a ci).bind fun fs => match fs[k]? with
  | some (.int x) => some x
  | _ => none
def z_gR (h : zH) (a ci k : Nat) : Option Nat := (z_ob h a ci).bind fun fs => match fs[k]? with
  | some (.ref x) => some x
  | _ => none
def z_pV (h : zH) (a ci k : Nat) (v : Value) : Option zH := (z_ob h a ci).bind fun fs => if k < fs.length then some (z_up h a (zO ci (fs.set k v))) else none
def z_ck (h : zH) (a ci : Nat) : Option Unit := (z_ob h a ci).bind fun _ => some ()
def z_ai (h : zH) (a : Nat) : Option (Nat × (Nat → Int32)) := match h a with
  | some (.inl (t, n, .inl f)) => if t = 0 then some (n, f) else none
  | _ => none
def z_aq (h : zH) (a : Nat) : Option (Nat × (Nat → Option Nat)) := match h a with
  | some (.inl (t, n, .inr (.inr (.inr (.inr f))))) => if t = 1 then some (n, f) else none
  | _ => none
def z_aI (h : zH) (a : Nat) (i : Int32) : Option Int32 := (z_ai h a).bind fun r => if i < 0 ∨ r.1 ≤ i.toNatClampNeg then none else some (r.2 i.toNatClampNeg)
def z_sI (h : zH) (a : Nat) (i x : Int32) : Option zH := (z_ai h a).bind fun r => if i < 0 ∨ r.1 ≤ i.toNatClampNeg then none else some (z_up h a (zI r.1 (upd r.2 i.toNatClampNeg x)))
def z_aR (h : zH) (a : Nat) (i : Int32) : Option Nat := (z_aq h a).bind fun r => if i < 0 ∨ r.1 ≤ i.toNatClampNeg then none else r.2 i.toNatClampNeg
def z_sR (h : zH) (a : Nat) (i : Int32) (v : Option Nat) : Option zH := (z_aq h a).bind fun r => if i < 0 ∨ r.1 ≤ i.toNatClampNeg then none else some (z_up h a (zQ r.1 (va_up r.2 i.toNatClampNeg v)))
/-- of an array of int[] -/
def z_ad (h : zH) (a : Nat) : Option (Nat × (Nat → Option Nat)) := match h a with
  | some (.inl (t, n, .inr (.inr (.inr (.inr f))))) => if t = 2 then some (n, f) else none
  | _ => none
def z_aD (h : zH) (a : Nat) (i : Int32) : Option Nat := (z_ad h a).bind fun r => if i < 0 ∨ r.1 ≤ i.toNatClampNeg then none else r.2 i.toNatClampNeg
def z_sD (h : zH) (a : Nat) (i : Int32) (b : Nat) : Option zH := (z_ai h b).bind fun _ => (z_ad h a).bind fun r => if i < 0 ∨ r.1 ≤ i.toNatClampNeg then none else some (z_up h a (zD r.1 (va_up r.2 i.toNatClampNeg (some b))))
/-- n int[] of k cells in an array of int[] -/
def z_mm (h : zH) (nx n k : Nat) : zH := fun q => if q = nx then some (zD n fun j => if j < n then some (nx + 1 + j) else none) else if nx < q ∧ q ≤ nx + n then some (zI k fun _ => 0) else h q
/-- of the script -/
def z_sc (h : zH) (a : Nat) : Option (Nat × (Nat → Int32)) := match h a with
  | some (.inr (.inr (some r))) => some r
  | _ => none
def z_sl (h : zH) (a : Nat) : Option Int32 := (z_sc h a).bind fun r => some (Int32.ofNat r.1)
def z_si (h : zH) (a : Nat) (i : Int32) : Option Int32 := (z_sc h a).bind fun r => if i < 0 ∨ r.1 ≤ i.toNatClampNeg then none else some (r.2 i.toNatClampNeg)
def z_al (h : zH) (a : Nat) : Option Int32 := match h a with
  | some (.inl r) => if r.1 < 3 then some (Int32.ofNat r.2.1) else none
  | some (.inr (.inr none)) => some 0
  | _ => none
theorem z_ob_spec {h : zH} {a ci : Nat} {fs : List Value} (e : z_ob h a ci = some fs) : h a = some (zO ci fs) := by
  unfold z_ob at e
  split at e
  · rename_i o ho
    by_cases hc : o.1 = ci
    · rw [if_pos hc] at e
      cases e
      rw [ho, ← hc]
    · rw [if_neg hc] at e; cases e
  · cases e
theorem z_ob_of {h : zH} {a ci : Nat} {fs : List Value} (e : h a = some (zO ci fs)) : z_ob h a ci = some fs := by
  unfold z_ob
  rw [e]
  simp
theorem z_gI_spec {h : zH} {a ci k : Nat} {x : Int32} (e : z_gI h a ci k = some x) : ∃ fs, h a = some (zO ci fs) ∧ fs[k]? = some (.int x) := by
  obtain ⟨fs, h1, h2⟩ := Option.bind_eq_some_iff.mp e
  refine ⟨fs, z_ob_spec h1, ?_⟩
  split at h2
  · rename_i y hy; cases h2; exact hy
  · cases h2
theorem z_gR_spec {h : zH} {a ci k : Nat} {x : Nat} (e : z_gR h a ci k = some x) : ∃ fs, h a = some (zO ci fs) ∧ fs[k]? = some (.ref x) := by
  obtain ⟨fs, h1, h2⟩ := Option.bind_eq_some_iff.mp e
  refine ⟨fs, z_ob_spec h1, ?_⟩
  split at h2
  · rename_i y hy; cases h2; exact hy
  · cases h2
theorem z_pV_spec {h h1 : zH} {a ci k : Nat} {v : Value} (e : z_pV h a ci k v = some h1) : ∃ fs, h a = some (zO ci fs) ∧ k < fs.length ∧ h1 = z_up h a (zO ci (fs.set k v)) := by
  obtain ⟨fs, e1, e2⟩ := Option.bind_eq_some_iff.mp e
  refine ⟨fs, z_ob_spec e1, ?_⟩
  split at e2
  · rename_i hk; cases e2; exact ⟨hk, rfl⟩
  · cases e2
theorem z_ck_spec {h : zH} {a ci : Nat} {u : Unit} (e : z_ck h a ci = some u) : ∃ fs, h a = some (zO ci fs) := by
  obtain ⟨fs, e1, -⟩ := Option.bind_eq_some_iff.mp e
  exact ⟨fs, z_ob_spec e1⟩
theorem z_ai_spec {h : zH} {a : Nat} {r : Nat × (Nat → Int32)} (e : z_ai h a = some r) : h a = some (zI r.1 r.2) := by
  unfold z_ai at e
  split at e
  · rename_i t n f ho
    by_cases ht : t = 0
    · rw [if_pos ht] at e; cases e; rw [ho, ht]
    · rw [if_neg ht] at e; cases e
  · cases e
theorem z_aq_spec {h : zH} {a : Nat} {r : Nat × (Nat → Option Nat)} (e : z_aq h a = some r) : h a = some (zQ r.1 r.2) := by
  unfold z_aq at e
  split at e
  · rename_i t n f ho
    by_cases ht : t = 1
    · rw [if_pos ht] at e; cases e; rw [ho, ht]
    · rw [if_neg ht] at e; cases e
  · cases e
theorem z_aI_spec {h : zH} {a : Nat} {i x : Int32} (e : z_aI h a i = some x) : ∃ n f, h a = some (zI n f) ∧ vp_in i n ∧ f i.toNatClampNeg = x := by
  obtain ⟨r, e1, e2⟩ := Option.bind_eq_some_iff.mp e
  refine ⟨r.1, r.2, z_ai_spec e1, ?_⟩
  split at e2
  · cases e2
  · rename_i hn; cases e2; exact ⟨hn, rfl⟩
theorem z_sI_spec {h h1 : zH} {a : Nat} {i x : Int32} (e : z_sI h a i x = some h1) : ∃ n f, h a = some (zI n f) ∧ vp_in i n ∧ h1 = z_up h a (zI n (upd f i.toNatClampNeg x)) := by
  obtain ⟨r, e1, e2⟩ := Option.bind_eq_some_iff.mp e
  refine ⟨r.1, r.2, z_ai_spec e1, ?_⟩
  split at e2
  · cases e2
  · rename_i hn; cases e2; exact ⟨hn, rfl⟩
theorem z_aR_spec {h : zH} {a : Nat} {i : Int32} {x : Nat} (e : z_aR h a i = some x) : ∃ n f, h a = some (zQ n f) ∧ vp_in i n ∧ f i.toNatClampNeg = some x := by
  obtain ⟨r, e1, e2⟩ := Option.bind_eq_some_iff.mp e
  refine ⟨r.1, r.2, z_aq_spec e1, ?_⟩
  split at e2
  · cases e2
  · rename_i hn; exact ⟨hn, e2⟩
theorem z_sR_spec {h h1 : zH} {a : Nat} {i : Int32} {v : Option Nat} (e : z_sR h a i v = some h1) : ∃ n f, h a = some (zQ n f) ∧ vp_in i n ∧ h1 = z_up h a (zQ n (va_up f i.toNatClampNeg v)) := by
  obtain ⟨r, e1, e2⟩ := Option.bind_eq_some_iff.mp e
  refine ⟨r.1, r.2, z_aq_spec e1, ?_⟩
  split at e2
  · cases e2
  · rename_i hn; cases e2; exact ⟨hn, rfl⟩
theorem z_ad_spec {h : zH} {a : Nat} {r : Nat × (Nat → Option Nat)} (e : z_ad h a = some r) : h a = some (zD r.1 r.2) := by
  unfold z_ad at e
  split at e
  · rename_i t n f ho
    by_cases ht : t = 2
    · rw [if_pos ht] at e; cases e; rw [ho, ht]
    · rw [if_neg ht] at e; cases e
  · cases e
theorem z_aD_spec {h : zH} {a : Nat} {i : Int32} {x : Nat} (e : z_aD h a i = some x) : ∃ n f, h a = some (zD n f) ∧ vp_in i n ∧ f i.toNatClampNeg = some x := by
  obtain ⟨r, e1, e2⟩ := Option.bind_eq_some_iff.mp e
  refine ⟨r.1, r.2, z_ad_spec e1, ?_⟩
  split at e2
  · cases e2
  · rename_i hn; exact ⟨hn, e2⟩
theorem z_sD_spec {h h1 : zH} {a : Nat} {i : Int32} {b : Nat} (e : z_sD h a i b = some h1) : ∃ n f k g, h b = some (zI k g) ∧ h a = some (zD n f) ∧ vp_in i n ∧ h1 = z_up h a (zD n (va_up f i.toNatClampNeg (some b))) := by
  obtain ⟨r0, e0, e⟩ := Option.bind_eq_some_iff.mp e
  obtain ⟨r, e1, e2⟩ := Option.bind_eq_some_iff.mp e
  refine ⟨r.1, r.2, r0.1, r0.2, z_ai_spec e0, z_ad_spec e1, ?_⟩
  split at e2
  · cases e2
  · rename_i hn; cases e2; exact ⟨hn, rfl⟩
theorem z_sc_spec {h : zH} {a : Nat} {r : Nat × (Nat → Int32)} (e : z_sc h a = some r) : h a = some (zT r.1 r.2) := by
  unfold z_sc at e
  split at e
  · rename_i w ho; cases e; exact ho
  · cases e
/-! loops and joins of the mirrors -/
def wl1 {A R : Type} (f : (A → Option R) → A → Option R) : Nat → A → Option R
  | 0 => fun _ => none
  | n + 1 => f (wl1 f n)
def wl2 {A B R : Type} (f : (A → B → Option R) → A → B → Option R) : Nat → A → B → Option R
  | 0 => fun _ _ => none
  | n + 1 => f (wl2 f n)
def wl3 {A B C R : Type} (f : (A → B → C → Option R) → A → B → C → Option R) : Nat → A → B → C → Option R
  | 0 => fun _ _ _ => none
  | n + 1 => f (wl3 f n)
def wl4 {A B C D R : Type} (f : (A → B → C → D → Option R) → A → B → C → D → Option R) : Nat → A → B → C → D → Option R
  | 0 => fun _ _ _ _ => none
  | n + 1 => f (wl4 f n)
def wl5 {A B C D E R : Type} (f : (A → B → C → D → E → Option R) → A → B → C → D → E → Option R) : Nat → A → B → C → D → E → Option R
  | 0 => fun _ _ _ _ _ => none
  | n + 1 => f (wl5 f n)
def wl6 {A B C D E F R : Type} (f : (A → B → C → D → E → F → Option R) → A → B → C → D → E → F → Option R) : Nat → A → B → C → D → E → F → Option R
  | 0 => fun _ _ _ _ _ _ => none
  | n + 1 => f (wl6 f n)
def wl7 {A B C D E F J R : Type} (f : (A → B → C → D → E → F → J → Option R) → A → B → C → D → E → F → J → Option R) : Nat → A → B → C → D → E → F → J → Option R
  | 0 => fun _ _ _ _ _ _ _ => none
  | n + 1 => f (wl7 f n)
theorem wl1_i {A R : Type} {f : (A → Option R) → A → Option R} {P : Option R → A → Prop} (h0 : ∀ a, P none a) (hs : ∀ rec, (∀ a, P (rec a) a) → ∀ a, P (f rec a) a) : ∀ n a, P (wl1 f n a) a
  | 0 => h0
  | n + 1 => hs _ (wl1_i h0 hs n)
theorem wl2_i {A B R : Type} {f : (A → B → Option R) → A → B → Option R} {P : Option R → A → B → Prop} (h0 : ∀ a b, P none a b) (hs : ∀ rec, (∀ a b, P (rec a b) a b) → ∀ a b, P (f rec a b) a b) : ∀ n a b, P (wl2 f n a b) a b
  | 0 => h0
  | n + 1 => hs _ (wl2_i h0 hs n)
theorem wl3_i {A B C R : Type} {f : (A → B → C → Option R) → A → B → C → Option R} {P : Option R → A → B → C → Prop} (h0 : ∀ a b c, P none a b c) (hs : ∀ rec, (∀ a b c, P (rec a b c) a b c) → ∀ a b c, P (f rec a b c) a b c) : ∀ n a b c, P (wl3 f n a b c) a b c
  | 0 => h0
  | n + 1 => hs _ (wl3_i h0 hs n)
theorem wl4_i {A B C D R : Type} {f : (A → B → C → D → Option R) → A → B → C → D → Option R} {P : Option R → A → B → C → D → Prop} (h0 : ∀ a b c d, P none a b c d) (hs : ∀ rec, (∀ a b c d, P (rec a b c d) a b c d) → ∀ a b c d, P (f rec a b c d) a b c d) : ∀ n a b c d, P (wl4 f n a b c d) a b c d
  | 0 => h0
  | n + 1 => hs _ (wl4_i h0 hs n)
theorem wl5_i {A B C D E R : Type} {f : (A → B → C → D → E → Option R) → A → B → C → D → E → Option R} {P : Option R → A → B → C → D → E → Prop} (h0 : ∀ a b c d e, P none a b c d e) (hs : ∀ rec, (∀ a b c d e, P (rec a b c d e) a b c d e) → ∀ a b c d e, P (f rec a b c d e) a b c d e) : ∀ n a b c d e, P (wl5 f n a b c d e) a b c d e
  | 0 => h0
  | n + 1 => hs _ (wl5_i h0 hs n)
theorem wl6_i {A B C D E F R : Type} {f : (A → B → C → D → E → F → Option R) → A → B → C → D → E → F → Option R} {P : Option R → A → B → C → D → E → F → Prop} (h0 : ∀ a b c d e g, P none a b c d e g) (hs : ∀ rec, (∀ a b c d e g, P (rec a b c d e g) a b c d e g) → ∀ a b c d e g, P (f rec a b c d e g) a b c d e g) : ∀ n a b c d e g, P (wl6 f n a b c d e g) a b c d e g
  | 0 => h0
  | n + 1 => hs _ (wl6_i h0 hs n)
theorem wl7_i {A B C D E F J R : Type} {f : (A → B → C → D → E → F → J → Option R) → A → B → C → D → E → F → J → Option R} {P : Option R → A → B → C → D → E → F → J → Prop} (h0 : ∀ a b c d e g j, P none a b c d e g j) (hs : ∀ rec, (∀ a b c d e g j, P (rec a b c d e g j) a b c d e g j) → ∀ a b c d e g j, P (f rec a b c d e g j) a b c d e g j) : ∀ n a b c d e g j, P (wl7 f n a b c d e g j) a b c d e g j
  | 0 => h0
  | n + 1 => hs _ (wl7_i h0 hs n)
def jn0 {R : Type} (k : Option R) (b : Option R → Option R) : Option R := b k
def jn1 {A R : Type} (k : A → Option R) (b : (A → Option R) → Option R) : Option R := b k
def jn2 {A B R : Type} (k : A → B → Option R) (b : (A → B → Option R) → Option R) : Option R := b k
def jn3 {A B C R : Type} (k : A → B → C → Option R) (b : (A → B → C → Option R) → Option R) : Option R := b k
def jn4 {A B C D R : Type} (k : A → B → C → D → Option R) (b : (A → B → C → D → Option R) → Option R) : Option R := b k
def jn5 {A B C D E R : Type} (k : A → B → C → D → E → Option R) (b : (A → B → C → D → E → Option R) → Option R) : Option R := b k
/-- a callee that may throw, called where what it throws goes on to the caller -/
def z_tb {X Y : Type} (a : Option (String ⊕ X)) (k : X → Option (String ⊕ Y)) : Option (String ⊕ Y) := a.bind fun z => match z with
  | .inl E => some (.inl E)
  | .inr x => k x
/-- .. called where it never throws -/
def z_tn {X Y : Type} (a : Option (String ⊕ X)) (k : X → Option Y) : Option Y := a.bind fun z => match z with
  | .inl _ => none
  | .inr x => k x
end
section
theorem WL_good : wsL_law.all goodWord = true := by decide +kernel
theorem WL_in : GoodIn wsL_law wsL_law := goodIn_sub (fun _ h => h) WL_good
theorem WL_cons {w : Cond} {l : List Cond} (h1 : w ∈ wsL_law) (h2 : GoodIn wsL_law l) : GoodIn wsL_law (w :: l) := by
  intro x hx
  rcases List.mem_cons.mp hx with rfl | hx
  · exact WL_in x h1
  · exact h2 x hx
theorem WL_of0 {w : Cond} (h : w ∈ wsL_law0) : w ∈ wsL_law := List.mem_append_left _ (List.mem_append_left _ (List.mem_append_left _ (List.mem_append_left _ h)))
section ZR
variable {p : Program} {l : Launch} {e : Env} {R : Room} {s : State} {m : MethodId} {args : Array Value} {below : List Frame} {meth : Method} {c : Code} {G : zG} {lo t0 nL cells slots : Nat} {Q : State → Prop} {pc : Nat} {lv lv' : List (Nat × Value)} {st rest : List Value} {h h1 : zH} {nx : Nat} {cc : ByteArray} {own : String} {ret : Option FieldType}
variable {x y v : Int32} {X Y V : Int64} {a b : Nat} {n off : Int} {tgt i k : Nat}
theorem z_iconst (C : z_Cx p l s m args meth c cc nL own ret G lo t0) (d : decode cc pc = .ok (.iconst n, 1)) (hv : Int32.ofInt n = v) (K : z_R p l e R s m args below meth c G lo nL cells slots Q (pc + 1) lv (.int v :: st) h nx) : z_R p l e R s m args below meth c G lo nL cells slots Q pc lv st h nx := fun H locs ls e1 e2 e3 e4 => lv_iconst C.1.1 C.1.2.1 d hv (K H locs ls e1 e2 e3 e4)
theorem z_bipush (C : z_Cx p l s m args meth c cc nL own ret G lo t0) (d : decode cc pc = .ok (.bipush n, 2)) (hv : (Int8.ofInt n).toInt32 = v) (K : z_R p l e R s m args below meth c G lo nL cells slots Q (pc + 2) lv (.int v :: st) h nx) : z_R p l e R s m args below meth c G lo nL cells slots Q pc lv st h nx := fun H locs ls e1 e2 e3 e4 => lv_bipush C.1.1 C.1.2.1 d hv (K H locs ls e1 e2 e3 e4)
theorem z_sipush (C : z_Cx p l s m args meth c cc nL own ret G lo t0) (d : decode cc pc = .ok (.sipush n, 3)) (hv : (Int16.ofInt n).toInt32 = v) (K : z_R p l e R s m args below meth c G lo nL cells slots Q (pc + 3) lv (.int v :: st) h nx) : z_R p l e R s m args below meth c G lo nL cells slots Q pc lv st h nx := fun H locs ls e1 e2 e3 e4 => lv_sipush C.1.1 C.1.2.1 d hv (K H locs ls e1 e2 e3 e4)
theorem z_lconst {q : Fin 2} (C : z_Cx p l s m args meth c cc nL own ret G lo t0) (d : decode cc pc = .ok (.lconst q, 1)) (hv : Int64.ofNat (q : Nat) = V) (K : z_R p l e R s m args below meth c G lo nL cells slots Q (pc + 1) lv (.long V :: st) h nx) : z_R p l e R s m args below meth c G lo nL cells slots Q pc lv st h nx := fun H locs ls e1 e2 e3 e4 => lv_lconst C.1.1 C.1.2.1 d hv (K H locs ls e1 e2 e3 e4)
theorem z_ldc2 {ix : Nat} (C : z_Cx p l s m args meth c cc nL own ret G lo t0) (d : decode cc pc = .ok (.ldc2_w ix, 3)) (hw : Cond.constantLong own ix V ∈ wsL_law) (K : z_R p l e R s m args below meth c G lo nL cells slots Q (pc + 3) lv (.long V :: st) h nx) : z_R p l e R s m args below meth c G lo nL cells slots Q pc lv st h nx := fun H locs ls e1 e2 e3 e4 => lv_ldc2 C.1.1 C.1.2.1 C.1.2.2.2.1 (C.1.2.2.2.2 _ hw) d (K H locs ls e1 e2 e3 e4)
theorem z_null (C : z_Cx p l s m args meth c cc nL own ret G lo t0) (d : decode cc pc = .ok (.aconst_null, 1)) (K : z_R p l e R s m args below meth c G lo nL cells slots Q (pc + 1) lv (.null :: st) h nx) : z_R p l e R s m args below meth c G lo nL cells slots Q pc lv st h nx := fun H locs ls e1 e2 e3 e4 => lv_null C.1.1 C.1.2.1 d (K H locs ls e1 e2 e3 e4)
theorem z_iload_n {q : Fin 4} (C : z_Cx p l s m args meth c cc nL own ret G lo t0) (d : decode cc pc = .ok (.iload_n q, 1)) (hk : lv[k]? = some ((q : Nat), .int x)) (K : z_R p l e R s m args below meth c G lo nL cells slots Q (pc + 1) lv (.int x :: st) h nx) : z_R p l e R s m args below meth c G lo nL cells slots Q pc lv st h nx := fun H locs ls e1 e2 e3 e4 => lv_iload_n C.1.1 C.1.2.1 d rfl (lv_at e4 k hk) (K H locs ls e1 e2 e3 e4)
theorem z_iload (C : z_Cx p l s m args meth c cc nL own ret G lo t0) (d : decode cc pc = .ok (.iload i, 2)) (hk : lv[k]? = some (i, .int x)) (K : z_R p l e R s m args below meth c G lo nL cells slots Q (pc + 2) lv (.int x :: st) h nx) : z_R p l e R s m args below meth c G lo nL cells slots Q pc lv st h nx := fun H locs ls e1 e2 e3 e4 => lv_iload C.1.1 C.1.2.1 d (lv_at e4 k hk) (K H locs ls e1 e2 e3 e4)
theorem z_lload_n {q : Fin 4} (C : z_Cx p l s m args meth c cc nL own ret G lo t0) (d : decode cc pc = .ok (.lload_n q, 1)) (hk : lv[k]? = some ((q : Nat), .long X)) (K : z_R p l e R s m args below meth c G lo nL cells slots Q (pc + 1) lv (.long X :: st) h nx) : z_R p l e R s m args below meth c G lo nL cells slots Q pc lv st h nx := fun H locs ls e1 e2 e3 e4 => lv_lload_n C.1.1 C.1.2.1 d rfl (lv_at e4 k hk) (K H locs ls e1 e2 e3 e4)
theorem z_lload (C : z_Cx p l s m args meth c cc nL own ret G lo t0) (d : decode cc pc = .ok (.lload i, 2)) (hk : lv[k]? = some (i, .long X)) (K : z_R p l e R s m args below meth c G lo nL cells slots Q (pc + 2) lv (.long X :: st) h nx) : z_R p l e R s m args below meth c G lo nL cells slots Q pc lv st h nx := fun H locs ls e1 e2 e3 e4 => lv_lload C.1.1 C.1.2.1 d (lv_at e4 k hk) (K H locs ls e1 e2 e3 e4)
theorem z_aload_n {q : Fin 4} (C : z_Cx p l s m args meth c cc nL own ret G lo t0) (d : decode cc pc = .ok (.aload_n q, 1)) (hk : lv[k]? = some ((q : Nat), .ref a)) (K : z_R p l e R s m args below meth c G lo nL cells slots Q (pc + 1) lv (.ref a :: st) h nx) : z_R p l e R s m args below meth c G lo nL cells slots Q pc lv st h nx := fun H locs ls e1 e2 e3 e4 => lv_aload_n C.1.1 C.1.2.1 d rfl (lv_at e4 k hk) (K H locs ls e1 e2 e3 e4)
theorem z_aload (C : z_Cx p l s m args meth c cc nL own ret G lo t0) (d : decode cc pc = .ok (.aload i, 2)) (hk : lv[k]? = some (i, .ref a)) (K : z_R p l e R s m args below meth c G lo nL cells slots Q (pc + 2) lv (.ref a :: st) h nx) : z_R p l e R s m args below meth c G lo nL cells slots Q pc lv st h nx := fun H locs ls e1 e2 e3 e4 => lv_aload C.1.1 C.1.2.1 d (lv_at e4 k hk) (K H locs ls e1 e2 e3 e4)
abbrev z_s1 (lv : List (Nat × Value)) (i : Nat) (v : Value) : List (Nat × Value) := (i, v) :: lv.filter (fun q => !(q.1 == i) && !(q.1 + 1 == i && q.2.category == 2))
abbrev z_s2 (lv : List (Nat × Value)) (i : Nat) (v : Value) : List (Nat × Value) := (i, v) :: lv.filter (fun q => !(q.1 == i) && (!(q.1 == i + 1) && !(q.1 + 1 == i && q.2.category == 2)))
theorem z_istore_n {q : Fin 4} (C : z_Cx p l s m args meth c cc nL own ret G lo t0) (d : decode cc pc = .ok (.istore_n q, 1)) (hn : (q : Nat) < nL) (hl : z_s1 lv (q : Nat) (.int x) = lv') (K : z_R p l e R s m args below meth c G lo nL cells slots Q (pc + 1) lv' st h nx) : z_R p l e R s m args below meth c G lo nL cells slots Q pc lv (.int x :: st) h nx := fun H locs ls e1 e2 e3 e4 => lv_istore_n C.1.1 C.1.2.1 d rfl e4 hn hl (fun ls' e5 => K H locs ls' e1 e2 e3 e5)
theorem z_istore (C : z_Cx p l s m args meth c cc nL own ret G lo t0) (d : decode cc pc = .ok (.istore i, 2)) (hn : i < nL) (hl : z_s1 lv i (.int x) = lv') (K : z_R p l e R s m args below meth c G lo nL cells slots Q (pc + 2) lv' st h nx) : z_R p l e R s m args below meth c G lo nL cells slots Q pc lv (.int x :: st) h nx := fun H locs ls e1 e2 e3 e4 => lv_istore C.1.1 C.1.2.1 d e4 hn hl (fun ls' e5 => K H locs ls' e1 e2 e3 e5)
theorem z_astore_n {q : Fin 4} (C : z_Cx p l s m args meth c cc nL own ret G lo t0) (d : decode cc pc = .ok (.astore_n q, 1)) (hn : (q : Nat) < nL) (hl : z_s1 lv (q : Nat) (.ref a) = lv') (K : z_R p l e R s m args below meth c G lo nL cells slots Q (pc + 1) lv' st h nx) : z_R p l e R s m args below meth c G lo nL cells slots Q pc lv (.ref a :: st) h nx := fun H locs ls e1 e2 e3 e4 => lv_astore_n C.1.1 C.1.2.1 d rfl e4 hn hl (fun ls' e5 => K H locs ls' e1 e2 e3 e5)
theorem z_astore (C : z_Cx p l s m args meth c cc nL own ret G lo t0) (d : decode cc pc = .ok (.astore i, 2)) (hn : i < nL) (hl : z_s1 lv i (.ref a) = lv') (K : z_R p l e R s m args below meth c G lo nL cells slots Q (pc + 2) lv' st h nx) : z_R p l e R s m args below meth c G lo nL cells slots Q pc lv (.ref a :: st) h nx := fun H locs ls e1 e2 e3 e4 => lv_astore C.1.1 C.1.2.1 d e4 hn hl (fun ls' e5 => K H locs ls' e1 e2 e3 e5)
theorem z_lstore_n {q : Fin 4} (C : z_Cx p l s m args meth c cc nL own ret G lo t0) (d : decode cc pc = .ok (.lstore_n q, 1)) (hn : (q : Nat) + 1 < nL) (hl : z_s2 lv (q : Nat) (.long X) = lv') (K : z_R p l e R s m args below meth c G lo nL cells slots Q (pc + 1) lv' st h nx) : z_R p l e R s m args below meth c G lo nL cells slots Q pc lv (.long X :: st) h nx := fun H locs ls e1 e2 e3 e4 => lv_lstore_n C.1.1 C.1.2.1 d rfl e4 hn hl (fun ls' e5 => K H locs ls' e1 e2 e3 e5)
theorem z_lstore (C : z_Cx p l s m args meth c cc nL own ret G lo t0) (d : decode cc pc = .ok (.lstore i, 2)) (hn : i + 1 < nL) (hl : z_s2 lv i (.long X) = lv') (K : z_R p l e R s m args below meth c G lo nL cells slots Q (pc + 2) lv' st h nx) : z_R p l e R s m args below meth c G lo nL cells slots Q pc lv (.long X :: st) h nx := fun H locs ls e1 e2 e3 e4 => lv_lstore C.1.1 C.1.2.1 d e4 hn hl (fun ls' e5 => K H locs ls' e1 e2 e3 e5)
theorem z_iinc (C : z_Cx p l s m args meth c cc nL own ret G lo t0) (d : decode cc pc = .ok (.iinc i n, 3)) (hk : lv[k]? = some (i, .int x)) (hv : x + Int32.ofInt n = v) (hn : i < nL) (hl : z_s1 lv i (.int v) = lv') (K : z_R p l e R s m args below meth c G lo nL cells slots Q (pc + 3) lv' st h nx) : z_R p l e R s m args below meth c G lo nL cells slots Q pc lv st h nx := fun H locs ls e1 e2 e3 e4 => lv_iinc C.1.1 C.1.2.1 d e4 hk hv hn hl (fun ls' e5 => K H locs ls' e1 e2 e3 e5)
theorem z_iadd (C : z_Cx p l s m args meth c cc nL own ret G lo t0) (d : decode cc pc = .ok (.iadd, 1)) (K : z_R p l e R s m args below meth c G lo nL cells slots Q (pc + 1) lv (.int (x + y) :: st) h nx) : z_R p l e R s m args below meth c G lo nL cells slots Q pc lv (.int y :: .int x :: st) h nx := fun H locs ls e1 e2 e3 e4 => lv_iadd C.1.1 C.1.2.1 d (K H locs ls e1 e2 e3 e4)
theorem z_isub (C : z_Cx p l s m args meth c cc nL own ret G lo t0) (d : decode cc pc = .ok (.isub, 1)) (K : z_R p l e R s m args below meth c G lo nL cells slots Q (pc + 1) lv (.int (x - y) :: st) h nx) : z_R p l e R s m args below meth c G lo nL cells slots Q pc lv (.int y :: .int x :: st) h nx := fun H locs ls e1 e2 e3 e4 => lv_isub C.1.1 C.1.2.1 d (K H locs ls e1 e2 e3 e4)
theorem z_imul (C : z_Cx p l s m args meth c cc nL own ret G lo t0) (d : decode cc pc = .ok (.imul, 1)) (K : z_R p l e R s m args below meth c G lo nL cells slots Q (pc + 1) lv (.int (x * y) :: st) h nx) : z_R p l e R s m args below meth c G lo nL cells slots Q pc lv (.int y :: .int x :: st) h nx := fun H locs ls e1 e2 e3 e4 => lv_imul C.1.1 C.1.2.1 d (K H locs ls e1 e2 e3 e4)
theorem z_iand (C : z_Cx p l s m args meth c cc nL own ret G lo t0) (d : decode cc pc = .ok (.iand, 1)) (K : z_R p l e R s m args below meth c G lo nL cells slots Q (pc + 1) lv (.int (x &&& y) :: st) h nx) : z_R p l e R s m args below meth c G lo nL cells slots Q pc lv (.int y :: .int x :: st) h nx := fun H locs ls e1 e2 e3 e4 => lv_iand C.1.1 C.1.2.1 d (K H locs ls e1 e2 e3 e4)
theorem z_ior (C : z_Cx p l s m args meth c cc nL own ret G lo t0) (d : decode cc pc = .ok (.ior, 1)) (K : z_R p l e R s m args below meth c G lo nL cells slots Q (pc + 1) lv (.int (x ||| y) :: st) h nx) : z_R p l e R s m args below meth c G lo nL cells slots Q pc lv (.int y :: .int x :: st) h nx := fun H locs ls e1 e2 e3 e4 => lv_ior C.1.1 C.1.2.1 d (K H locs ls e1 e2 e3 e4)
theorem z_ixor (C : z_Cx p l s m args meth c cc nL own ret G lo t0) (d : decode cc pc = .ok (.ixor, 1)) (K : z_R p l e R s m args below meth c G lo nL cells slots Q (pc + 1) lv (.int (x ^^^ y) :: st) h nx) : z_R p l e R s m args below meth c G lo nL cells slots Q pc lv (.int y :: .int x :: st) h nx := fun H locs ls e1 e2 e3 e4 => lv_ixor C.1.1 C.1.2.1 d (K H locs ls e1 e2 e3 e4)
theorem z_ishl (C : z_Cx p l s m args meth c cc nL own ret G lo t0) (d : decode cc pc = .ok (.ishl, 1)) (K : z_R p l e R s m args below meth c G lo nL cells slots Q (pc + 1) lv (.int (x <<< (y &&& 31)) :: st) h nx) : z_R p l e R s m args below meth c G lo nL cells slots Q pc lv (.int y :: .int x :: st) h nx := fun H locs ls e1 e2 e3 e4 => lv_ishl C.1.1 C.1.2.1 d (K H locs ls e1 e2 e3 e4)
theorem z_ishr (C : z_Cx p l s m args meth c cc nL own ret G lo t0) (d : decode cc pc = .ok (.ishr, 1)) (K : z_R p l e R s m args below meth c G lo nL cells slots Q (pc + 1) lv (.int (x >>> (y &&& 31)) :: st) h nx) : z_R p l e R s m args below meth c G lo nL cells slots Q pc lv (.int y :: .int x :: st) h nx := fun H locs ls e1 e2 e3 e4 => lv_ishr C.1.1 C.1.2.1 d (K H locs ls e1 e2 e3 e4)
theorem z_ineg (C : z_Cx p l s m args meth c cc nL own ret G lo t0) (d : decode cc pc = .ok (.ineg, 1)) (K : z_R p l e R s m args below meth c G lo nL cells slots Q (pc + 1) lv (.int (-x) :: st) h nx) : z_R p l e R s m args below meth c G lo nL cells slots Q pc lv (.int x :: st) h nx := fun H locs ls e1 e2 e3 e4 => lv_ineg C.1.1 C.1.2.1 d (K H locs ls e1 e2 e3 e4)
theorem z_idiv (C : z_Cx p l s m args meth c cc nL own ret G lo t0) (d : decode cc pc = .ok (.idiv, 1)) (hn : ¬ y = 0) (K : z_R p l e R s m args below meth c G lo nL cells slots Q (pc + 1) lv (.int (x / y) :: st) h nx) : z_R p l e R s m args below meth c G lo nL cells slots Q pc lv (.int y :: .int x :: st) h nx := fun H locs ls e1 e2 e3 e4 => lv_idiv C.1.1 C.1.2.1 d hn (K H locs ls e1 e2 e3 e4)
theorem z_irem (C : z_Cx p l s m args meth c cc nL own ret G lo t0) (d : decode cc pc = .ok (.irem, 1)) (hn : ¬ y = 0) (K : z_R p l e R s m args below meth c G lo nL cells slots Q (pc + 1) lv (.int (x - x / y * y) :: st) h nx) : z_R p l e R s m args below meth c G lo nL cells slots Q pc lv (.int y :: .int x :: st) h nx := fun H locs ls e1 e2 e3 e4 => lv_irem C.1.1 C.1.2.1 d hn (K H locs ls e1 e2 e3 e4)
theorem z_ladd (C : z_Cx p l s m args meth c cc nL own ret G lo t0) (d : decode cc pc = .ok (.ladd, 1)) (K : z_R p l e R s m args below meth c G lo nL cells slots Q (pc + 1) lv (.long (X + Y) :: st) h nx) : z_R p l e R s m args below meth c G lo nL cells slots Q pc lv (.long Y :: .long X :: st) h nx := fun H locs ls e1 e2 e3 e4 => lv_ladd C.1.1 C.1.2.1 d (K H locs ls e1 e2 e3 e4)
theorem z_lmul (C : z_Cx p l s m args meth c cc nL own ret G lo t0) (d : decode cc pc = .ok (.lmul, 1)) (K : z_R p l e R s m args below meth c G lo nL cells slots Q (pc + 1) lv (.long (X * Y) :: st) h nx) : z_R p l e R s m args below meth c G lo nL cells slots Q pc lv (.long Y :: .long X :: st) h nx := fun H locs ls e1 e2 e3 e4 => lv_lmul C.1.1 C.1.2.1 d (K H locs ls e1 e2 e3 e4)
theorem z_i2l (C : z_Cx p l s m args meth c cc nL own ret G lo t0) (d : decode cc pc = .ok (.i2l, 1)) (K : z_R p l e R s m args below meth c G lo nL cells slots Q (pc + 1) lv (.long x.toInt64 :: st) h nx) : z_R p l e R s m args below meth c G lo nL cells slots Q pc lv (.int x :: st) h nx := fun H locs ls e1 e2 e3 e4 => lv_i2l C.1.1 C.1.2.1 d rfl (K H locs ls e1 e2 e3 e4)
theorem z_dup {w : Value} (C : z_Cx p l s m args meth c cc nL own ret G lo t0) (d : decode cc pc = .ok (.dup, 1)) (hc : w.category = 1) (K : z_R p l e R s m args below meth c G lo nL cells slots Q (pc + 1) lv (w :: w :: st) h nx) : z_R p l e R s m args below meth c G lo nL cells slots Q pc lv (w :: st) h nx := fun H locs ls e1 e2 e3 e4 => lv_dup C.1.1 C.1.2.1 d hc (K H locs ls e1 e2 e3 e4)
theorem z_pop {w : Value} (C : z_Cx p l s m args meth c cc nL own ret G lo t0) (d : decode cc pc = .ok (.pop, 1)) (hc : w.category = 1) (K : z_R p l e R s m args below meth c G lo nL cells slots Q (pc + 1) lv st h nx) : z_R p l e R s m args below meth c G lo nL cells slots Q pc lv (w :: st) h nx := fun H locs ls e1 e2 e3 e4 => lv_pop C.1.1 C.1.2.1 d hc (K H locs ls e1 e2 e3 e4)
theorem z_dup_x1 {w z : Value} (C : z_Cx p l s m args meth c cc nL own ret G lo t0) (d : decode cc pc = .ok (.dup_x1, 1)) (hc : w.category = 1) (hc2 : z.category = 1) (K : z_R p l e R s m args below meth c G lo nL cells slots Q (pc + 1) lv (w :: z :: w :: st) h nx) : z_R p l e R s m args below meth c G lo nL cells slots Q pc lv (w :: z :: st) h nx := fun H locs ls e1 e2 e3 e4 => lv_dup_x1 C.1.1 C.1.2.1 d hc hc2 (K H locs ls e1 e2 e3 e4)
theorem z_dup2 {w z : Value} (C : z_Cx p l s m args meth c cc nL own ret G lo t0) (d : decode cc pc = .ok (.dup2, 1)) (hc : w.category = 1) (hc2 : z.category = 1) (K : z_R p l e R s m args below meth c G lo nL cells slots Q (pc + 1) lv (w :: z :: w :: z :: st) h nx) : z_R p l e R s m args below meth c G lo nL cells slots Q pc lv (w :: z :: st) h nx := fun H locs ls e1 e2 e3 e4 => lv_dup2_11 C.1.1 C.1.2.1 d hc hc2 (K H locs ls e1 e2 e3 e4)
theorem z_goto (C : z_Cx p l s m args meth c cc nL own ret G lo t0) (d : decode cc pc = .ok (.goto off, 3)) (ht : (pc : Int) + off = (tgt : Int)) (K : z_R p l e R s m args below meth c G lo nL cells slots Q tgt lv st h nx) : z_R p l e R s m args below meth c G lo nL cells slots Q pc lv st h nx := fun H locs ls e1 e2 e3 e4 => lv_goto C.1.1 C.1.2.1 d ht (K H locs ls e1 e2 e3 e4)
theorem z_sub (ks : List Nat) (hk : lv_pick lv ks = lv') (K : z_R p l e R s m args below meth c G lo nL cells slots Q pc lv' st h nx) : z_R p l e R s m args below meth c G lo nL cells slots Q pc lv st h nx := fun H locs ls e1 e2 e3 e4 => K H locs ls e1 e2 e3 (lv_sub e4 ks hk)
theorem z_wide {kc ks : Nat} (h1 : cells ≤ kc) (h2 : slots ≤ ks) (K : z_R p l e R s m args below meth c G lo nL kc ks Q pc lv st h nx) : z_R p l e R s m args below meth c G lo nL cells slots Q pc lv st h nx := fun H locs ls e1 e2 e3 e4 => W.widen h1 h2 (K H locs ls e1 e2 e3 e4)
end ZR
section ZB
variable {p : Program} {l : Launch} {e : Env} {R : Room} {s : State} {m : MethodId} {args : Array Value} {below : List Frame} {meth : Method} {c : Code} {G : zG} {lo t0 nL cells slots : Nat} {Q : State → Prop} {pc : Nat} {lv lv' : List (Nat × Value)} {st rest : List Value} {h h1 : zH} {nx : Nat} {cc : ByteArray} {own : String} {ret : Option FieldType}
variable {x y : Int32} {off : Int} {tgt : Nat} {Om : Type} {M1 M2 : Option Om} {o : Om}
theorem z_if_eq (C : z_Cx p l s m args meth c cc nL own ret G lo t0) (d : decode cc pc = .ok (.ifCond .eq off, 3)) (ht : (pc : Int) + off = (tgt : Int)) (hM : (if x = 0 then M1 else M2) = some o) (K1 : x = 0 → M1 = some o → z_R p l e R s m args below meth c G lo nL cells slots Q tgt lv st h nx) (K2 : ¬ x = 0 → M2 = some o → z_R p l e R s m args below meth c G lo nL cells slots Q (pc + 3) lv st h nx) : z_R p l e R s m args below meth c G lo nL cells slots Q pc lv (.int x :: st) h nx := fun H locs ls e1 e2 e3 e4 => lv_if_eq C.1.1 C.1.2.1 d ht (fun q => K1 q (by rw [if_pos q] at hM; exact hM) H locs ls e1 e2 e3 e4) (fun q => K2 q (by rw [if_neg q] at hM; exact hM) H locs ls e1 e2 e3 e4)
theorem z_icmp_eq (C : z_Cx p l s m args meth c cc nL own ret G lo t0) (d : decode cc pc = .ok (.if_icmp .eq off, 3)) (ht : (pc : Int) + off = (tgt : Int)) (hM : (if x = y then M1 else M2) = some o) (K1 : x = y → M1 = some o → z_R p l e R s m args below meth c G lo nL cells slots Q tgt lv st h nx) (K2 : ¬ x = y → M2 = some o → z_R p l e R s m args below meth c G lo nL cells slots Q (pc + 3) lv st h nx) : z_R p l e R s m args below meth c G lo nL cells slots Q pc lv (.int y :: .int x :: st) h nx := fun H locs ls e1 e2 e3 e4 => lv_icmp_eq C.1.1 C.1.2.1 d ht (fun q => K1 q (by rw [if_pos q] at hM; exact hM) H locs ls e1 e2 e3 e4) (fun q => K2 q (by rw [if_neg q] at hM; exact hM) H locs ls e1 e2 e3 e4)
theorem z_if_ne (C : z_Cx p l s m args meth c cc nL own ret G lo t0) (d : decode cc pc = .ok (.ifCond .ne off, 3)) (ht : (pc : Int) + off = (tgt : Int)) (hM : (if x = 0 then M1 else M2) = some o) (K1 : x = 0 → M1 = some o → z_R p l e R s m args below meth c G lo nL cells slots Q (pc + 3) lv st h nx) (K2 : ¬ x = 0 → M2 = some o → z_R p l e R s m args below meth c G lo nL cells slots Q tgt lv st h nx) : z_R p l e R s m args below meth c G lo nL cells slots Q pc lv (.int x :: st) h nx := fun H locs ls e1 e2 e3 e4 => lv_if_ne C.1.1 C.1.2.1 d ht (fun q => K2 q (by rw [if_neg q] at hM; exact hM) H locs ls e1 e2 e3 e4) (fun q => K1 q (by rw [if_pos q] at hM; exact hM) H locs ls e1 e2 e3 e4)
theorem z_icmp_ne (C : z_Cx p l s m args meth c cc nL own ret G lo t0) (d : decode cc pc = .ok (.if_icmp .ne off, 3)) (ht : (pc : Int) + off = (tgt : Int)) (hM : (if x = y then M1 else M2) = some o) (K1 : x = y → M1 = some o → z_R p l e R s m args below meth c G lo nL cells slots Q (pc + 3) lv st h nx) (K2 : ¬ x = y → M2 = some o → z_R p l e R s m args below meth c G lo nL cells slots Q tgt lv st h nx) : z_R p l e R s m args below meth c G lo nL cells slots Q pc lv (.int y :: .int x :: st) h nx := fun H locs ls e1 e2 e3 e4 => lv_icmp_ne C.1.1 C.1.2.1 d ht (fun q => K2 q (by rw [if_neg q] at hM; exact hM) H locs ls e1 e2 e3 e4) (fun q => K1 q (by rw [if_pos q] at hM; exact hM) H locs ls e1 e2 e3 e4)
theorem z_if_lt (C : z_Cx p l s m args meth c cc nL own ret G lo t0) (d : decode cc pc = .ok (.ifCond .lt off, 3)) (ht : (pc : Int) + off = (tgt : Int)) (hM : (if x < 0 then M1 else M2) = some o) (K1 : x < 0 → M1 = some o → z_R p l e R s m args below meth c G lo nL cells slots Q tgt lv st h nx) (K2 : ¬ x < 0 → M2 = some o → z_R p l e R s m args below meth c G lo nL cells slots Q (pc + 3) lv st h nx) : z_R p l e R s m args below meth c G lo nL cells slots Q pc lv (.int x :: st) h nx := fun H locs ls e1 e2 e3 e4 => lv_if_lt C.1.1 C.1.2.1 d ht (fun q => K1 q (by rw [if_pos q] at hM; exact hM) H locs ls e1 e2 e3 e4) (fun q => K2 q (by rw [if_neg q] at hM; exact hM) H locs ls e1 e2 e3 e4)
theorem z_icmp_lt (C : z_Cx p l s m args meth c cc nL own ret G lo t0) (d : decode cc pc = .ok (.if_icmp .lt off, 3)) (ht : (pc : Int) + off = (tgt : Int)) (hM : (if x < y then M1 else M2) = some o) (K1 : x < y → M1 = some o → z_R p l e R s m args below meth c G lo nL cells slots Q tgt lv st h nx) (K2 : ¬ x < y → M2 = some o → z_R p l e R s m args below meth c G lo nL cells slots Q (pc + 3) lv st h nx) : z_R p l e R s m args below meth c G lo nL cells slots Q pc lv (.int y :: .int x :: st) h nx := fun H locs ls e1 e2 e3 e4 => lv_icmp_lt C.1.1 C.1.2.1 d ht (fun q => K1 q (by rw [if_pos q] at hM; exact hM) H locs ls e1 e2 e3 e4) (fun q => K2 q (by rw [if_neg q] at hM; exact hM) H locs ls e1 e2 e3 e4)
theorem z_if_ge (C : z_Cx p l s m args meth c cc nL own ret G lo t0) (d : decode cc pc = .ok (.ifCond .ge off, 3)) (ht : (pc : Int) + off = (tgt : Int)) (hM : (if 0 ≤ x then M1 else M2) = some o) (K1 : 0 ≤ x → M1 = some o → z_R p l e R s m args below meth c G lo nL cells slots Q tgt lv st h nx) (K2 : ¬ 0 ≤ x → M2 = some o → z_R p l e R s m args below meth c G lo nL cells slots Q (pc + 3) lv st h nx) : z_R p l e R s m args below meth c G lo nL cells slots Q pc lv (.int x :: st) h nx := fun H locs ls e1 e2 e3 e4 => lv_if_ge C.1.1 C.1.2.1 d ht (fun q => K1 q (by rw [if_pos q] at hM; exact hM) H locs ls e1 e2 e3 e4) (fun q => K2 q (by rw [if_neg q] at hM; exact hM) H locs ls e1 e2 e3 e4)
theorem z_icmp_ge (C : z_Cx p l s m args meth c cc nL own ret G lo t0) (d : decode cc pc = .ok (.if_icmp .ge off, 3)) (ht : (pc : Int) + off = (tgt : Int)) (hM : (if y ≤ x then M1 else M2) = some o) (K1 : y ≤ x → M1 = some o → z_R p l e R s m args below meth c G lo nL cells slots Q tgt lv st h nx) (K2 : ¬ y ≤ x → M2 = some o → z_R p l e R s m args below meth c G lo nL cells slots Q (pc + 3) lv st h nx) : z_R p l e R s m args below meth c G lo nL cells slots Q pc lv (.int y :: .int x :: st) h nx := fun H locs ls e1 e2 e3 e4 => lv_icmp_ge C.1.1 C.1.2.1 d ht (fun q => K1 q (by rw [if_pos q] at hM; exact hM) H locs ls e1 e2 e3 e4) (fun q => K2 q (by rw [if_neg q] at hM; exact hM) H locs ls e1 e2 e3 e4)
theorem z_if_gt (C : z_Cx p l s m args meth c cc nL own ret G lo t0) (d : decode cc pc = .ok (.ifCond .gt off, 3)) (ht : (pc : Int) + off = (tgt : Int)) (hM : (if 0 < x then M1 else M2) = some o) (K1 : 0 < x → M1 = some o → z_R p l e R s m args below meth c G lo nL cells slots Q tgt lv st h nx) (K2 : ¬ 0 < x → M2 = some o → z_R p l e R s m args below meth c G lo nL cells slots Q (pc + 3) lv st h nx) : z_R p l e R s m args below meth c G lo nL cells slots Q pc lv (.int x :: st) h nx := fun H locs ls e1 e2 e3 e4 => lv_if_gt C.1.1 C.1.2.1 d ht (fun q => K1 q (by rw [if_pos q] at hM; exact hM) H locs ls e1 e2 e3 e4) (fun q => K2 q (by rw [if_neg q] at hM; exact hM) H locs ls e1 e2 e3 e4)
theorem z_icmp_gt (C : z_Cx p l s m args meth c cc nL own ret G lo t0) (d : decode cc pc = .ok (.if_icmp .gt off, 3)) (ht : (pc : Int) + off = (tgt : Int)) (hM : (if y < x then M1 else M2) = some o) (K1 : y < x → M1 = some o → z_R p l e R s m args below meth c G lo nL cells slots Q tgt lv st h nx) (K2 : ¬ y < x → M2 = some o → z_R p l e R s m args below meth c G lo nL cells slots Q (pc + 3) lv st h nx) : z_R p l e R s m args below meth c G lo nL cells slots Q pc lv (.int y :: .int x :: st) h nx := fun H locs ls e1 e2 e3 e4 => lv_icmp_gt C.1.1 C.1.2.1 d ht (fun q => K1 q (by rw [if_pos q] at hM; exact hM) H locs ls e1 e2 e3 e4) (fun q => K2 q (by rw [if_neg q] at hM; exact hM) H locs ls e1 e2 e3 e4)
theorem z_if_le (C : z_Cx p l s m args meth c cc nL own ret G lo t0) (d : decode cc pc = .ok (.ifCond .le off, 3)) (ht : (pc : Int) + off = (tgt : Int)) (hM : (if x ≤ 0 then M1 else M2) = some o) (K1 : x ≤ 0 → M1 = some o → z_R p l e R s m args below meth c G lo nL cells slots Q tgt lv st h nx) (K2 : ¬ x ≤ 0 → M2 = some o → z_R p l e R s m args below meth c G lo nL cells slots Q (pc + 3) lv st h nx) : z_R p l e R s m args below meth c G lo nL cells slots Q pc lv (.int x :: st) h nx := fun H locs ls e1 e2 e3 e4 => lv_if_le C.1.1 C.1.2.1 d ht (fun q => K1 q (by rw [if_pos q] at hM; exact hM) H locs ls e1 e2 e3 e4) (fun q => K2 q (by rw [if_neg q] at hM; exact hM) H locs ls e1 e2 e3 e4)
theorem z_icmp_le (C : z_Cx p l s m args meth c cc nL own ret G lo t0) (d : decode cc pc = .ok (.if_icmp .le off, 3)) (ht : (pc : Int) + off = (tgt : Int)) (hM : (if x ≤ y then M1 else M2) = some o) (K1 : x ≤ y → M1 = some o → z_R p l e R s m args below meth c G lo nL cells slots Q tgt lv st h nx) (K2 : ¬ x ≤ y → M2 = some o → z_R p l e R s m args below meth c G lo nL cells slots Q (pc + 3) lv st h nx) : z_R p l e R s m args below meth c G lo nL cells slots Q pc lv (.int y :: .int x :: st) h nx := fun H locs ls e1 e2 e3 e4 => lv_icmp_le C.1.1 C.1.2.1 d ht (fun q => K1 q (by rw [if_pos q] at hM; exact hM) H locs ls e1 e2 e3 e4) (fun q => K2 q (by rw [if_neg q] at hM; exact hM) H locs ls e1 e2 e3 e4)
end ZB
theorem z_P1 {D : va_G} {cl : List vw_C} {H : Heap} {a : Nat} {e : va_E} (h : va_at D cl (a, e) H) : va_P D cl [(a, e)] H := by
  intro k q hk
  cases k with
  | zero => cases hk; exact h
  | succ k => simp at hk
theorem z_upd {G : zG} {lo : Nat} {s : State} {h : zH} {H H1 : Heap} {a : Nat} {c0 c1 : zC} {e0 e1 : va_E} (hh : z_hp G lo s h H) (ha : h a = some c0) (h0 : z_tr G c0 = some e0) (h1 : z_tr G c1 = some e1) (hn : va_at G.1 vwCl (a, e1) H1) (oq : ∀ q : Nat, q ≠ a → H1[q]? = H[q]?) : z_hp G lo s (z_up h a c1) H1 := by
  have hla : lo ≤ a := ((hh a c0 ha).1 e0 h0).1
  intro q c hq
  unfold z_up at hq
  by_cases hqa : q = a
  · rw [if_pos hqa] at hq
    cases hq
    subst hqa
    refine ⟨fun e he => ?_, fun w he => by subst he; cases h1⟩
    cases h1.symm.trans he
    exact ⟨hla, hn⟩
  · rw [if_neg hqa] at hq
    refine ⟨fun e he => ⟨((hh q c hq).1 e he).1, ((hh q c hq).1 e he).2.kept (oq q hqa)⟩, fun w he => ?_⟩
    exact z_ou.kept ((hh q c hq).2 w he) (fun b _ hnb => oq b (fun z => hnb (by rw [z]; exact hla)))
theorem z_newhp {G : zG} {lo nx : Nat} {s : State} {h : zH} {H H1 : Heap} {c1 : zC} {e1 : va_E} (hh : z_hp G lo s h H) (hz : H.size = nx) (hlo : lo ≤ nx) (h1 : z_tr G c1 = some e1) (hn : va_at G.1 vwCl (nx, e1) H1) (oq : ∀ q : Nat, q < nx → H1[q]? = H[q]?) : z_hp G lo s (z_up h nx c1) H1 := by
  intro q c hq
  unfold z_up at hq
  by_cases hqa : q = nx
  · rw [if_pos hqa] at hq
    cases hq
    refine ⟨fun e he => ?_, fun w he => by subst he; cases h1⟩
    cases h1.symm.trans he
    rw [hqa]
    exact ⟨hlo, hn⟩
  · rw [if_neg hqa] at hq
    refine ⟨fun e he => ⟨((hh q c hq).1 e he).1, ((hh q c hq).1 e he).2.kept (oq q (by rw [← hz]; exact ((hh q c hq).1 e he).2.lt))⟩, fun w he => ?_⟩
    exact z_ou.kept ((hh q c hq).2 w he) (fun b hb _ => oq b (by rw [← hz]; exact hb))
section ZM
variable {p : Program} {l : Launch} {e : Env} {R : Room} {s : State} {m : MethodId} {args : Array Value} {below : List Frame} {meth : Method} {c : Code} {G : zG} {lo t0 nL cells slots : Nat} {Q : State → Prop} {pc : Nat} {lv lv' : List (Nat × Value)} {st rest : List Value} {h h1 : zH} {nx : Nat} {cc : ByteArray} {own : String} {ret : Option FieldType}
variable {Cn ref : String} {T : u_T} {N ci ix k a b : Nat} {x i : Int32} {v : Value}
theorem z_getI (C : z_Cx p l s m args meth c cc nL own ret G lo t0) (hv : z_gI h a ci k = some x) (hc : vwCl[ci]? = some (Cn, T, N)) (hin : ∀ w ∈ u_ws Cn T N, w ∈ wsL_law) (hk : k < N) (hlink : Cond.fieldLink own ix ref (T k).2.1 (T k).2.2.1 ∈ wsL_law) (hsame : ∀ x, s.fieldFound? (T k).1 (T k).2.1 (T k).2.2.1 = some x → s.fieldFound? ref (T k).2.1 (T k).2.2.1 = some x) (d : decode cc pc = .ok (.getfield ix, 3)) (K : z_R p l e R s m args below meth c G lo nL cells slots Q (pc + 3) lv (.int x :: st) h nx) : z_R p l e R s m args below meth c G lo nL cells slots Q pc lv (.ref a :: st) h nx := by
  intro H locs ls e1 e2 e3 e4
  obtain ⟨fs, ha, hf⟩ := z_gI_spec hv
  exact va_get (D := G.1) C.1.1 C.1.2.1 C.1.2.2.2.2 hin C.1.2.2.2.1 C.2.2.2.2.2.1 (z_P1 ((e2 a _ ha).1 _ rfl).2) 0 rfl hc k hk (C.1.2.2.2.2 _ hlink) hsame hf d (K H locs ls e1 e2 e3 e4)
theorem z_getR (C : z_Cx p l s m args meth c cc nL own ret G lo t0) (hv : z_gR h a ci k = some b) (hc : vwCl[ci]? = some (Cn, T, N)) (hin : ∀ w ∈ u_ws Cn T N, w ∈ wsL_law) (hk : k < N) (hlink : Cond.fieldLink own ix ref (T k).2.1 (T k).2.2.1 ∈ wsL_law) (hsame : ∀ x, s.fieldFound? (T k).1 (T k).2.1 (T k).2.2.1 = some x → s.fieldFound? ref (T k).2.1 (T k).2.2.1 = some x) (d : decode cc pc = .ok (.getfield ix, 3)) (K : z_R p l e R s m args below meth c G lo nL cells slots Q (pc + 3) lv (.ref b :: st) h nx) : z_R p l e R s m args below meth c G lo nL cells slots Q pc lv (.ref a :: st) h nx := by
  intro H locs ls e1 e2 e3 e4
  obtain ⟨fs, ha, hf⟩ := z_gR_spec hv
  exact va_get (D := G.1) C.1.1 C.1.2.1 C.1.2.2.2.2 hin C.1.2.2.2.1 C.2.2.2.2.2.1 (z_P1 ((e2 a _ ha).1 _ rfl).2) 0 rfl hc k hk (C.1.2.2.2.2 _ hlink) hsame hf d (K H locs ls e1 e2 e3 e4)
theorem z_put (C : z_Cx p l s m args meth c cc nL own ret G lo t0) (hv : z_pV h a ci k v = some h1) (hc : vwCl[ci]? = some (Cn, T, N)) (hin : ∀ w ∈ u_ws Cn T N, w ∈ wsL_law) (ty0 : Nat → FieldType) (hty : ∀ k, k < N → parseFieldDescriptor (T k).2.2.1 = some (ty0 k)) (hnm : ∀ a, a < N → ∀ b, b < N → a ≠ b → (T a).2.1 ≠ (T b).2.1) (hk : k < N) (hlink : Cond.fieldLink own ix ref (T k).2.1 (T k).2.2.1 ∈ wsL_law) (hsame : ∀ x, s.fieldFound? (T k).1 (T k).2.1 (T k).2.2.1 = some x → s.fieldFound? ref (T k).2.1 (T k).2.2.1 = some x) (hfin : (T k).2.2.2 = false) {ty : FieldType} (hd : parseFieldDescriptor (T k).2.2.1 = some ty) (hn : narrow ty v = v) (hfit : fits ty v = true) (d : decode cc pc = .ok (.putfield ix, 3)) (K : z_R p l e R s m args below meth c G lo nL cells slots Q (pc + 3) lv st h1 nx) : z_R p l e R s m args below meth c G lo nL cells slots Q pc lv (v :: .ref a :: st) h nx := by
  intro H locs ls e1 e2 e3 e4
  obtain ⟨fs, ha, hl, rfl⟩ := z_pV_spec hv
  have hts := C.1.2.2.2.2
  have hK : va_K G.1 vwCl (z_tys G) s := C.2.2.2.2.2.1
  have hat := (e2 a _ ha).1 _ rfl
  obtain ⟨r, g1, cell, q1, q2, q3, q4⟩ := hat.2
  have hr : r = (Cn, T, N) := Option.some.inj (g1.symm.trans hc)
  subst hr
  have hap := va_apart (own := own) hts hin ty0 hty hnm hK hc
  obtain ⟨hS, hfc, kC, hkC, hkind⟩ := hK.1 ci _ hc
  obtain ⟨cf, kf, fi, f, hi, hsl⟩ := hS k hk
  have hlay := hts _ (hin _ (u_in_lay hk))
  unfold u_lay at hlay
  rw [if_neg (by rw [hfin]; decide)] at hlay
  have hst := (u_facts hfc hkC (u_lays hts hin hk) hi).1
  have h6 := u_store hfc hkC hkind hlay hi hd hn hfit
  refine W.putK C.1.1 C.1.2.1 (f := f) ⟨C.1.2.2.2.1, hts _ hlink, ⟨_, _, _, hsame _ hi⟩, hst⟩ (by rw [q2]; exact h6) q1 q3 (by rw [hsl]; exact k2_hasslot (q4 k hk)) rfl rfl d fun H' w1 w2 w3 => ?_
  rw [hsl] at w1 ⊢
  exact K H' _ ls (w2.trans e1) (z_upd e2 ha rfl rfl ⟨_, hc, t_OB.to (V := updV (vp_V fs) k v) ⟨_, w1, q2, q3, t_set q4 hap hk v⟩ (fun j _ => vp_updV_set hl v j)⟩ w3) (e3.put w2 w3 hat.1) e4
theorem z_putF (C : z_Cx p l s m args meth c cc nL own ret G lo t0) (hv : z_pV h a ci k v = some h1) (hc : vwCl[ci]? = some (Cn, T, N)) (hin : ∀ w ∈ u_ws Cn T N, w ∈ wsL_law) (ty0 : Nat → FieldType) (hty : ∀ k, k < N → parseFieldDescriptor (T k).2.2.1 = some (ty0 k)) (hnm : ∀ a, a < N → ∀ b, b < N → a ≠ b → (T a).2.1 ≠ (T b).2.1) (hk : k < N) (hlink : Cond.fieldLink own ix ref (T k).2.1 (T k).2.2.1 ∈ wsL_law) (hsame : ∀ x, s.fieldFound? (T k).1 (T k).2.1 (T k).2.2.1 = some x → s.fieldFound? ref (T k).2.1 (T k).2.2.1 = some x) (hfin : (T k).2.2.2 = true) (hin2 : meth.name = "<init>") (hdecl : (T k).1 = own) {ty : FieldType} (hd : parseFieldDescriptor (T k).2.2.1 = some ty) (hn : narrow ty v = v) (hfit : fits ty v = true) (d : decode cc pc = .ok (.putfield ix, 3)) (K : z_R p l e R s m args below meth c G lo nL cells slots Q (pc + 3) lv st h1 nx) : z_R p l e R s m args below meth c G lo nL cells slots Q pc lv (v :: .ref a :: st) h nx := by
  intro H locs ls e1 e2 e3 e4
  obtain ⟨fs, ha, hl, rfl⟩ := z_pV_spec hv
  have hts := C.1.2.2.2.2
  have hown := C.1.2.2.2.1
  have hK : va_K G.1 vwCl (z_tys G) s := C.2.2.2.2.2.1
  have hat := (e2 a _ ha).1 _ rfl
  obtain ⟨r, g1, cell, q1, q2, q3, q4⟩ := hat.2
  have hr : r = (Cn, T, N) := Option.some.inj (g1.symm.trans hc)
  subst hr
  have hap := va_apart (own := own) hts hin ty0 hty hnm hK hc
  obtain ⟨hS, hfc, kC, hkC, hkind⟩ := hK.1 ci _ hc
  obtain ⟨cf, kf, fi, f, hi, hsl⟩ := hS k hk
  have hlay := hts _ (hin _ (u_in_lay hk))
  unfold u_lay at hlay
  rw [if_pos hfin] at hlay
  have hst := (u_facts hfc hkC (u_lays hts hin hk) hi).1
  have hcf : m.cls = cf := by
    obtain ⟨_, _, c', _, _, _, -, -, hf', -, -, -, hown2, -⟩ := Cond.laysFinal_spec hlay
    have w1 : c' = cf := by have := hi.symm.trans hf'; simp at this; exact this.1.symm
    rw [hdecl] at hown2
    rw [← w1]; exact Option.some.inj (hown.symm.trans hown2)
  have h6 := u_fits hfc hkC hkind (Or.inr hlay) hi hd hn hfit
  refine W.putFinK C.1.1 C.1.2.1 hown (hts _ hlink) (hsame _ hi) hst hcf hin2 (by rw [q2]; exact h6) q1 q3 (by rw [hsl]; exact k2_hasslot (q4 k hk)) rfl rfl d fun H' w1 w2 w3 => ?_
  rw [hsl] at w1 ⊢
  exact K H' _ ls (w2.trans e1) (z_upd e2 ha rfl rfl ⟨_, hc, t_OB.to (V := updV (vp_V fs) k v) ⟨_, w1, q2, q3, t_set q4 hap hk v⟩ (fun j _ => vp_updV_set hl v j)⟩ w3) (e3.put w2 w3 hat.1) e4
theorem z_iald (C : z_Cx p l s m args meth c cc nL own ret G lo t0) (hv : z_aI h a i = some x) (d : decode cc pc = .ok (.iaload, 1)) (K : z_R p l e R s m args below meth c G lo nL cells slots Q (pc + 1) lv (.int x :: st) h nx) : z_R p l e R s m args below meth c G lo nL cells slots Q pc lv (.int i :: .ref a :: st) h nx := by
  intro H locs ls e1 e2 e3 e4
  obtain ⟨n, f, ha, hin, rfl⟩ := z_aI_spec hv
  exact va_iald (D := G.1) C.1.1 C.1.2.1 C.2.2.2.2.2.1 (z_P1 ((e2 a _ ha).1 _ rfl).2) 0 0 rfl rfl hin d (K H locs ls e1 e2 e3 e4)
theorem z_aald (C : z_Cx p l s m args meth c cc nL own ret G lo t0) (hv : z_aR h a i = some b) (d : decode cc pc = .ok (.aaload, 1)) (K : z_R p l e R s m args below meth c G lo nL cells slots Q (pc + 1) lv (.ref b :: st) h nx) : z_R p l e R s m args below meth c G lo nL cells slots Q pc lv (.int i :: .ref a :: st) h nx := by
  intro H locs ls e1 e2 e3 e4
  obtain ⟨n, f, ha, hin, hf⟩ := z_aR_spec hv
  refine va_aldq (D := G.1) C.1.1 C.1.2.1 C.2.2.2.2.2.1 (z_P1 ((e2 a _ ha).1 _ rfl).2) 0 1 rfl rfl hin d ?_
  rw [hf]
  exact K H locs ls e1 e2 e3 e4
theorem z_iast (C : z_Cx p l s m args meth c cc nL own ret G lo t0) (hv : z_sI h a i x = some h1) (d : decode cc pc = .ok (.iastore, 1)) (K : z_R p l e R s m args below meth c G lo nL cells slots Q (pc + 1) lv st h1 nx) : z_R p l e R s m args below meth c G lo nL cells slots Q pc lv (.int x :: .int i :: .ref a :: st) h nx := by
  intro H locs ls e1 e2 e3 e4
  obtain ⟨n, f, ha, hin, rfl⟩ := z_sI_spec hv
  have hK : va_K G.1 vwCl (z_tys G) s := C.2.2.2.2.2.1
  have hat := (e2 a _ ha).1 _ rfl
  refine W.iast C.1.1 C.1.2.1 (cell := vp_cell (G.2 0) (n, .inl f)) hat.2 ((hK.2 0 _ rfl).1 n (fun j => .int (f j))) (fun q => by cases q) (by show ¬ (i < 0 ∨ (arrV _ _ _).slots.size ≤ _); rw [arrV_size]; exact hin) rfl rfl d fun H1 w z oq => ?_
  refine K H1 _ ls (z.trans e1) (z_upd e2 ha rfl rfl ?_ oq) (e3.put z oq hat.1) e4
  show H1[a]? = some (vp_cell _ _)
  rw [w, vp_cell_i, vp_cell_i, arrV_store]
  congr 2
  funext q
  by_cases hq : q = i.toNatClampNeg
  · subst hq
    simp [updV, upd]
  · simp [updV, upd, hq]
theorem z_aastN (C : z_Cx p l s m args meth c cc nL own ret G lo t0) (hv : z_sR h a i none = some h1) (d : decode cc pc = .ok (.aastore, 1)) (K : z_R p l e R s m args below meth c G lo nL cells slots Q (pc + 1) lv st h1 nx) : z_R p l e R s m args below meth c G lo nL cells slots Q pc lv (.null :: .int i :: .ref a :: st) h nx := by
  intro H locs ls e1 e2 e3 e4
  obtain ⟨n, f, ha, hin, rfl⟩ := z_sR_spec hv
  have hK : va_K G.1 vwCl (z_tys G) s := C.2.2.2.2.2.1
  have hat := (e2 a _ ha).1 _ rfl
  refine va_WaastN (C := "java/lang/Object") C.1.1 C.1.2.1 (cell := vp_cell (G.2 1) (n, .inr (.inr (.inr (.inr f))))) hat.2 ((hK.2 1 _ rfl).1 n (fun j => va_rf (f j))) (fun h => by cases h) (by show ¬ (i < 0 ∨ (arrV _ _ _).slots.size ≤ _); rw [arrV_size]; exact hin) rfl rfl d fun H1 w z oq => ?_
  refine K H1 _ ls (z.trans e1) (z_upd e2 ha rfl rfl ?_ oq) (e3.put z oq hat.1) e4
  show H1[a]? = some (vp_cell _ _)
  rw [w, vp_cell_q, vp_cell_q, arrV_store]
  congr 2
  funext q
  by_cases hq : q = i.toNatClampNeg
  · subst hq
    simp [updV, va_up, va_rf]
  · simp [updV, va_up, hq]
theorem z_aast (C : z_Cx p l s m args meth c cc nL own ret G lo t0) (hv : z_sR h a i (some b) = some h1) {u : Unit} (hb : z_ck h b ci = some u) (hc : vwCl[ci]? = some (Cn, T, N)) (hw : Cond.castable Cn "java/lang/Object" ∈ z_ws) (d : decode cc pc = .ok (.aastore, 1)) (K : z_R p l e R s m args below meth c G lo nL cells slots Q (pc + 1) lv st h1 nx) : z_R p l e R s m args below meth c G lo nL cells slots Q pc lv (.ref b :: .int i :: .ref a :: st) h nx := by
  intro H locs ls e1 e2 e3 e4
  obtain ⟨n, f, ha, hin, rfl⟩ := z_sR_spec hv
  obtain ⟨fs, hb⟩ := z_ck_spec hb
  have hK : va_K G.1 vwCl (z_tys G) s := C.2.2.2.2.2.1
  have hat := (e2 a _ ha).1 _ rfl
  obtain ⟨r', hr', cellV, g1, g2, g3, -⟩ := ((e2 b _ hb).1 _ rfl).2
  have hcls := (hK.1 ci _ hc).2
  obtain ⟨kA, comp, k1, k2, k3, -⟩ := (hK.2 1 _ rfl).2
  obtain ⟨c3, c4, hc3, hc4, hasg⟩ := Cond.castable_spec (va_Nw.use (A := args) rfl (C.2.2.2.2.2.2.2.1 _ hw))
  obtain ⟨kC, hkC, -⟩ := hcls.2
  have e5 : c3 = G.1.1 ci := Option.some.inj (hc3.symm.trans hcls.1)
  have e6 : c4 = comp := Option.some.inj (hc4.symm.trans k3)
  subst e5 e6
  obtain ⟨kc4, hkc4, -⟩ := Vm.findClass_spec hc4
  have hlt : i.toNatClampNeg < n := Nat.not_le.mp fun q => hin (Or.inr q)
  have h0 : ¬ i < 0 := fun q => hin (Or.inl q)
  refine W.aast C.1.1 C.1.2.1 (cell := vp_cell (G.2 1) (n, .inr (.inr (.inr (.inr f))))) hat.2 (fun q h => by cases h) (fun h => by cases h) k1 k2 rfl hkc4 ⟨h0, by show _ < (arrV _ _ _).slots.size; rw [arrV_size]; exact hlt⟩ g1 (fun q h => by rw [g3] at h; cases h) (by rw [g2]; exact hkC) (by rw [g2]; exact hasg) rfl rfl d fun H1 w z oq => ?_
  refine K H1 _ ls (z.trans e1) (z_upd e2 ha rfl rfl ?_ oq) (e3.put z oq hat.1) e4
  show H1[a]? = some (vp_cell _ _)
  rw [w, vp_cell_q, vp_cell_q, arrV_store]
  congr 2
  funext q
  by_cases hq : q = i.toNatClampNeg
  · subst hq
    simp [updV, va_up, va_rf]
  · simp [updV, va_up, hq]
theorem z_alen (C : z_Cx p l s m args meth c cc nL own ret G lo t0) (hv : z_al h a = some x) (d : decode cc pc = .ok (.arraylength, 1)) (K : z_R p l e R s m args below meth c G lo nL cells slots Q (pc + 1) lv (.int x :: st) h nx) : z_R p l e R s m args below meth c G lo nL cells slots Q pc lv (.ref a :: st) h nx := by
  intro H locs ls e1 e2 e3 e4
  have hK : va_K G.1 vwCl (z_tys G) s := C.2.2.2.2.2.1
  unfold z_al at hv
  split at hv
  · rename_i r ha
    by_cases ht : r.1 < 3
    · rw [if_pos ht] at hv
      cases hv
      have hat := ((e2 a _ ha).1 _ rfl).2
      obtain ⟨ty, hty⟩ : ∃ ty, (z_tys G)[r.1]? = some (G.2 r.1, ty) := by
        rcases (show r.1 = 0 ∨ r.1 = 1 ∨ r.1 = 2 by omega) with h | h | h <;> rw [h] <;> exact ⟨_, rfl⟩
      exact va_alen (D := G.1) C.1.1 C.1.2.1 hK (z_P1 hat) 0 r.1 rfl hty rfl d (K H locs ls e1 e2 e3 e4)
    · rw [if_neg ht] at hv; cases hv
  · rename_i ha
    cases hv
    obtain ⟨cell, t1, t2, t3, t4, t5, t6, t7⟩ := (e2 a _ ha).2 none rfl
    exact W.alen C.1.1 C.1.2.1 t1 t2 t5 rfl rfl d (K H locs ls e1 e2 e3 e4)
  · cases hv
theorem z_new (C : z_Cx p l s m args meth c cc nL own ret G lo t0) (fs : List Value) (hc : vwCl[ci]? = some (Cn, T, N)) (hin : ∀ w ∈ u_ws Cn T N, w ∈ wsL_law) (ty0 : Nat → FieldType) (hty : ∀ k, k < N → parseFieldDescriptor (T k).2.2.1 = some (ty0 k)) (w1 : Cond.classLink own ix Cn ∈ wsL_law) (w2 : Cond.instantiable Cn N ∈ wsL_law) (w3 : Cond.initialized Cn ∈ wsL_law) (hfs : ∀ j, j < N → defaultValue (ty0 j) = vp_V fs j) (hcells : cells + 1 ≤ R.cells) (hslots : slots + N ≤ R.slots) (d : decode cc pc = .ok (.new ix, 3)) (K : z_R p l e R s m args below meth c G lo nL (cells + 1) (slots + N) Q (pc + 3) lv (.ref nx :: st) (z_up h nx (zO ci fs)) (nx + 1)) : z_R p l e R s m args below meth c G lo nL cells slots Q pc lv st h nx := by
  intro H locs ls e1 e2 e3 e4
  have hts := C.1.2.2.2.2
  have hK : va_K G.1 vwCl (z_tys G) s := C.2.2.2.2.2.1
  have hKn := hK.1 ci _ hc
  have hlo : lo ≤ nx := by rw [← e1]; exact Nat.le_trans C.2.2.2.2.1 e3.1
  refine W.newcK C.1.1 C.1.2.1 C.1.2.2.2.1 (hts _ w1) (hts _ w2) (hts _ w3) rfl d hcells hslots hKn.2.1 e1 fun H1 kC hkC q1 z1 o1 => ?_
  refine K H1 locs ls z1 (z_newhp e2 e1 hlo rfl ⟨_, hc, (u_born ty0 hts hin hKn hkC q1 hty).to hfs⟩ o1) ⟨by rw [z1, ← e1]; exact Nat.le_succ_of_le e3.1, fun x h1 h2 => (o1 x (by rw [← e1]; exact Nat.lt_of_lt_of_le h1 e3.1)).trans (e3.2.1 x h1 h2), e3.2.2⟩ e4
theorem z_newI (C : z_Cx p l s m args meth c cc nL own ret G lo t0) {n : Int32} {n' : Nat} (w1 : Cond.arrayClass .int ∈ wsL_law) (hn : ¬ n < 0) (hN : n.toNatClampNeg = n') (hb : n' * 4 ≤ 536870912) (hcells : cells + 1 ≤ R.cells) (hslots : slots + n' ≤ R.slots) (d : decode cc pc = .ok (.newarray .int, 2)) (K : z_R p l e R s m args below meth c G lo nL (cells + 1) (slots + n') Q (pc + 2) lv (.ref nx :: st) (z_up h nx (zI n' (fun _ => 0))) (nx + 1)) : z_R p l e R s m args below meth c G lo nL cells slots Q pc lv (.int n :: st) h nx := by
  intro H locs ls e1 e2 e3 e4
  have hK : va_K G.1 vwCl (z_tys G) s := C.2.2.2.2.2.1
  have hlo : lo ≤ nx := by rw [← e1]; exact Nat.le_trans C.2.2.2.2.1 e3.1
  refine va_newaK (atype := .int) C.1.1 C.1.2.1 (C.1.2.2.2.2 _ w1) rfl d rfl hn hN hb hcells hslots e1 fun H1 cA q1 z1 o1 hAr hNm => ?_
  have hcA : cA = G.2 0 := Option.some.inj (hNm.symm.trans (hK.2 0 _ rfl).2)
  subst hcA
  exact K H1 locs ls z1 (z_newhp e2 e1 hlo rfl q1 o1) ⟨by rw [z1, ← e1]; exact Nat.le_succ_of_le e3.1, fun x h1 h2 => (o1 x (by rw [← e1]; exact Nat.lt_of_lt_of_le h1 e3.1)).trans (e3.2.1 x h1 h2), e3.2.2⟩ e4
theorem z_newQ (C : z_Cx p l s m args meth c cc nL own ret G lo t0) {n : Int32} {n' : Nat} (w1 : Cond.classLink own ix "java/lang/Object" ∈ wsL_law) (hn : ¬ n < 0) (hN : n.toNatClampNeg = n') (hb : n' * 4 ≤ 536870912) (hcells : cells + 1 ≤ R.cells) (hslots : slots + n' ≤ R.slots) (d : decode cc pc = .ok (.anewarray ix, 3)) (K : z_R p l e R s m args below meth c G lo nL (cells + 1) (slots + n') Q (pc + 3) lv (.ref nx :: st) (z_up h nx (zQ n' (fun _ => none))) (nx + 1)) : z_R p l e R s m args below meth c G lo nL cells slots Q pc lv (.int n :: st) h nx := by
  intro H locs ls e1 e2 e3 e4
  subst hN
  subst e1
  have hK : va_K G.1 vwCl (z_tys G) s := C.2.2.2.2.2.1
  have hlo : lo ≤ H.size := Nat.le_trans C.2.2.2.2.1 e3.1
  refine W.anew C.1.1 C.1.2.1 C.1.2.2.2.1 (C.1.2.2.2.2 _ w1) (va_AO.use C.2.2.2.2.2.2.2.2.2.2.2.1) rfl d rfl hn hb hcells hslots fun cA kA comp f1 f2 f3 f4 => ?_
  obtain ⟨kA2, comp2, k1, k2, k3, k4⟩ := (hK.2 1 _ rfl).2
  have hcA : cA = G.2 1 := Option.some.inj (f1.symm.trans k4)
  subst hcA
  generalize hH1 : H.push ({ cls := G.2 1, slots := Array.replicate n.toNatClampNeg .null, vm := .none } : Cell) = H1
  have z1 : H1.size = H.size + 1 := by rw [← hH1, Array.size_push]
  have q1 : H1[H.size]? = some (arrV (G.2 1) n.toNatClampNeg (fun _ => .null)) := by rw [← hH1, Array.getElem?_push_size, ← arrV_new]
  have o1 : ∀ q : Nat, q < H.size → H1[q]? = H[q]? := fun q hq => by rw [← hH1, Array.getElem?_push, if_neg (Nat.ne_of_lt hq)]
  exact K H1 locs ls z1 (z_newhp e2 rfl hlo rfl q1 o1) ⟨by rw [z1]; exact Nat.le_succ_of_le e3.1, fun x h1 h2 => (o1 x (Nat.lt_of_lt_of_le h1 e3.1)).trans (e3.2.1 x h1 h2), e3.2.2⟩ e4
theorem z_cast (C : z_Cx p l s m args meth c cc nL own ret G lo t0) {u : Unit} (hb : z_ck h b ci = some u) (hc : vwCl[ci]? = some (Cn, T, N)) (w1 : Cond.classLink own ix Cn ∈ wsL_law) (d : decode cc pc = .ok (.checkcast ix, 3)) (K : z_R p l e R s m args below meth c G lo nL cells slots Q (pc + 3) lv (.ref b :: st) h nx) : z_R p l e R s m args below meth c G lo nL cells slots Q pc lv (.ref b :: st) h nx := by
  intro H locs ls e1 e2 e3 e4
  have hK : va_K G.1 vwCl (z_tys G) s := C.2.2.2.2.2.1
  obtain ⟨fs, hb⟩ := z_ck_spec hb
  exact va_castS C.1.1 C.1.2.1 C.1.2.2.2.1 (C.1.2.2.2.2 _ w1) (hK.1 ci _ hc).2 (va_recv hK (z_P1 ((e2 b _ hb).1 _ rfl).2) hc (q0 := 0) rfl) d (K H locs ls e1 e2 e3 e4)
theorem z_gets (C : z_Cx p l s m args meth c cc nL own ret G lo t0) (w1 : Cond.fieldLink own ix "java/util/ArrayList" "DEFAULTCAPACITY_EMPTY_ELEMENTDATA" "[Ljava/lang/Object;" ∈ wsL_law) (d : decode cc pc = .ok (.getstatic ix, 3)) (K : z_R p l e R s m args below meth c G lo nL cells slots Q (pc + 3) lv (.ref t0 :: st) h nx) : z_R p l e R s m args below meth c G lo nL cells slots Q pc lv st h nx := by
  intro H locs ls e1 e2 e3 e4
  exact va_gets C.1.1 C.1.2.1 C.2.2.2.2.2.2.1.1 e3 C.1.2.2.2.1 (C.1.2.2.2.2 _ w1) (fun _ h9 => h9) d (K H locs ls e1 e2 e3 e4)
theorem z_max {y : Int32} (C : z_Cx p l s m args meth c cc nL own ret G lo t0) (w1 : Cond.methodLink own ix Lib.Math.max.name ∈ wsL_law) (w2 : Cond.static Lib.Math.max.name ∈ wsL_law) (w3 : Cond.initialized "java/lang/Math" ∈ wsL_law) (w4 : Cond.code Lib.Math.max.name Lib.Math.max.code 2 (some .int) ∈ wsL_law) (hfr : 1 ≤ R.frames) (hlc : (st.map fun v => v.category).sum + 13 ≤ R.locals) (hcl : cells ≤ R.cells) (hsl : slots ≤ R.slots) (d : decode cc pc = .ok (.invokestatic ix, 3)) (K : z_R p l e R s m args below meth c G lo nL cells slots Q (pc + 3) lv (.int (if x < y then y else x) :: st) h nx) : z_R p l e R s m args below meth c G lo nL cells slots Q pc lv (.int y :: .int x :: st) h nx := by
  intro H locs ls e1 e2 e3 e4
  have hts := C.1.2.2.2.2
  exact va_mmax C.1.1 C.1.2.1 (C.1.2.2.1.trans e4.1.symm) C.1.2.2.2.1 (hts _ w1) (hts _ w2) (hts _ w3) (hts _ w4) hfr hlc hcl hsl d (K H locs ls e1 e2 e3 e4)
theorem z_min {y : Int32} (C : z_Cx p l s m args meth c cc nL own ret G lo t0) (w1 : Cond.methodLink own ix Lib.Math.min.name ∈ wsL_law) (w2 : Cond.static Lib.Math.min.name ∈ wsL_law) (w3 : Cond.initialized "java/lang/Math" ∈ wsL_law) (w4 : Cond.code Lib.Math.min.name Lib.Math.min.code 2 (some .int) ∈ wsL_law) (hfr : 1 ≤ R.frames) (hlc : (st.map fun v => v.category).sum + 13 ≤ R.locals) (hcl : cells ≤ R.cells) (hsl : slots ≤ R.slots) (d : decode cc pc = .ok (.invokestatic ix, 3)) (K : z_R p l e R s m args below meth c G lo nL cells slots Q (pc + 3) lv (.int (if y < x then y else x) :: st) h nx) : z_R p l e R s m args below meth c G lo nL cells slots Q pc lv (.int y :: .int x :: st) h nx := by
  intro H locs ls e1 e2 e3 e4
  have hts := C.1.2.2.2.2
  exact va_mmin C.1.1 C.1.2.1 (C.1.2.2.1.trans e4.1.symm) C.1.2.2.2.1 (hts _ w1) (hts _ w2) (hts _ w3) (hts _ w4) hfr hlc hcl hsl d (K H locs ls e1 e2 e3 e4)
theorem z_obj (C : z_Cx p l s m args meth c cc nL own ret G lo t0) (w1 : Cond.methodLink own ix objectInit ∈ wsL_law) (w2 : Cond.instanceMethod objectInit ∈ wsL_law) (w3 : Cond.code objectInit ⟨#[0xb1]⟩ 1 none ∈ wsL_law) (hfr : 1 ≤ R.frames) (hlc : (st.map fun v => v.category).sum + 12 ≤ R.locals) (d : decode cc pc = .ok (.invokespecial ix, 3)) (K : z_R p l e R s m args below meth c G lo nL cells slots Q (pc + 3) lv st h nx) : z_R p l e R s m args below meth c G lo nL cells slots Q pc lv (.ref a :: st) h nx := by
  intro H locs ls e1 e2 e3 e4
  have hts := C.1.2.2.2.2
  exact W.objInit C.1.1 C.1.2.1 C.1.2.2.2.1 (hts _ w1) (hts _ w2) (hts _ w3) rfl (by rw [C.1.2.2.1]; exact e4.1) rfl d hfr (by show 2 * 0 + _ + 12 ≤ _; omega) (K H locs ls e1 e2 e3 e4)
end ZM
end
section
theorem z_met {l : Launch} {y : MethodName} {ws : List Cond} {rm : Room} {Pc : Array Value → State → Prop} {Qc : Array Value → State → Outcome → State → Prop} {XC : String → State → State → Prop} {mc ms : Nat} {free : Addr → Prop} (hM : vx_Met l y ws rm Pc Qc XC mc ms free) (hX : ∀ E st t, ¬ XC E st t) : Met l y ws rm Pc Qc mc ms free := by
  intro p e ha hc hk s m args below hf happ hP hK
  obtain ⟨n, o, h1, h2, h3, h4⟩ := hM p e ha hc hk s m args below hf happ hP hK
  refine ⟨n, o, h1, h2, h3, ?_⟩
  rcases h4 with h4 | ⟨q, -, E, ce, L, hx, -⟩
  · exact h4
  · exact absurd hx (hX _ _ _)
theorem z_noX {G : zG} {lo : Nat} {w : Option Value × zH × Nat} : ∀ E st t, ¬ z_qx G lo (.inr w) E st t := by
  rintro E st t ⟨h1, q, -⟩
  cases q
section ZCALL
variable {p : Program} {l : Launch} {e : Env} {R : Room} {s : State} {m : MethodId} {args : Array Value} {below : List Frame} {meth : Method} {c : Code} {G : zG} {lo t0 nL cells slots : Nat} {Q : State → Prop} {pc : Nat} {lv lv' : List (Nat × Value)} {st rest stk : List Value} {h h1 : zH} {nx n1 : Nat} {cc : ByteArray} {own : String} {ret : Option FieldType}
variable {Cn : String} {T : u_T} {N ci ix n b maxL fr lc mc ms : Nat} {y : MethodName} {bytes : ByteArray} {rt : Option FieldType} {As : List Value} {oo : zV} {v : Option Value} {E : String}
/-- a call, from any heap of the point -/
def z_Ca (p : Program) (l : Launch) (e : Env) (R : Room) (s : State) (m : MethodId) (args : Array Value) (below : List Frame) (meth : Method) (c : Code) (G : zG) (lo nL cells slots mc ms pc : Nat) (lv : List (Nat × Value)) (stk rest : List Value) (h : zH) (nx : Nat) (oo : zV) : Prop :=
  ∀ (H : Heap) (locs : List Loc) (ls : Array Slot), H.size = nx → z_hp G lo s h H → va_S (fun z : Nat => lo ≤ z) s.heap H locs → lv_has ls nL lv → ∃ a : Array Value, vx_Run p l e R s m args below meth c H locs cells slots mc ms (F0 m pc ls stk) rest (z_qn G lo oo a) (z_qx G lo oo) (fun z : Nat => lo ≤ z)
theorem z_goN {kc ks : Nat} (st' : List Value) (hr : z_Ca p l e R s m args below meth c G lo nL cells slots mc ms pc lv stk rest h nx (.inr (v, h1, n1))) (hst : v.toList ++ rest = st') (hkc : cells + mc ≤ kc) (hks : slots + ms ≤ ks) (K : z_R p l e R s m args below meth c G lo nL kc ks Q (pc + 3) lv st' h1 n1) : z_R p l e R s m args below meth c G lo nL cells slots Q pc lv stk h nx := by
  intro H locs ls e1 e2 e3 e4 T hT X
  obtain ⟨a, hr⟩ := hr H locs ls e1 e2 e3 e4
  subst hst
  rcases hr T hT X with ⟨v', st₀, t, T', L, h0, X', hL, k1, k2, ⟨v9, h9, n9, q1, q2, q3, q4, hF⟩, go⟩ | ⟨q, st₀, t, T', L, E, ce, h0, X', hL, k1, k2, ⟨h9, q1, -⟩, -⟩
  · cases q1
    cases q2
    obtain ⟨-, -, k3⟩ := vx_keep h0 k1 e3 (fun _ _ h => h) (fun _ h => h) hL hF
    have hal : s.vm.Alike t.vm := by rw [← k2]; exact X'.warmed.alike
    obtain ⟨t2, a1, b1⟩ := K T'.heap (locs ++ L) ls (by rw [k1]; exact q3) (by rw [k1]; exact q4.moved hal.symm) k3 e4 T' rfl (stand_widen X' hkc hks)
    exact ⟨t2, go t2 a1, b1⟩
  · cases q1
/-- what the callee throws goes on to the caller -/
theorem z_goX (C : z_Cx p l s m args meth c cc nL own ret G lo t0) (ho : own ≠ RL) {k1 k2 : Nat} (hr : z_Ca p l e R s m args below meth c G lo nL cells slots mc ms pc lv stk rest h nx (.inl (E, h1))) (hc : cells + mc ≤ k1) (hs : slots + ms ≤ k2) : z_R p l e R s m args below meth c G lo nL cells slots (vx_MQ below (z_qn G lo (.inl (E, h1))) (z_qx G lo (.inl (E, h1))) args s k1 k2 (fun z : Nat => lo ≤ z)) pc lv stk h nx := by
  intro H locs ls e1 e2 e3 e4 T hT X
  obtain ⟨a, hr⟩ := hr H locs ls e1 e2 e3 e4
  rcases hr T hT X with ⟨v', st₀, t, T', L, h0, X', hL, k1, k2, ⟨v9, h9, n9, q1, -⟩, go⟩ | ⟨q, st₀, t, T', L, E', ce, h0, X', hL, k1, k2, ⟨h9, q1, q2, hF⟩, hce, hcv, hcl, stp⟩
  · cases q1
  · cases q1
    obtain ⟨-, -, k3⟩ := vx_keep h0 k1 e3 (fun _ _ h => h) (fun _ h => h) hL hF
    have hal : s.vm.Alike t.vm := by rw [← k2]; exact X'.warmed.alike
    have K := vx_out (args := args) (m := m) (p := p) (l := l) (e := e) (R := R) (below := below) (Qc := z_qn G lo (.inl (E, h1))) (XC := z_qx G lo (.inl (E, h1))) (free := fun z : Nat => lo ≤ z) (pc := pc) (ls := ls) (rest := rest) (H := T'.heap) (locs := locs ++ L) (q := q) (fun x hx => (C.2.2.2.1.elim (fun q => absurd q ho) (fun q => q x hx)).elim) C.2.2.1 (by rw [k1]; exact hce) hcv hcl (fun t2 ht2 hal2 => ⟨h1, rfl, by rw [ht2, k1]; exact q2.moved (hal.symm.trans hal2), k3.F ht2⟩) k3.2.2 hc hs
    obtain ⟨t2, a1, b1⟩ := K T' rfl X'
    exact ⟨t2, stp.trans a1, b1⟩
theorem z_callV (C : z_Cx p l s m args meth c cc nL own ret G lo t0) (hM : z_Met l y bytes maxL rt fr lc G lo t0 (.ref b :: As) h nx oo mc ms) {u : Unit} (hq : z_ck h b ci = some u) (hc : vwCl[ci]? = some (Cn, T, N)) (w1 : Cond.methodLink own ix y ∈ wsL_law) (w2 : Cond.instanceMethod y ∈ wsL_law) (w3 : Cond.selects Cn y y ∈ wsL_law) (w4 : Cond.initialized Cn ∈ wsL_law) (w5 : Cond.code y bytes maxL rt ∈ wsL_law) (hd : y.cls = Cn ∧ y.cls ≠ "java/lang/invoke/MethodHandle" ∧ y.cls ≠ "java/lang/invoke/VarHandle" ∧ (parseMethodDescriptor y.desc).map (fun d => d.parameters.length) = some n) (hR : fr + 1 ≤ R.frames ∧ 8 + (maxL + 11) + lc ≤ R.locals) (hn : As.length = n) (hcat : (rest.map fun v => v.category).sum ≤ 8) (d : decode cc pc = .ok (.invokevirtual ix, 3)) (hf : cells + mc ≤ R.cells ∧ slots + ms ≤ R.slots) : z_Ca p l e R s m args below meth c G lo nL cells slots mc ms pc lv (As.reverse ++ .ref b :: rest) rest h nx oo := by
  intro H locs ls e1 e2 e3 e4
  obtain ⟨fs, hb⟩ := z_ck_spec hq
  have hK : va_K G.1 vwCl (z_tys G) s := C.2.2.2.2.2.1
  have hts := C.1.2.2.2.2
  exact ⟨_, vx_runV C.1 hM (cwV n hts (WL_cons w1 (WL_cons w2 (WL_cons w3 (WL_cons w4 (WL_cons w5 WL_in))))) rfl rfl rfl hd hR) ⟨z_blind, va_recv hK (z_P1 ((e2 b _ hb).1 _ rfl).2) hc (q0 := 0) rfl, fun U hU hW => ⟨rfl, z_pre C e1 e2 e3 U hU hW⟩⟩ rfl hn e4.1 rfl (lv_room hcat) d hf⟩
theorem z_callS (C : z_Cx p l s m args meth c cc nL own ret G lo t0) (hM : z_Met l y bytes maxL rt fr lc G lo t0 As h nx oo mc ms) (w1 : Cond.methodLink own ix y ∈ wsL_law) (w2 : Cond.static y ∈ wsL_law) (w4 : Cond.initialized y.cls ∈ wsL_law) (w5 : Cond.code y bytes maxL rt ∈ wsL_law) (hd : y.cls ≠ "java/lang/invoke/MethodHandle" ∧ y.cls ≠ "java/lang/invoke/VarHandle" ∧ (parseMethodDescriptor y.desc).map (fun d => d.parameters.length) = some n) (hR : fr + 1 ≤ R.frames ∧ 8 + (maxL + 11) + lc ≤ R.locals) (hn : As.length = n) (hcat : (rest.map fun v => v.category).sum ≤ 8) (d : decode cc pc = .ok (.invokestatic ix, 3)) (hf : cells + mc ≤ R.cells ∧ slots + ms ≤ R.slots) : z_Ca p l e R s m args below meth c G lo nL cells slots mc ms pc lv (As.reverse ++ rest) rest h nx oo := by
  intro H locs ls e1 e2 e3 e4
  have hts := C.1.2.2.2.2
  exact ⟨_, vx_runS C.1 hM (va_cwS n hts (WL_cons w1 (WL_cons w2 (WL_cons w4 (WL_cons w5 WL_in)))) rfl rfl rfl hd hR) ⟨z_blind, fun U hU hW => ⟨rfl, z_pre C e1 e2 e3 U hU hW⟩⟩ rfl hn e4.1 rfl (lv_room hcat) d hf⟩
theorem z_callSN {host : String} {w : Option Value × zH × Nat} (C : z_Cx p l s m args meth c cc nL own ret G lo t0) (hM : z_Met l y bytes maxL rt fr lc G lo t0 As h nx (.inr w) mc ms) (w1 : va_Nw (.methodLinkNest own ix y host) s) (w2 : Cond.static y ∈ wsL_law) (w4 : Cond.initialized y.cls ∈ wsL_law) (w5 : Cond.code y bytes maxL rt ∈ wsL_law) (hd : y.cls ≠ "java/lang/invoke/MethodHandle" ∧ y.cls ≠ "java/lang/invoke/VarHandle" ∧ (parseMethodDescriptor y.desc).map (fun d => d.parameters.length) = some n) (hR : fr + 1 ≤ R.frames ∧ 8 + (maxL + 11) + lc ≤ R.locals) (hn : As.length = n) (hcat : (rest.map fun v => v.category).sum ≤ 8) (d : decode cc pc = .ok (.invokestatic ix, 3)) (hf : cells + mc ≤ R.cells ∧ slots + ms ≤ R.slots) : z_Ca p l e R s m args below meth c G lo nL cells slots mc ms pc lv (As.reverse ++ rest) rest h nx (.inr w) := by
  intro H locs ls e1 e2 e3 e4
  have hts := C.1.2.2.2.2
  exact ⟨_, fun T hT X => Or.inl (va_runSN C.1 (z_met hM z_noX) ⟨va_cnB n hts (WL_cons w5 WL_in) rfl rfl rfl w1 (hts _ w4) hd hR, hts _ w2, trivial⟩ ⟨z_blind, fun U hU hW => ⟨rfl, z_pre C e1 e2 e3 U hU hW⟩⟩ rfl hn e4.1 rfl (lv_room hcat) d hf T hT X)⟩
theorem z_callI {w : Option Value × zH × Nat} (C : z_Cx p l s m args meth c cc nL own ret G lo t0) (hM : z_Met l y bytes maxL none fr lc G lo t0 (.ref b :: As) h nx (.inr w) mc ms) (hy : y.name = "<init>") (w1 : Cond.methodLink own ix y ∈ wsL_law) (w2 : Cond.instanceMethod y ∈ wsL_law) (w4 : Cond.initialized y.cls ∈ wsL_law) (w5 : Cond.code y bytes maxL none ∈ wsL_law) (hd : y.cls ≠ "java/lang/invoke/MethodHandle" ∧ y.cls ≠ "java/lang/invoke/VarHandle" ∧ (parseMethodDescriptor y.desc).map (fun d => d.parameters.length) = some n) (hR : fr + 1 ≤ R.frames ∧ 8 + (maxL + 11) + lc ≤ R.locals) (hn : As.length = n) (hcat : (rest.map fun v => v.category).sum ≤ 8) (d : decode cc pc = .ok (.invokespecial ix, 3)) (hf : cells + mc ≤ R.cells ∧ slots + ms ≤ R.slots) : z_Ca p l e R s m args below meth c G lo nL cells slots mc ms pc lv (As.reverse ++ .ref b :: rest) rest h nx (.inr w) := by
  intro H locs ls e1 e2 e3 e4
  have hts := C.1.2.2.2.2
  exact ⟨_, fun T hT X => Or.inl (va_runI C.1 (z_met hM z_noX) (cwI n hts (WL_cons w5 WL_in) rfl rfl rfl (hts _ w4) (hts _ w1) (hts _ w2) hy hd hR) ⟨z_blind, fun U hU hW => ⟨rfl, z_pre C e1 e2 e3 U hU hW⟩⟩ rfl hn e4.1 rfl (lv_room hcat) d hf T hT X)⟩
end ZCALL
section ZRET
variable {p : Program} {l : Launch} {e : Env} {R : Room} {s : State} {m : MethodId} {args : Array Value} {below : List Frame} {meth : Method} {c : Code} {G : zG} {lo t0 nL cells slots k1 k2 : Nat} {pc : Nat} {lv : List (Nat × Value)} {h : zH} {nx : Nat} {cc : ByteArray} {own : String} {oo : zV}
theorem z_iret {x : Int32} (C : z_Cx p l s m args meth c cc nL own (some .int) G lo t0) (hoo : oo = .inr (some (.int x), h, nx)) (hc : cells ≤ k1) (hs : slots ≤ k2) (d : decode cc pc = .ok (.ireturn, 1)) : z_R p l e R s m args below meth c G lo nL cells slots (vx_MQ below (z_qn G lo oo) (z_qx G lo oo) args s k1 k2 (fun z : Nat => lo ≤ z)) pc lv [.int x] h nx := by
  intro H locs ls e1 e2 e3 e4
  refine W.widen hc hs (vx_ret ?_)
  exact W.iret C.1.1 C.1.2.1 C.2.1 (fun t ht hW => ⟨_, h, nx, hoo, rfl, by rw [ht]; exact e1, by rw [ht]; exact e2.moved hW.alike, e3.F ht⟩) e3.2.2 d C.2.2.1
theorem z_zret {x : Int32} (C : z_Cx p l s m args meth c cc nL own (some .boolean) G lo t0) (hx : x = 0 ∨ x = 1) (hoo : oo = .inr (some (.int x), h, nx)) (hc : cells ≤ k1) (hs : slots ≤ k2) (d : decode cc pc = .ok (.ireturn, 1)) : z_R p l e R s m args below meth c G lo nL cells slots (vx_MQ below (z_qn G lo oo) (z_qx G lo oo) args s k1 k2 (fun z : Nat => lo ≤ z)) pc lv [.int x] h nx := by
  intro H locs ls e1 e2 e3 e4
  refine W.widen hc hs (vx_ret ?_)
  exact W.zret C.1.1 C.1.2.1 C.2.1 (by rcases hx with rfl | rfl <;> rfl) (fun t ht hW => ⟨_, h, nx, hoo, rfl, by rw [ht]; exact e1, by rw [ht]; exact e2.moved hW.alike, e3.F ht⟩) e3.2.2 d C.2.2.1
theorem z_lret {x : Int64} (C : z_Cx p l s m args meth c cc nL own (some .long) G lo t0) (hoo : oo = .inr (some (.long x), h, nx)) (hc : cells ≤ k1) (hs : slots ≤ k2) (d : decode cc pc = .ok (.lreturn, 1)) : z_R p l e R s m args below meth c G lo nL cells slots (vx_MQ below (z_qn G lo oo) (z_qx G lo oo) args s k1 k2 (fun z : Nat => lo ≤ z)) pc lv [.long x] h nx := by
  intro H locs ls e1 e2 e3 e4
  refine W.widen hc hs (vx_ret ?_)
  exact W.lret C.1.1 C.1.2.1 C.2.1 (fun t ht hW => ⟨_, h, nx, hoo, rfl, by rw [ht]; exact e1, by rw [ht]; exact e2.moved hW.alike, e3.F ht⟩) e3.2.2 d C.2.2.1
theorem z_aret {rt : FieldType} {x : Nat} (C : z_Cx p l s m args meth c cc nL own (some rt) G lo t0) (hrt : (∃ n, rt = .object n) ∨ ∃ t, rt = .array t) (hoo : oo = .inr (some (.ref x), h, nx)) (hc : cells ≤ k1) (hs : slots ≤ k2) (d : decode cc pc = .ok (.areturn, 1)) : z_R p l e R s m args below meth c G lo nL cells slots (vx_MQ below (z_qn G lo oo) (z_qx G lo oo) args s k1 k2 (fun z : Nat => lo ≤ z)) pc lv [.ref x] h nx := by
  intro H locs ls e1 e2 e3 e4
  refine W.widen hc hs (vx_ret ?_)
  exact W.aret C.1.1 C.1.2.1 C.2.1 hrt (Or.inr ⟨_, rfl⟩) (fun t ht hW => ⟨_, h, nx, hoo, rfl, by rw [ht]; exact e1, by rw [ht]; exact e2.moved hW.alike, e3.F ht⟩) e3.2.2 d C.2.2.1
theorem z_vret (C : z_Cx p l s m args meth c cc nL own none G lo t0) (hoo : oo = .inr (none, h, nx)) (hc : cells ≤ k1) (hs : slots ≤ k2) (d : decode cc pc = .ok (.return_, 1)) : z_R p l e R s m args below meth c G lo nL cells slots (vx_MQ below (z_qn G lo oo) (z_qx G lo oo) args s k1 k2 (fun z : Nat => lo ≤ z)) pc lv [] h nx := by
  intro H locs ls e1 e2 e3 e4
  refine W.widen hc hs (vx_ret ?_)
  exact W.vret C.1.1 C.1.2.1 C.2.1 (fun t ht hW => ⟨_, h, nx, hoo, rfl, by rw [ht]; exact e1, by rw [ht]; exact e2.moved hW.alike, e3.F ht⟩) e3.2.2 d C.2.2.1
theorem z_throw {cls text : String} {names : List String} {ik is ic : Nat} {rest : List Value} {ret : Option FieldType} (C : z_Cx p l s m args meth c cc nL own ret G lo t0) (ho : own ≠ RL) (hl : l.stackTraces = false) (hcls : Bundle.fit cls = true) (hnames : ∀ n ∈ names, Bundle.fit n = true) (w1 : Cond.classLink own ik cls ∈ wsL_law) (w2 : Cond.initialized cls ∈ wsL_law) (hstr : (own, is, text) ∈ z_ss) (hg : ∀ w ∈ (vx_atS own ic cls names).filter goodWord, w ∈ wsL_law) (hb : ∀ w ∈ (vx_atS own ic cls names).filter (fun w => !goodWord w), w ∈ Cond.castable cls cls :: z_ds) (hca : Cond.castable cls cls ∈ z_ws)
    (hgood : ∀ w ∈ Cond.classLink own ik cls :: Cond.initialized cls :: vx_atS own ic cls names, vx_ot w = true)
    (d0 : decode cc pc = .ok (.new ik, 3)) (d3 : decode cc (pc + 3) = .ok (.dup, 1)) (d4 : decode cc (pc + 4) = .ok (.ldc is, 2)) (d6 : decode cc (pc + 6) = .ok (.invokespecial ic, 3)) (d9 : decode cc (pc + 9) = .ok (.athrow, 1))
    (hRf : names.length + 3 < R.frames) (hRl : (rest.map fun v => v.category).sum + (13 * (names.length + 1) + 43) ≤ R.locals) (hRc : cells + 1 ≤ R.cells) (hRs : slots + 6 ≤ R.slots) (hoo : oo = .inl (cls, h)) (hc : cells + 1 ≤ k1) (hs : slots + 6 ≤ k2) : z_R p l e R s m args below meth c G lo nL cells slots (vx_MQ below (z_qn G lo oo) (z_qx G lo oo) args s k1 k2 (fun z : Nat => lo ≤ z)) pc lv rest h nx := by
  intro H locs ls e1 e2 e3 e4
  have hts := C.1.2.2.2.2
  obtain ⟨sa, hsa⟩ := C.2.2.2.2.2.2.2.2.2.2.2.2.1 _ hstr
  have hcw : (Cond.castable cls cls).before args s = true := va_Nw.use (A := args) rfl (C.2.2.2.2.2.2.2.1 _ hca)
  refine vx_throwS C.1.1 C.1.2.1 hl C.1.2.2.2.1 hcls hnames (hts _ w1) (hts _ w2) hsa (vx_hat (B := Cond.castable cls cls :: z_ds) (fun w hw => hts w (hg w hw)) hb (vx_c hcw (fun w hw => by obtain ⟨y, rfl⟩ := z_ds_declares w hw; exact va_Nw.use (A := args) rfl (C.2.2.2.2.2.2.2.2.2.2.2.2.2 _ hw)))) hgood C.2.2.2.2.2.2.1.2.1 C.2.2.2.2.2.2.1.2.2 e3 (e4.1.trans C.1.2.2.1.symm) d0 d3 d4 d6 d9 (fun x hx => (C.2.2.2.1.elim (fun q => absurd q ho) (fun q => q x hx)).elim) hRf hRl hRc hRs C.2.2.1 (fun t hal hz hk => ⟨h, hoo, ?_, ?_⟩) e3.2.2 hc hs
  · intro q c hq
    refine ⟨fun e he => ⟨((e2 q c hq).1 e he).1, ((e2 q c hq).1 e he).2.kept (hk q ((e2 q c hq).1 e he).2.lt)⟩, fun w he => ?_⟩
    exact z_ou.moved hal (z_ou.kept ((e2 q c hq).2 w he) (fun b hb _ => hk b hb))
  · exact ⟨Nat.le_trans e3.1 hz, fun q h1 h2 => (hk q (Nat.lt_of_lt_of_le h1 e3.1)).trans (e3.2.1 q h1 h2)⟩
theorem z_throwW {cls text : String} {names : List String} {ik is ic : Nat} {rest : List Value} {ret : Option FieldType} (C : z_Cx p l s m args meth c cc nL own ret G lo t0) (ho : own ≠ RL) (hl : l.stackTraces = false) (hcls : Bundle.fit cls = true) (hnames : ∀ n ∈ names, Bundle.fit n = true) (w1 : Cond.classLink own ik cls ∈ wsL_law) (w2 : Cond.initialized cls ∈ wsL_law) (hstr : (own, is, text) ∈ z_ss) (hg : ∀ w ∈ (vx_atS own ic cls names).filter goodWord, w ∈ wsL_law) (hb : ∀ w ∈ (vx_atS own ic cls names).filter (fun w => !goodWord w), w ∈ Cond.castable cls cls :: z_ds) (hca : Cond.castable cls cls ∈ z_ws)
    (hgood : ∀ w ∈ Cond.classLink own ik cls :: Cond.initialized cls :: vx_atS own ic cls names, vx_ot w = true)
    (d0 : decode cc pc = .ok (.new ik, 3)) (d3 : decode cc (pc + 3) = .ok (.dup, 1)) (d4 : decode cc (pc + 4) = .ok (.ldc_w is, 3)) (d6 : decode cc (pc + 7) = .ok (.invokespecial ic, 3)) (d9 : decode cc (pc + 10) = .ok (.athrow, 1))
    (hRf : names.length + 3 < R.frames) (hRl : (rest.map fun v => v.category).sum + (13 * (names.length + 1) + 43) ≤ R.locals) (hRc : cells + 1 ≤ R.cells) (hRs : slots + 6 ≤ R.slots) (hoo : oo = .inl (cls, h)) (hc : cells + 1 ≤ k1) (hs : slots + 6 ≤ k2) : z_R p l e R s m args below meth c G lo nL cells slots (vx_MQ below (z_qn G lo oo) (z_qx G lo oo) args s k1 k2 (fun z : Nat => lo ≤ z)) pc lv rest h nx := by
  intro H locs ls e1 e2 e3 e4
  have hts := C.1.2.2.2.2
  obtain ⟨sa, hsa⟩ := C.2.2.2.2.2.2.2.2.2.2.2.2.1 _ hstr
  have hcw : (Cond.castable cls cls).before args s = true := va_Nw.use (A := args) rfl (C.2.2.2.2.2.2.2.1 _ hca)
  refine vx_throwSW C.1.1 C.1.2.1 hl C.1.2.2.2.1 hcls hnames (hts _ w1) (hts _ w2) hsa (vx_hat (B := Cond.castable cls cls :: z_ds) (fun w hw => hts w (hg w hw)) hb (vx_c hcw (fun w hw => by obtain ⟨y, rfl⟩ := z_ds_declares w hw; exact va_Nw.use (A := args) rfl (C.2.2.2.2.2.2.2.2.2.2.2.2.2 _ hw)))) hgood C.2.2.2.2.2.2.1.2.1 C.2.2.2.2.2.2.1.2.2 e3 (e4.1.trans C.1.2.2.1.symm) d0 d3 d4 d6 d9 (fun x hx => (C.2.2.2.1.elim (fun q => absurd q ho) (fun q => q x hx)).elim) hRf hRl hRc hRs C.2.2.1 (fun t hal hz hk => ⟨h, hoo, ?_, ?_⟩) e3.2.2 hc hs
  · intro q c hq
    refine ⟨fun e he => ⟨((e2 q c hq).1 e he).1, ((e2 q c hq).1 e he).2.kept (hk q ((e2 q c hq).1 e he).2.lt)⟩, fun w he => ?_⟩
    exact z_ou.moved hal (z_ou.kept ((e2 q c hq).2 w he) (fun b hb _ => hk b hb))
  · exact ⟨Nat.le_trans e3.1 hz, fun q h1 h2 => (hk q (Nat.lt_of_lt_of_le h1 e3.1)).trans (e3.2.1 q h1 h2)⟩
end ZRET
end
section
section ZL
variable {p : Program} {l : Launch} {e : Env} {R : Room} {s : State} {m : MethodId} {args : Array Value} {below : List Frame} {meth : Method} {c : Code} {G : zG} {lo t0 nL cells slots : Nat} {Q : State → Prop} {pc : Nat} {lv : List (Nat × Value)} {st : List Value} {h : zH} {nx : Nat} {cc : ByteArray} {own : String} {ret : Option FieldType}
variable {Om : Type} {o : Om} {n : Nat}

theorem zl1 {A : Type} {f : (A → Option Om) → A → Option Om} {a1 : A} (LV : A → List (Nat × Value)) (HP : A → zH) (NX : A → Nat) (hM : wl1 f n a1 = some o) (hs : ∀ rec : A → Option Om, (∀ a2, rec a2 = some o → z_R p l e R s m args below meth c G lo nL cells slots Q pc (LV a2) st (HP a2) (NX a2)) → ∀ a2, f rec a2 = some o → z_R p l e R s m args below meth c G lo nL cells slots Q pc (LV a2) st (HP a2) (NX a2)) : z_R p l e R s m args below meth c G lo nL cells slots Q pc (LV a1) st (HP a1) (NX a1) :=
  wl1_i (P := fun M a2 => M = some o → z_R p l e R s m args below meth c G lo nL cells slots Q pc (LV a2) st (HP a2) (NX a2)) (fun _ q => nomatch q) hs n a1 hM
theorem zl2 {A : Type} {B : Type} {f : (A → B → Option Om) → A → B → Option Om} {a1 : A} {b1 : B} (LV : A → B → List (Nat × Value)) (HP : A → B → zH) (NX : A → B → Nat) (hM : wl2 f n a1 b1 = some o) (hs : ∀ rec : A → B → Option Om, (∀ a2 b2, rec a2 b2 = some o → z_R p l e R s m args below meth c G lo nL cells slots Q pc (LV a2 b2) st (HP a2 b2) (NX a2 b2)) → ∀ a2 b2, f rec a2 b2 = some o → z_R p l e R s m args below meth c G lo nL cells slots Q pc (LV a2 b2) st (HP a2 b2) (NX a2 b2)) : z_R p l e R s m args below meth c G lo nL cells slots Q pc (LV a1 b1) st (HP a1 b1) (NX a1 b1) :=
  wl2_i (P := fun M a2 b2 => M = some o → z_R p l e R s m args below meth c G lo nL cells slots Q pc (LV a2 b2) st (HP a2 b2) (NX a2 b2)) (fun _ _ q => nomatch q) hs n a1 b1 hM
theorem zl3 {A : Type} {B : Type} {C : Type} {f : (A → B → C → Option Om) → A → B → C → Option Om} {a1 : A} {b1 : B} {c1 : C} (LV : A → B → C → List (Nat × Value)) (HP : A → B → C → zH) (NX : A → B → C → Nat) (hM : wl3 f n a1 b1 c1 = some o) (hs : ∀ rec : A → B → C → Option Om, (∀ a2 b2 c2, rec a2 b2 c2 = some o → z_R p l e R s m args below meth c G lo nL cells slots Q pc (LV a2 b2 c2) st (HP a2 b2 c2) (NX a2 b2 c2)) → ∀ a2 b2 c2, f rec a2 b2 c2 = some o → z_R p l e R s m args below meth c G lo nL cells slots Q pc (LV a2 b2 c2) st (HP a2 b2 c2) (NX a2 b2 c2)) : z_R p l e R s m args below meth c G lo nL cells slots Q pc (LV a1 b1 c1) st (HP a1 b1 c1) (NX a1 b1 c1) :=
  wl3_i (P := fun M a2 b2 c2 => M = some o → z_R p l e R s m args below meth c G lo nL cells slots Q pc (LV a2 b2 c2) st (HP a2 b2 c2) (NX a2 b2 c2)) (fun _ _ _ q => nomatch q) hs n a1 b1 c1 hM
theorem zl4 {A : Type} {B : Type} {C : Type} {D : Type} {f : (A → B → C → D → Option Om) → A → B → C → D → Option Om} {a1 : A} {b1 : B} {c1 : C} {d1 : D} (LV : A → B → C → D → List (Nat × Value)) (HP : A → B → C → D → zH) (NX : A → B → C → D → Nat) (hM : wl4 f n a1 b1 c1 d1 = some o) (hs : ∀ rec : A → B → C → D → Option Om, (∀ a2 b2 c2 d2, rec a2 b2 c2 d2 = some o → z_R p l e R s m args below meth c G lo nL cells slots Q pc (LV a2 b2 c2 d2) st (HP a2 b2 c2 d2) (NX a2 b2 c2 d2)) → ∀ a2 b2 c2 d2, f rec a2 b2 c2 d2 = some o → z_R p l e R s m args below meth c G lo nL cells slots Q pc (LV a2 b2 c2 d2) st (HP a2 b2 c2 d2) (NX a2 b2 c2 d2)) : z_R p l e R s m args below meth c G lo nL cells slots Q pc (LV a1 b1 c1 d1) st (HP a1 b1 c1 d1) (NX a1 b1 c1 d1) :=
  wl4_i (P := fun M a2 b2 c2 d2 => M = some o → z_R p l e R s m args below meth c G lo nL cells slots Q pc (LV a2 b2 c2 d2) st (HP a2 b2 c2 d2) (NX a2 b2 c2 d2)) (fun _ _ _ _ q => nomatch q) hs n a1 b1 c1 d1 hM
theorem zl5 {A : Type} {B : Type} {C : Type} {D : Type} {E : Type} {f : (A → B → C → D → E → Option Om) → A → B → C → D → E → Option Om} {a1 : A} {b1 : B} {c1 : C} {d1 : D} {e1 : E} (LV : A → B → C → D → E → List (Nat × Value)) (HP : A → B → C → D → E → zH) (NX : A → B → C → D → E → Nat) (hM : wl5 f n a1 b1 c1 d1 e1 = some o) (hs : ∀ rec : A → B → C → D → E → Option Om, (∀ a2 b2 c2 d2 e2, rec a2 b2 c2 d2 e2 = some o → z_R p l e R s m args below meth c G lo nL cells slots Q pc (LV a2 b2 c2 d2 e2) st (HP a2 b2 c2 d2 e2) (NX a2 b2 c2 d2 e2)) → ∀ a2 b2 c2 d2 e2, f rec a2 b2 c2 d2 e2 = some o → z_R p l e R s m args below meth c G lo nL cells slots Q pc (LV a2 b2 c2 d2 e2) st (HP a2 b2 c2 d2 e2) (NX a2 b2 c2 d2 e2)) : z_R p l e R s m args below meth c G lo nL cells slots Q pc (LV a1 b1 c1 d1 e1) st (HP a1 b1 c1 d1 e1) (NX a1 b1 c1 d1 e1) :=
  wl5_i (P := fun M a2 b2 c2 d2 e2 => M = some o → z_R p l e R s m args below meth c G lo nL cells slots Q pc (LV a2 b2 c2 d2 e2) st (HP a2 b2 c2 d2 e2) (NX a2 b2 c2 d2 e2)) (fun _ _ _ _ _ q => nomatch q) hs n a1 b1 c1 d1 e1 hM
theorem zl6 {A : Type} {B : Type} {C : Type} {D : Type} {E : Type} {F : Type} {f : (A → B → C → D → E → F → Option Om) → A → B → C → D → E → F → Option Om} {a1 : A} {b1 : B} {c1 : C} {d1 : D} {e1 : E} {f1 : F} (LV : A → B → C → D → E → F → List (Nat × Value)) (HP : A → B → C → D → E → F → zH) (NX : A → B → C → D → E → F → Nat) (hM : wl6 f n a1 b1 c1 d1 e1 f1 = some o) (hs : ∀ rec : A → B → C → D → E → F → Option Om, (∀ a2 b2 c2 d2 e2 f2, rec a2 b2 c2 d2 e2 f2 = some o → z_R p l e R s m args below meth c G lo nL cells slots Q pc (LV a2 b2 c2 d2 e2 f2) st (HP a2 b2 c2 d2 e2 f2) (NX a2 b2 c2 d2 e2 f2)) → ∀ a2 b2 c2 d2 e2 f2, f rec a2 b2 c2 d2 e2 f2 = some o → z_R p l e R s m args below meth c G lo nL cells slots Q pc (LV a2 b2 c2 d2 e2 f2) st (HP a2 b2 c2 d2 e2 f2) (NX a2 b2 c2 d2 e2 f2)) : z_R p l e R s m args below meth c G lo nL cells slots Q pc (LV a1 b1 c1 d1 e1 f1) st (HP a1 b1 c1 d1 e1 f1) (NX a1 b1 c1 d1 e1 f1) :=
  wl6_i (P := fun M a2 b2 c2 d2 e2 f2 => M = some o → z_R p l e R s m args below meth c G lo nL cells slots Q pc (LV a2 b2 c2 d2 e2 f2) st (HP a2 b2 c2 d2 e2 f2) (NX a2 b2 c2 d2 e2 f2)) (fun _ _ _ _ _ _ q => nomatch q) hs n a1 b1 c1 d1 e1 f1 hM
theorem zl7 {A : Type} {B : Type} {C : Type} {D : Type} {E : Type} {F : Type} {J : Type} {f : (A → B → C → D → E → F → J → Option Om) → A → B → C → D → E → F → J → Option Om} {a1 : A} {b1 : B} {c1 : C} {d1 : D} {e1 : E} {f1 : F} {j1 : J} (LV : A → B → C → D → E → F → J → List (Nat × Value)) (HP : A → B → C → D → E → F → J → zH) (NX : A → B → C → D → E → F → J → Nat) (hM : wl7 f n a1 b1 c1 d1 e1 f1 j1 = some o) (hs : ∀ rec : A → B → C → D → E → F → J → Option Om, (∀ a2 b2 c2 d2 e2 f2 j2, rec a2 b2 c2 d2 e2 f2 j2 = some o → z_R p l e R s m args below meth c G lo nL cells slots Q pc (LV a2 b2 c2 d2 e2 f2 j2) st (HP a2 b2 c2 d2 e2 f2 j2) (NX a2 b2 c2 d2 e2 f2 j2)) → ∀ a2 b2 c2 d2 e2 f2 j2, f rec a2 b2 c2 d2 e2 f2 j2 = some o → z_R p l e R s m args below meth c G lo nL cells slots Q pc (LV a2 b2 c2 d2 e2 f2 j2) st (HP a2 b2 c2 d2 e2 f2 j2) (NX a2 b2 c2 d2 e2 f2 j2)) : z_R p l e R s m args below meth c G lo nL cells slots Q pc (LV a1 b1 c1 d1 e1 f1 j1) st (HP a1 b1 c1 d1 e1 f1 j1) (NX a1 b1 c1 d1 e1 f1 j1) :=
  wl7_i (P := fun M a2 b2 c2 d2 e2 f2 j2 => M = some o → z_R p l e R s m args below meth c G lo nL cells slots Q pc (LV a2 b2 c2 d2 e2 f2 j2) st (HP a2 b2 c2 d2 e2 f2 j2) (NX a2 b2 c2 d2 e2 f2 j2)) (fun _ _ _ _ _ _ _ q => nomatch q) hs n a1 b1 c1 d1 e1 f1 j1 hM
theorem zj0  {K : Option Om} {Bd : (Option Om) → Option Om} (cj sj pcj : Nat) (LV : List (Nat × Value)) (ST : List Value) (HP : zH) (NX : Nat) (hM : jn0 K Bd = some o) (hK : K = some o → z_R p l e R s m args below meth c G lo nL cj sj Q pcj LV ST HP NX) (hB : ∀ J : Option Om, (J = some o → z_R p l e R s m args below meth c G lo nL cj sj Q pcj LV ST HP NX) → Bd J = some o → z_R p l e R s m args below meth c G lo nL cells slots Q pc lv st h nx) : z_R p l e R s m args below meth c G lo nL cells slots Q pc lv st h nx := hB K hK hM
theorem zj1 {A : Type} {K : A → Option Om} {Bd : (A → Option Om) → Option Om} (cj sj pcj : Nat) (LV : A → List (Nat × Value)) (ST : A → List Value) (HP : A → zH) (NX : A → Nat) (hM : jn1 K Bd = some o) (hK : ∀ a1, K a1 = some o → z_R p l e R s m args below meth c G lo nL cj sj Q pcj (LV a1) (ST a1) (HP a1) (NX a1)) (hB : ∀ J : A → Option Om, (∀ a1, J a1 = some o → z_R p l e R s m args below meth c G lo nL cj sj Q pcj (LV a1) (ST a1) (HP a1) (NX a1)) → Bd J = some o → z_R p l e R s m args below meth c G lo nL cells slots Q pc lv st h nx) : z_R p l e R s m args below meth c G lo nL cells slots Q pc lv st h nx := hB K hK hM
theorem zj2 {A : Type} {B : Type} {K : A → B → Option Om} {Bd : (A → B → Option Om) → Option Om} (cj sj pcj : Nat) (LV : A → B → List (Nat × Value)) (ST : A → B → List Value) (HP : A → B → zH) (NX : A → B → Nat) (hM : jn2 K Bd = some o) (hK : ∀ a1 b1, K a1 b1 = some o → z_R p l e R s m args below meth c G lo nL cj sj Q pcj (LV a1 b1) (ST a1 b1) (HP a1 b1) (NX a1 b1)) (hB : ∀ J : A → B → Option Om, (∀ a1 b1, J a1 b1 = some o → z_R p l e R s m args below meth c G lo nL cj sj Q pcj (LV a1 b1) (ST a1 b1) (HP a1 b1) (NX a1 b1)) → Bd J = some o → z_R p l e R s m args below meth c G lo nL cells slots Q pc lv st h nx) : z_R p l e R s m args below meth c G lo nL cells slots Q pc lv st h nx := hB K hK hM
theorem zj3 {A : Type} {B : Type} {C : Type} {K : A → B → C → Option Om} {Bd : (A → B → C → Option Om) → Option Om} (cj sj pcj : Nat) (LV : A → B → C → List (Nat × Value)) (ST : A → B → C → List Value) (HP : A → B → C → zH) (NX : A → B → C → Nat) (hM : jn3 K Bd = some o) (hK : ∀ a1 b1 c1, K a1 b1 c1 = some o → z_R p l e R s m args below meth c G lo nL cj sj Q pcj (LV a1 b1 c1) (ST a1 b1 c1) (HP a1 b1 c1) (NX a1 b1 c1)) (hB : ∀ J : A → B → C → Option Om, (∀ a1 b1 c1, J a1 b1 c1 = some o → z_R p l e R s m args below meth c G lo nL cj sj Q pcj (LV a1 b1 c1) (ST a1 b1 c1) (HP a1 b1 c1) (NX a1 b1 c1)) → Bd J = some o → z_R p l e R s m args below meth c G lo nL cells slots Q pc lv st h nx) : z_R p l e R s m args below meth c G lo nL cells slots Q pc lv st h nx := hB K hK hM
theorem zj4 {A : Type} {B : Type} {C : Type} {D : Type} {K : A → B → C → D → Option Om} {Bd : (A → B → C → D → Option Om) → Option Om} (cj sj pcj : Nat) (LV : A → B → C → D → List (Nat × Value)) (ST : A → B → C → D → List Value) (HP : A → B → C → D → zH) (NX : A → B → C → D → Nat) (hM : jn4 K Bd = some o) (hK : ∀ a1 b1 c1 d1, K a1 b1 c1 d1 = some o → z_R p l e R s m args below meth c G lo nL cj sj Q pcj (LV a1 b1 c1 d1) (ST a1 b1 c1 d1) (HP a1 b1 c1 d1) (NX a1 b1 c1 d1)) (hB : ∀ J : A → B → C → D → Option Om, (∀ a1 b1 c1 d1, J a1 b1 c1 d1 = some o → z_R p l e R s m args below meth c G lo nL cj sj Q pcj (LV a1 b1 c1 d1) (ST a1 b1 c1 d1) (HP a1 b1 c1 d1) (NX a1 b1 c1 d1)) → Bd J = some o → z_R p l e R s m args below meth c G lo nL cells slots Q pc lv st h nx) : z_R p l e R s m args below meth c G lo nL cells slots Q pc lv st h nx := hB K hK hM
theorem zj5 {A : Type} {B : Type} {C : Type} {D : Type} {E : Type} {K : A → B → C → D → E → Option Om} {Bd : (A → B → C → D → E → Option Om) → Option Om} (cj sj pcj : Nat) (LV : A → B → C → D → E → List (Nat × Value)) (ST : A → B → C → D → E → List Value) (HP : A → B → C → D → E → zH) (NX : A → B → C → D → E → Nat) (hM : jn5 K Bd = some o) (hK : ∀ a1 b1 c1 d1 e1, K a1 b1 c1 d1 e1 = some o → z_R p l e R s m args below meth c G lo nL cj sj Q pcj (LV a1 b1 c1 d1 e1) (ST a1 b1 c1 d1 e1) (HP a1 b1 c1 d1 e1) (NX a1 b1 c1 d1 e1)) (hB : ∀ J : A → B → C → D → E → Option Om, (∀ a1 b1 c1 d1 e1, J a1 b1 c1 d1 e1 = some o → z_R p l e R s m args below meth c G lo nL cj sj Q pcj (LV a1 b1 c1 d1 e1) (ST a1 b1 c1 d1 e1) (HP a1 b1 c1 d1 e1) (NX a1 b1 c1 d1 e1)) → Bd J = some o → z_R p l e R s m args below meth c G lo nL cells slots Q pc lv st h nx) : z_R p l e R s m args below meth c G lo nL cells slots Q pc lv st h nx := hB K hK hM
end ZL
section ZS
variable {p : Program} {l : Launch} {e : Env} {R : Room} {s : State} {m : MethodId} {args : Array Value} {below : List Frame} {meth : Method} {c : Code} {G : zG} {lo t0 nL cells slots : Nat} {Q : State → Prop} {pc : Nat} {lv : List (Nat × Value)} {st rest : List Value} {h h1 : zH} {nx : Nat} {cc : ByteArray} {own : String} {ret : Option FieldType}
variable {x y : Int32} {off : Int} {tgt : Nat} {Om : Type} {M1 M2 : Option Om} {o : Om}
theorem z_if_eq_t (C : z_Cx p l s m args meth c cc nL own ret G lo t0) (d : decode cc pc = .ok (.ifCond .eq off, 3)) (ht : (pc : Int) + off = (tgt : Int)) (hc : x = 0) (K : z_R p l e R s m args below meth c G lo nL cells slots Q tgt lv st h nx) : z_R p l e R s m args below meth c G lo nL cells slots Q pc lv (.int x :: st) h nx := fun H locs ls e1 e2 e3 e4 => lv_if_eq C.1.1 C.1.2.1 d ht (fun q => K H locs ls e1 e2 e3 e4) (fun q => absurd hc q)
theorem z_if_eq_f (C : z_Cx p l s m args meth c cc nL own ret G lo t0) (d : decode cc pc = .ok (.ifCond .eq off, 3)) (ht : (pc : Int) + off = (tgt : Int)) (hc : ¬ x = 0) (K : z_R p l e R s m args below meth c G lo nL cells slots Q (pc + 3) lv st h nx) : z_R p l e R s m args below meth c G lo nL cells slots Q pc lv (.int x :: st) h nx := fun H locs ls e1 e2 e3 e4 => lv_if_eq C.1.1 C.1.2.1 d ht (fun q => absurd q hc) (fun q => K H locs ls e1 e2 e3 e4)
theorem z_icmp_eq_t (C : z_Cx p l s m args meth c cc nL own ret G lo t0) (d : decode cc pc = .ok (.if_icmp .eq off, 3)) (ht : (pc : Int) + off = (tgt : Int)) (hc : x = y) (K : z_R p l e R s m args below meth c G lo nL cells slots Q tgt lv st h nx) : z_R p l e R s m args below meth c G lo nL cells slots Q pc lv (.int y :: .int x :: st) h nx := fun H locs ls e1 e2 e3 e4 => lv_icmp_eq C.1.1 C.1.2.1 d ht (fun q => K H locs ls e1 e2 e3 e4) (fun q => absurd hc q)
theorem z_icmp_eq_f (C : z_Cx p l s m args meth c cc nL own ret G lo t0) (d : decode cc pc = .ok (.if_icmp .eq off, 3)) (ht : (pc : Int) + off = (tgt : Int)) (hc : ¬ x = y) (K : z_R p l e R s m args below meth c G lo nL cells slots Q (pc + 3) lv st h nx) : z_R p l e R s m args below meth c G lo nL cells slots Q pc lv (.int y :: .int x :: st) h nx := fun H locs ls e1 e2 e3 e4 => lv_icmp_eq C.1.1 C.1.2.1 d ht (fun q => absurd q hc) (fun q => K H locs ls e1 e2 e3 e4)
theorem z_if_ne_t (C : z_Cx p l s m args meth c cc nL own ret G lo t0) (d : decode cc pc = .ok (.ifCond .ne off, 3)) (ht : (pc : Int) + off = (tgt : Int)) (hc : ¬ x = 0) (K : z_R p l e R s m args below meth c G lo nL cells slots Q tgt lv st h nx) : z_R p l e R s m args below meth c G lo nL cells slots Q pc lv (.int x :: st) h nx := fun H locs ls e1 e2 e3 e4 => lv_if_ne C.1.1 C.1.2.1 d ht (fun q => K H locs ls e1 e2 e3 e4) (fun q => absurd q hc)
theorem z_if_ne_f (C : z_Cx p l s m args meth c cc nL own ret G lo t0) (d : decode cc pc = .ok (.ifCond .ne off, 3)) (ht : (pc : Int) + off = (tgt : Int)) (hc : x = 0) (K : z_R p l e R s m args below meth c G lo nL cells slots Q (pc + 3) lv st h nx) : z_R p l e R s m args below meth c G lo nL cells slots Q pc lv (.int x :: st) h nx := fun H locs ls e1 e2 e3 e4 => lv_if_ne C.1.1 C.1.2.1 d ht (fun q => absurd hc q) (fun q => K H locs ls e1 e2 e3 e4)
theorem z_icmp_ne_t (C : z_Cx p l s m args meth c cc nL own ret G lo t0) (d : decode cc pc = .ok (.if_icmp .ne off, 3)) (ht : (pc : Int) + off = (tgt : Int)) (hc : ¬ x = y) (K : z_R p l e R s m args below meth c G lo nL cells slots Q tgt lv st h nx) : z_R p l e R s m args below meth c G lo nL cells slots Q pc lv (.int y :: .int x :: st) h nx := fun H locs ls e1 e2 e3 e4 => lv_icmp_ne C.1.1 C.1.2.1 d ht (fun q => K H locs ls e1 e2 e3 e4) (fun q => absurd q hc)
theorem z_icmp_ne_f (C : z_Cx p l s m args meth c cc nL own ret G lo t0) (d : decode cc pc = .ok (.if_icmp .ne off, 3)) (ht : (pc : Int) + off = (tgt : Int)) (hc : x = y) (K : z_R p l e R s m args below meth c G lo nL cells slots Q (pc + 3) lv st h nx) : z_R p l e R s m args below meth c G lo nL cells slots Q pc lv (.int y :: .int x :: st) h nx := fun H locs ls e1 e2 e3 e4 => lv_icmp_ne C.1.1 C.1.2.1 d ht (fun q => absurd hc q) (fun q => K H locs ls e1 e2 e3 e4)
theorem z_if_lt_t (C : z_Cx p l s m args meth c cc nL own ret G lo t0) (d : decode cc pc = .ok (.ifCond .lt off, 3)) (ht : (pc : Int) + off = (tgt : Int)) (hc : x < 0) (K : z_R p l e R s m args below meth c G lo nL cells slots Q tgt lv st h nx) : z_R p l e R s m args below meth c G lo nL cells slots Q pc lv (.int x :: st) h nx := fun H locs ls e1 e2 e3 e4 => lv_if_lt C.1.1 C.1.2.1 d ht (fun q => K H locs ls e1 e2 e3 e4) (fun q => absurd hc q)
theorem z_if_lt_f (C : z_Cx p l s m args meth c cc nL own ret G lo t0) (d : decode cc pc = .ok (.ifCond .lt off, 3)) (ht : (pc : Int) + off = (tgt : Int)) (hc : ¬ x < 0) (K : z_R p l e R s m args below meth c G lo nL cells slots Q (pc + 3) lv st h nx) : z_R p l e R s m args below meth c G lo nL cells slots Q pc lv (.int x :: st) h nx := fun H locs ls e1 e2 e3 e4 => lv_if_lt C.1.1 C.1.2.1 d ht (fun q => absurd q hc) (fun q => K H locs ls e1 e2 e3 e4)
theorem z_icmp_lt_t (C : z_Cx p l s m args meth c cc nL own ret G lo t0) (d : decode cc pc = .ok (.if_icmp .lt off, 3)) (ht : (pc : Int) + off = (tgt : Int)) (hc : x < y) (K : z_R p l e R s m args below meth c G lo nL cells slots Q tgt lv st h nx) : z_R p l e R s m args below meth c G lo nL cells slots Q pc lv (.int y :: .int x :: st) h nx := fun H locs ls e1 e2 e3 e4 => lv_icmp_lt C.1.1 C.1.2.1 d ht (fun q => K H locs ls e1 e2 e3 e4) (fun q => absurd hc q)
theorem z_icmp_lt_f (C : z_Cx p l s m args meth c cc nL own ret G lo t0) (d : decode cc pc = .ok (.if_icmp .lt off, 3)) (ht : (pc : Int) + off = (tgt : Int)) (hc : ¬ x < y) (K : z_R p l e R s m args below meth c G lo nL cells slots Q (pc + 3) lv st h nx) : z_R p l e R s m args below meth c G lo nL cells slots Q pc lv (.int y :: .int x :: st) h nx := fun H locs ls e1 e2 e3 e4 => lv_icmp_lt C.1.1 C.1.2.1 d ht (fun q => absurd q hc) (fun q => K H locs ls e1 e2 e3 e4)
theorem z_if_ge_t (C : z_Cx p l s m args meth c cc nL own ret G lo t0) (d : decode cc pc = .ok (.ifCond .ge off, 3)) (ht : (pc : Int) + off = (tgt : Int)) (hc : 0 ≤ x) (K : z_R p l e R s m args below meth c G lo nL cells slots Q tgt lv st h nx) : z_R p l e R s m args below meth c G lo nL cells slots Q pc lv (.int x :: st) h nx := fun H locs ls e1 e2 e3 e4 => lv_if_ge C.1.1 C.1.2.1 d ht (fun q => K H locs ls e1 e2 e3 e4) (fun q => absurd hc q)
theorem z_if_ge_f (C : z_Cx p l s m args meth c cc nL own ret G lo t0) (d : decode cc pc = .ok (.ifCond .ge off, 3)) (ht : (pc : Int) + off = (tgt : Int)) (hc : ¬ 0 ≤ x) (K : z_R p l e R s m args below meth c G lo nL cells slots Q (pc + 3) lv st h nx) : z_R p l e R s m args below meth c G lo nL cells slots Q pc lv (.int x :: st) h nx := fun H locs ls e1 e2 e3 e4 => lv_if_ge C.1.1 C.1.2.1 d ht (fun q => absurd q hc) (fun q => K H locs ls e1 e2 e3 e4)
theorem z_icmp_ge_t (C : z_Cx p l s m args meth c cc nL own ret G lo t0) (d : decode cc pc = .ok (.if_icmp .ge off, 3)) (ht : (pc : Int) + off = (tgt : Int)) (hc : y ≤ x) (K : z_R p l e R s m args below meth c G lo nL cells slots Q tgt lv st h nx) : z_R p l e R s m args below meth c G lo nL cells slots Q pc lv (.int y :: .int x :: st) h nx := fun H locs ls e1 e2 e3 e4 => lv_icmp_ge C.1.1 C.1.2.1 d ht (fun q => K H locs ls e1 e2 e3 e4) (fun q => absurd hc q)
theorem z_icmp_ge_f (C : z_Cx p l s m args meth c cc nL own ret G lo t0) (d : decode cc pc = .ok (.if_icmp .ge off, 3)) (ht : (pc : Int) + off = (tgt : Int)) (hc : ¬ y ≤ x) (K : z_R p l e R s m args below meth c G lo nL cells slots Q (pc + 3) lv st h nx) : z_R p l e R s m args below meth c G lo nL cells slots Q pc lv (.int y :: .int x :: st) h nx := fun H locs ls e1 e2 e3 e4 => lv_icmp_ge C.1.1 C.1.2.1 d ht (fun q => absurd q hc) (fun q => K H locs ls e1 e2 e3 e4)
theorem z_if_gt_t (C : z_Cx p l s m args meth c cc nL own ret G lo t0) (d : decode cc pc = .ok (.ifCond .gt off, 3)) (ht : (pc : Int) + off = (tgt : Int)) (hc : 0 < x) (K : z_R p l e R s m args below meth c G lo nL cells slots Q tgt lv st h nx) : z_R p l e R s m args below meth c G lo nL cells slots Q pc lv (.int x :: st) h nx := fun H locs ls e1 e2 e3 e4 => lv_if_gt C.1.1 C.1.2.1 d ht (fun q => K H locs ls e1 e2 e3 e4) (fun q => absurd hc q)
theorem z_if_gt_f (C : z_Cx p l s m args meth c cc nL own ret G lo t0) (d : decode cc pc = .ok (.ifCond .gt off, 3)) (ht : (pc : Int) + off = (tgt : Int)) (hc : ¬ 0 < x) (K : z_R p l e R s m args below meth c G lo nL cells slots Q (pc + 3) lv st h nx) : z_R p l e R s m args below meth c G lo nL cells slots Q pc lv (.int x :: st) h nx := fun H locs ls e1 e2 e3 e4 => lv_if_gt C.1.1 C.1.2.1 d ht (fun q => absurd q hc) (fun q => K H locs ls e1 e2 e3 e4)
theorem z_icmp_gt_t (C : z_Cx p l s m args meth c cc nL own ret G lo t0) (d : decode cc pc = .ok (.if_icmp .gt off, 3)) (ht : (pc : Int) + off = (tgt : Int)) (hc : y < x) (K : z_R p l e R s m args below meth c G lo nL cells slots Q tgt lv st h nx) : z_R p l e R s m args below meth c G lo nL cells slots Q pc lv (.int y :: .int x :: st) h nx := fun H locs ls e1 e2 e3 e4 => lv_icmp_gt C.1.1 C.1.2.1 d ht (fun q => K H locs ls e1 e2 e3 e4) (fun q => absurd hc q)
theorem z_icmp_gt_f (C : z_Cx p l s m args meth c cc nL own ret G lo t0) (d : decode cc pc = .ok (.if_icmp .gt off, 3)) (ht : (pc : Int) + off = (tgt : Int)) (hc : ¬ y < x) (K : z_R p l e R s m args below meth c G lo nL cells slots Q (pc + 3) lv st h nx) : z_R p l e R s m args below meth c G lo nL cells slots Q pc lv (.int y :: .int x :: st) h nx := fun H locs ls e1 e2 e3 e4 => lv_icmp_gt C.1.1 C.1.2.1 d ht (fun q => absurd q hc) (fun q => K H locs ls e1 e2 e3 e4)
theorem z_if_le_t (C : z_Cx p l s m args meth c cc nL own ret G lo t0) (d : decode cc pc = .ok (.ifCond .le off, 3)) (ht : (pc : Int) + off = (tgt : Int)) (hc : x ≤ 0) (K : z_R p l e R s m args below meth c G lo nL cells slots Q tgt lv st h nx) : z_R p l e R s m args below meth c G lo nL cells slots Q pc lv (.int x :: st) h nx := fun H locs ls e1 e2 e3 e4 => lv_if_le C.1.1 C.1.2.1 d ht (fun q => K H locs ls e1 e2 e3 e4) (fun q => absurd hc q)
theorem z_if_le_f (C : z_Cx p l s m args meth c cc nL own ret G lo t0) (d : decode cc pc = .ok (.ifCond .le off, 3)) (ht : (pc : Int) + off = (tgt : Int)) (hc : ¬ x ≤ 0) (K : z_R p l e R s m args below meth c G lo nL cells slots Q (pc + 3) lv st h nx) : z_R p l e R s m args below meth c G lo nL cells slots Q pc lv (.int x :: st) h nx := fun H locs ls e1 e2 e3 e4 => lv_if_le C.1.1 C.1.2.1 d ht (fun q => absurd q hc) (fun q => K H locs ls e1 e2 e3 e4)
theorem z_icmp_le_t (C : z_Cx p l s m args meth c cc nL own ret G lo t0) (d : decode cc pc = .ok (.if_icmp .le off, 3)) (ht : (pc : Int) + off = (tgt : Int)) (hc : x ≤ y) (K : z_R p l e R s m args below meth c G lo nL cells slots Q tgt lv st h nx) : z_R p l e R s m args below meth c G lo nL cells slots Q pc lv (.int y :: .int x :: st) h nx := fun H locs ls e1 e2 e3 e4 => lv_icmp_le C.1.1 C.1.2.1 d ht (fun q => K H locs ls e1 e2 e3 e4) (fun q => absurd hc q)
theorem z_icmp_le_f (C : z_Cx p l s m args meth c cc nL own ret G lo t0) (d : decode cc pc = .ok (.if_icmp .le off, 3)) (ht : (pc : Int) + off = (tgt : Int)) (hc : ¬ x ≤ y) (K : z_R p l e R s m args below meth c G lo nL cells slots Q (pc + 3) lv st h nx) : z_R p l e R s m args below meth c G lo nL cells slots Q pc lv (.int y :: .int x :: st) h nx := fun H locs ls e1 e2 e3 e4 => lv_icmp_le C.1.1 C.1.2.1 d ht (fun q => absurd q hc) (fun q => K H locs ls e1 e2 e3 e4)
variable {a b : Nat}
theorem z_acmp_eq (C : z_Cx p l s m args meth c cc nL own ret G lo t0) (d : decode cc pc = .ok (.if_acmp .eq off, 3)) (ht : (pc : Int) + off = (tgt : Int)) (hM : (if a = b then M1 else M2) = some o) (K1 : a = b → M1 = some o → z_R p l e R s m args below meth c G lo nL cells slots Q tgt lv st h nx) (K2 : ¬ a = b → M2 = some o → z_R p l e R s m args below meth c G lo nL cells slots Q (pc + 3) lv st h nx) : z_R p l e R s m args below meth c G lo nL cells slots Q pc lv (.ref b :: .ref a :: st) h nx := fun H locs ls e1 e2 e3 e4 => lv_acmp_eq (rx := some a) (ry := some b) C.1.1 C.1.2.1 d ht (fun q => by cases q; exact K1 rfl (by rw [if_pos rfl] at hM; exact hM) H locs ls e1 e2 e3 e4) (fun q => K2 (fun z => q (by rw [z])) (by rw [if_neg (fun z => q (by rw [z]))] at hM; exact hM) H locs ls e1 e2 e3 e4)
theorem z_acmp_ne (C : z_Cx p l s m args meth c cc nL own ret G lo t0) (d : decode cc pc = .ok (.if_acmp .ne off, 3)) (ht : (pc : Int) + off = (tgt : Int)) (hM : (if a = b then M1 else M2) = some o) (K1 : a = b → M1 = some o → z_R p l e R s m args below meth c G lo nL cells slots Q (pc + 3) lv st h nx) (K2 : ¬ a = b → M2 = some o → z_R p l e R s m args below meth c G lo nL cells slots Q tgt lv st h nx) : z_R p l e R s m args below meth c G lo nL cells slots Q pc lv (.ref b :: .ref a :: st) h nx := fun H locs ls e1 e2 e3 e4 => lv_acmp_ne (rx := some a) (ry := some b) C.1.1 C.1.2.1 d ht (fun q => K2 (fun z => q (by rw [z])) (by rw [if_neg (fun z => q (by rw [z]))] at hM; exact hM) H locs ls e1 e2 e3 e4) (fun q => by cases q; exact K1 rfl (by rw [if_pos rfl] at hM; exact hM) H locs ls e1 e2 e3 e4)
theorem z_tableIn {dflt tl th : Int} {offs : Array Int} {len : Nat} (C : z_Cx p l s m args meth c cc nL own ret G lo t0) (d : decode cc pc = .ok (.tableswitch dflt tl th offs, len)) (h1' : ¬ x.toInt < tl) (h2' : ¬ th < x.toInt) (ho : offs[(x.toInt - tl).toNat]? = some off) (ht : (pc : Int) + off = (tgt : Int)) (K : z_R p l e R s m args below meth c G lo nL cells slots Q tgt lv st h nx) : z_R p l e R s m args below meth c G lo nL cells slots Q pc lv (.int x :: st) h nx := fun H locs ls e1 e2 e3 e4 => lv_tableIn C.1.1 C.1.2.1 d h1' h2' ho ht (K H locs ls e1 e2 e3 e4)
theorem z_tableD {dflt tl th : Int} {offs : Array Int} {len : Nat} (C : z_Cx p l s m args meth c cc nL own ret G lo t0) (d : decode cc pc = .ok (.tableswitch dflt tl th offs, len)) (hh : ∀ k : Int, tl ≤ k → k ≤ th → x.toInt = k → offs[(k - tl).toNat]? = some dflt) (ht : (pc : Int) + dflt = (tgt : Int)) (K : z_R p l e R s m args below meth c G lo nL cells slots Q tgt lv st h nx) : z_R p l e R s m args below meth c G lo nL cells slots Q pc lv (.int x :: st) h nx := fun H locs ls e1 e2 e3 e4 => by
  by_cases hin : x.toInt < tl ∨ th < x.toInt
  · exact lv_tableOut C.1.1 C.1.2.1 d hin ht (K H locs ls e1 e2 e3 e4)
  · exact lv_tableIn C.1.1 C.1.2.1 d (fun q => hin (Or.inl q)) (fun q => hin (Or.inr q)) (hh x.toInt (by omega) (by omega) rfl) ht (K H locs ls e1 e2 e3 e4)
theorem z_lookup {dflt : Int} {ps : Array (Int × Int)} {len : Nat} (C : z_Cx p l s m args meth c cc nL own ret G lo t0) (d : decode cc pc = .ok (.lookupswitch dflt ps, len)) (hp : (ps.toList.zip (ps.toList.drop 1)).all (fun (a, next) => a.1 < next.1) = true) (ho : Op.lookupswitch.offset ps.toList dflt x.toInt = off) (ht : (pc : Int) + off = (tgt : Int)) (K : z_R p l e R s m args below meth c G lo nL cells slots Q tgt lv st h nx) : z_R p l e R s m args below meth c G lo nL cells slots Q pc lv (.int x :: st) h nx := fun H locs ls e1 e2 e3 e4 => lv_lookup C.1.1 C.1.2.1 d hp ho ht (K H locs ls e1 e2 e3 e4)
end ZS
theorem z_sw {c : Prop} [Decidable c] {Om : Type} {M1 M2 : Option Om} {o : Om} {g : Prop} (hM : (if c then M1 else M2) = some o) (k1 : c → M1 = some o → g) (k2 : ¬ c → M2 = some o → g) : g := by
  by_cases h : c
  · rw [if_pos h] at hM; exact k1 h hM
  · rw [if_neg h] at hM; exact k2 h hM
theorem z_gn {c : Prop} [Decidable c] {Om : Type} {M : Option Om} {o : Om} (hM : (if c then none else M) = some o) : ¬ c ∧ M = some o := by
  by_cases h : c
  · rw [if_pos h] at hM; cases hM
  · rw [if_neg h] at hM; exact ⟨h, hM⟩
theorem z_gy {c : Prop} [Decidable c] {Om : Type} {M : Option Om} {o : Om} (hM : (if c then M else none) = some o) : c ∧ M = some o := by
  by_cases h : c
  · rw [if_pos h] at hM; exact ⟨h, hM⟩
  · rw [if_neg h] at hM; cases hM
theorem z_tb_c {X Y : Type} {a : Option (String ⊕ X)} {k : X → Option (String ⊕ Y)} {o : String ⊕ Y} (hM : z_tb a k = some o) : (∃ E, a = some (.inl E) ∧ o = .inl E) ∨ ∃ x, a = some (.inr x) ∧ k x = some o := by
  obtain ⟨z, h1, h2⟩ := Option.bind_eq_some_iff.mp hM
  cases z with
  | inl E => cases h2; exact Or.inl ⟨E, h1, rfl⟩
  | inr x => exact Or.inr ⟨x, h1, h2⟩
theorem z_tn_c {X Y : Type} {a : Option (String ⊕ X)} {k : X → Option Y} {o : Y} (hM : z_tn a k = some o) : ∃ x, a = some (.inr x) ∧ k x = some o := by
  obtain ⟨z, h1, h2⟩ := Option.bind_eq_some_iff.mp hM
  cases z with
  | inl E => cases h2
  | inr x => exact ⟨x, h1, h2⟩
def z_eo {X : Type} (h : zH) (o : String ⊕ X) (f : X → Option Value × zH × Nat) : zV := match o with
  | .inl E => .inl (E, h)
  | .inr x => .inr (f x)
def z_mo {X : Type} (o : String ⊕ X) (a b : Nat) : Nat := match o with
  | .inl _ => a
  | .inr _ => b
/-- a reference is stored: an awning or a stall -/
def z_el (h : zH) (v : Nat) : Bool := (z_ob h v 1).isSome || (z_ob h v 4).isSome
def z_sE (h : zH) (a : Nat) (i : Int32) (v : Nat) : Option zH := if z_el h v = true then z_sR h a i (some v) else none
def z_cpQ (h : zH) (a0 : Nat) (sp : Int32) (a : Nat) (dp n : Int32) : Option zH := (z_aq h a0).bind fun r0 => (z_aq h a).bind fun r => if ¬ sp < 0 ∧ ¬ dp < 0 ∧ ¬ n < 0 ∧ sp.toNatClampNeg + n.toNatClampNeg ≤ r0.1 ∧ dp.toNatClampNeg + n.toNatClampNeg ≤ r.1 ∧ (List.range n.toNatClampNeg).all (fun i => match r0.2 (sp.toNatClampNeg + i) with | none => true | some y => z_el h y) = true then some (z_up h a (zQ r.1 (va_cpy r0.2 r.2 sp.toNatClampNeg dp.toNatClampNeg n.toNatClampNeg))) else none
def z_cpI (h : zH) (a0 : Nat) (sp : Int32) (a : Nat) (dp n : Int32) : Option zH := (z_ai h a0).bind fun r0 => (z_ai h a).bind fun r => if ¬ sp < 0 ∧ ¬ dp < 0 ∧ ¬ n < 0 ∧ sp.toNatClampNeg + n.toNatClampNeg ≤ r0.1 ∧ dp.toNatClampNeg + n.toNatClampNeg ≤ r.1 then some (z_up h a (zI r.1 (va_cpy r0.2 r.2 sp.toNatClampNeg dp.toNatClampNeg n.toNatClampNeg))) else none
section ZCP
variable {p : Program} {l : Launch} {e : Env} {R : Room} {s : State} {m : MethodId} {args : Array Value} {below : List Frame} {meth : Method} {c : Code} {G : zG} {lo t0 nL cells slots : Nat} {Q : State → Prop} {pc : Nat} {lv : List (Nat × Value)} {st rest : List Value} {h h1 : zH} {nx : Nat} {cc : ByteArray} {own : String} {ret : Option FieldType}
variable {a a0 b ix : Nat} {i sp dp n : Int32}
theorem z_aastE (C : z_Cx p l s m args meth c cc nL own ret G lo t0) (hv : z_sE h a i b = some h1) (d : decode cc pc = .ok (.aastore, 1)) (K : z_R p l e R s m args below meth c G lo nL cells slots Q (pc + 1) lv st h1 nx) : z_R p l e R s m args below meth c G lo nL cells slots Q pc lv (.ref b :: .int i :: .ref a :: st) h nx := by
  obtain ⟨hb, hv⟩ := z_gy hv
  simp only [z_el, Bool.or_eq_true, Option.isSome_iff_exists] at hb
  rcases hb with ⟨fs, hb⟩ | ⟨fs, hb⟩
  · exact z_aast (ci := 1) C hv (u := ()) (by unfold z_ck; rw [hb]; rfl) rfl (by decide) d K
  · exact z_aast (ci := 4) C hv (u := ()) (by unfold z_ck; rw [hb]; rfl) rfl (by decide) d K
theorem z_nn : ∀ z : Int32, ¬ z < 0 → z.toInt = (z.toNatClampNeg : Int) := by
  intro z hz
  have hz0 : (0 : Int) ≤ z.toInt := by
    have := Int32.not_lt.mp hz
    simpa using Int32.le_iff_toInt_le.mp this
  show z.toInt = ((z.toInt.toNat : Nat) : Int)
  omega
theorem z_copyI (C : z_Cx p l s m args meth c cc nL own ret G lo t0) (hv : z_cpI h a0 sp a dp n = some h1) (w1 : Cond.methodLink own ix arraycopyName ∈ wsL_law) (w2 : Cond.native arraycopyName ∈ wsL_law) (w3 : Cond.static arraycopyName ∈ wsL_law) (w4 : Cond.initialized "java/lang/System" ∈ wsL_law) (hfr : 1 ≤ R.frames) (hlc : (st.map fun v => v.category).sum + (nativeFrameWords "java/lang/System" "arraycopy" 5 + 11) ≤ R.locals) (d : decode cc pc = .ok (.invokestatic ix, 3)) (K : z_R p l e R s m args below meth c G lo nL cells slots Q (pc + 3) lv st h1 nx) : z_R p l e R s m args below meth c G lo nL cells slots Q pc lv (.int n :: .int dp :: .ref a :: .int sp :: .ref a0 :: st) h nx := by
  intro H locs ls e1 e2 e3 e4
  obtain ⟨⟨n0, f⟩, q0, hv⟩ := Option.bind_eq_some_iff.mp hv
  obtain ⟨⟨n1, g⟩, q1, hv⟩ := Option.bind_eq_some_iff.mp hv
  obtain ⟨⟨g1, g2, g3, g4, g5⟩, hv⟩ := z_gy hv
  cases hv
  have k0 := z_ai_spec q0
  have k1 := z_ai_spec q1
  dsimp only at k0 k1 g4 g5
  have hts := C.1.2.2.2.2
  have hK : va_K G.1 vwCl (z_tys G) s := C.2.2.2.2.2.1
  have hat := (e2 a _ k1).1 _ rfl
  have hc0 : H[a0]? = some (vp_cell (G.2 0) (n0, .inl f)) := ((e2 a0 _ k0).1 _ rfl).2
  have hc1 : H[a]? = some (vp_cell (G.2 0) (n1, .inl g)) := hat.2
  obtain ⟨-, kk0, hk0, cm0, hkk0⟩ := (hK.2 0 _ rfl).1 n0 (fun j => .int (f j))
  intro T hT X
  obtain ⟨vm', X', step⟩ := X.arraycopy C.1.1 C.1.2.2.2.1 (hts _ w1) (hts _ w2) (hts _ w3) (hts _ w4) (src := a0) (dst := a) (cs := vp_cell (G.2 0) (n0, .inl f)) (cd := vp_cell (G.2 0) (n1, .inl g)) (srcPos := sp) (destPos := dp) (n := n) (by rw [hT]; exact hc0) (by rw [hT]; exact hc1)
    (fun _ h => by cases h) (fun _ h => by cases h) (fun h => by cases h) (fun h => by cases h) hk0 hk0 hkk0 hkk0 rfl g1 g2 g3
    (by rw [z_nn sp g1, z_nn n g3]; show ¬ _ > ((arrV (G.2 0) n0 (fun j => .int (f j))).slots.size : Int); rw [arrV_size]; omega)
    (by rw [z_nn dp g2, z_nn n g3]; show ¬ _ > ((arrV (G.2 0) n1 (fun j => .int (g j))).slots.size : Int); rw [arrV_size]; omega)
    (fun vm₁ _ i hi => by
      have e : (vp_cell (G.2 0) (n0, .inl f)).slots.getD (sp.toNatClampNeg + i) .null = .int (f (sp.toNatClampNeg + i)) := by
        show (arrV (G.2 0) n0 (fun j => .int (f j))).slots.getD _ _ = _
        rw [Array.getD_eq_getD_getElem?, arrV_read _ _ (by omega)]
        rfl
      refine ⟨?_, ?_⟩
      · rw [e]; rfl
      · rw [e]; exact trivial)
    (g := F0 m pc ls (.int n :: .int dp :: .ref a :: .int sp :: .ref a0 :: st)) rfl (e4.1.trans C.1.2.2.1.symm) (rest := st) rfl (by rw [C.1.2.1]; exact d) hfr (by show 2 * 0 + _ + _ ≤ _; omega)
  have e9 : copied (vp_cell (G.2 0) (n0, .inl f)) (vp_cell (G.2 0) (n1, .inl g)) sp dp n = vp_cell (G.2 0) (n1, .inl (va_cpy f g sp.toNatClampNeg dp.toNatClampNeg n.toNatClampNeg)) := va_copied (fun z => .int z) (G.2 0) (G.2 0) f g g4
  rw [e9] at X' step
  have hl : a < H.size := (Array.getElem?_eq_some_iff.mp hc1).1
  have hheap : ((T.setVm vm').setCell a (vp_cell (G.2 0) (n1, .inl (va_cpy f g sp.toNatClampNeg dp.toNatClampNeg n.toNatClampNeg)))).heap = H.setIfInBounds a (vp_cell (G.2 0) (n1, .inl (va_cpy f g sp.toNatClampNeg dp.toNatClampNeg n.toNatClampNeg))) := by rw [← hT]; rfl
  have oq : ∀ q : Nat, q ≠ a → (H.setIfInBounds a (vp_cell (G.2 0) (n1, .inl (va_cpy f g sp.toNatClampNeg dp.toNatClampNeg n.toNatClampNeg))))[q]? = H[q]? := fun q hq => by simp [Array.getElem?_setIfInBounds, Ne.symm hq]
  obtain ⟨t, a1, b1⟩ := K _ _ ls (by simp; exact e1) (z_upd e2 k1 rfl (c1 := zI n1 (va_cpy f g sp.toNatClampNeg dp.toNatClampNeg n.toNatClampNeg)) rfl (show (H.setIfInBounds a _)[a]? = some _ by simp [Array.getElem?_setIfInBounds, hl]) oq) ⟨by simp; exact e3.1, fun q w1 w2 => by
      rw [oq q (fun e => w2 (by rw [e]; exact hat.1))]
      exact e3.2.1 q w1 w2, fun q hq => by
      rcases List.mem_append.mp hq with h | h
      · exact e3.2.2 q h
      · obtain ⟨z, -, hz⟩ := List.mem_map.mp h
        rw [← hz]
        exact hat.1⟩ e4 _ hheap X'
  exact ⟨t, step t a1, b1⟩
theorem z_copyQ (C : z_Cx p l s m args meth c cc nL own ret G lo t0) (hv : z_cpQ h a0 sp a dp n = some h1) (w1 : Cond.methodLink own ix arraycopyName ∈ wsL_law) (w2 : Cond.native arraycopyName ∈ wsL_law) (w3 : Cond.static arraycopyName ∈ wsL_law) (w4 : Cond.initialized "java/lang/System" ∈ wsL_law) (hfr : 1 ≤ R.frames) (hlc : (st.map fun v => v.category).sum + (nativeFrameWords "java/lang/System" "arraycopy" 5 + 11) ≤ R.locals) (d : decode cc pc = .ok (.invokestatic ix, 3)) (K : z_R p l e R s m args below meth c G lo nL cells slots Q (pc + 3) lv st h1 nx) : z_R p l e R s m args below meth c G lo nL cells slots Q pc lv (.int n :: .int dp :: .ref a :: .int sp :: .ref a0 :: st) h nx := by
  intro H locs ls e1 e2 e3 e4
  obtain ⟨⟨n0, f⟩, q0, hv⟩ := Option.bind_eq_some_iff.mp hv
  obtain ⟨⟨n1, g⟩, q1, hv⟩ := Option.bind_eq_some_iff.mp hv
  obtain ⟨⟨g1, g2, g3, g4, g5, g6⟩, hv⟩ := z_gy hv
  cases hv
  have k0 := z_aq_spec q0
  have k1 := z_aq_spec q1
  dsimp only at k0 k1 g4 g5 g6
  have hts := C.1.2.2.2.2
  have hK : va_K G.1 vwCl (z_tys G) s := C.2.2.2.2.2.1
  have hat := (e2 a _ k1).1 _ rfl
  have hc0 : H[a0]? = some (vp_cell (G.2 1) (n0, .inr (.inr (.inr (.inr f))))) := ((e2 a0 _ k0).1 _ rfl).2
  have hc1 : H[a]? = some (vp_cell (G.2 1) (n1, .inr (.inr (.inr (.inr g))))) := hat.2
  obtain ⟨-, kk0, hk0, cm0, hkk0⟩ := (hK.2 1 _ rfl).1 n0 (fun j => va_rf (f j))
  intro T hT X
  obtain ⟨vm', X', step⟩ := X.arraycopy C.1.1 C.1.2.2.2.1 (hts _ w1) (hts _ w2) (hts _ w3) (hts _ w4) (src := a0) (dst := a) (cs := vp_cell (G.2 1) (n0, .inr (.inr (.inr (.inr f))))) (cd := vp_cell (G.2 1) (n1, .inr (.inr (.inr (.inr g))))) (srcPos := sp) (destPos := dp) (n := n) (by rw [hT]; exact hc0) (by rw [hT]; exact hc1)
    (fun _ h => by cases h) (fun _ h => by cases h) (fun h => by cases h) (fun h => by cases h) hk0 hk0 hkk0 hkk0 rfl g1 g2 g3
    (by rw [z_nn sp g1, z_nn n g3]; show ¬ _ > ((arrV (G.2 1) n0 (fun j => va_rf (f j))).slots.size : Int); rw [arrV_size]; omega)
    (by rw [z_nn dp g2, z_nn n g3]; show ¬ _ > ((arrV (G.2 1) n1 (fun j => va_rf (g j))).slots.size : Int); rw [arrV_size]; omega)
    (fun vm₁ hal i hi => by
      have e : (vp_cell (G.2 1) (n0, .inr (.inr (.inr (.inr f))))).slots.getD (sp.toNatClampNeg + i) .null = va_rf (f (sp.toNatClampNeg + i)) := by
        show (arrV (G.2 1) n0 (fun j => va_rf (f j))).slots.getD _ _ = _
        rw [Array.getD_eq_getD_getElem?, arrV_read _ _ (by omega)]
        rfl
      rw [e]
      have g7 := List.all_eq_true.mp g6 i (List.mem_range.mpr hi)
      cases hy : f (sp.toNatClampNeg + i) with
      | none => exact ⟨rfl, trivial⟩
      | some y =>
        rw [hy] at g7
        have g8 : z_el h y = true := g7
        simp only [z_el, Bool.or_eq_true, Option.isSome_iff_exists] at g8
        obtain ⟨ci, Cn, T9, N9, fs, hvw, hcast, hob⟩ : ∃ (ci : Nat) (Cn : String) (T9 : u_T) (N9 : Nat) (fs : List Value), vwCl[ci]? = some (Cn, T9, N9) ∧ Cond.castable Cn "java/lang/Object" ∈ z_ws ∧ z_ob h y ci = some fs := by
          rcases g8 with ⟨fs, hb⟩ | ⟨fs, hb⟩
          · exact ⟨1, _, _, _, fs, rfl, by decide, hb⟩
          · exact ⟨4, _, _, _, fs, rfl, by decide, hb⟩
        obtain ⟨cellV, w5, w6, w7⟩ := va_recv hK (z_P1 ((e2 y _ (z_ob_spec hob)).1 _ rfl).2) hvw (q0 := 0) rfl
        obtain ⟨kA, comp, r1, r2, r3, -⟩ := (hK.2 1 _ rfl).2
        cases hk0.symm.trans r1
        cases hkk0.symm.trans r2
        obtain ⟨c3, c4, hc3, hc4, hasg⟩ := Cond.castable_spec (va_Nw.use (A := args) rfl (C.2.2.2.2.2.2.2.1 _ hcast))
        obtain ⟨kC, hkC, -⟩ := Vm.findClass_spec w7
        obtain ⟨kE, hkE, -⟩ := Vm.findClass_spec r3
        obtain ⟨kC', hkC', -⟩ := hal.2.2 _ _ hkC
        obtain ⟨kE', hkE', -⟩ := hal.2.2 _ _ hkE
        refine ⟨rfl, cellV, (show T.heap[y]? = some cellV by rw [hT]; exact w5), (fun q h => by rw [h] at w6; cases w6), ⟨kC', hkC'⟩, ?_, ?_⟩
        · exact ⟨kE', hkE'⟩
        · show vm₁.assignable _ _ = true
          rw [hal.assignable]
          have e5 : c3 = cellV.cls := Option.some.inj (hc3.symm.trans w7)
          have e6 : c4 = cm0 := Option.some.inj (hc4.symm.trans r3)
          rw [← e5, ← e6]
          exact hasg)
    (g := F0 m pc ls (.int n :: .int dp :: .ref a :: .int sp :: .ref a0 :: st)) rfl (e4.1.trans C.1.2.2.1.symm) (rest := st) rfl (by rw [C.1.2.1]; exact d) hfr (by show 2 * 0 + _ + _ ≤ _; omega)
  have e9 : copied (vp_cell (G.2 1) (n0, .inr (.inr (.inr (.inr f))))) (vp_cell (G.2 1) (n1, .inr (.inr (.inr (.inr g))))) sp dp n = vp_cell (G.2 1) (n1, .inr (.inr (.inr (.inr (va_cpy f g sp.toNatClampNeg dp.toNatClampNeg n.toNatClampNeg))))) := by
    rw [vp_cell_q, vp_cell_q, vp_cell_q]
    exact va_copied (fun z => va_rf z) (G.2 1) (G.2 1) f g g4
  rw [e9] at X' step
  have hl : a < H.size := (Array.getElem?_eq_some_iff.mp hc1).1
  have hheap : ((T.setVm vm').setCell a (vp_cell (G.2 1) (n1, .inr (.inr (.inr (.inr (va_cpy f g sp.toNatClampNeg dp.toNatClampNeg n.toNatClampNeg))))))).heap = H.setIfInBounds a (vp_cell (G.2 1) (n1, .inr (.inr (.inr (.inr (va_cpy f g sp.toNatClampNeg dp.toNatClampNeg n.toNatClampNeg)))))) := by rw [← hT]; rfl
  have oq : ∀ q : Nat, q ≠ a → (H.setIfInBounds a (vp_cell (G.2 1) (n1, .inr (.inr (.inr (.inr (va_cpy f g sp.toNatClampNeg dp.toNatClampNeg n.toNatClampNeg)))))))[q]? = H[q]? := fun q hq => by simp [Array.getElem?_setIfInBounds, Ne.symm hq]
  obtain ⟨t, a1, b1⟩ := K _ _ ls (by simp; exact e1) (z_upd e2 k1 rfl (c1 := zQ n1 (va_cpy f g sp.toNatClampNeg dp.toNatClampNeg n.toNatClampNeg)) rfl (show (H.setIfInBounds a _)[a]? = some _ by simp [Array.getElem?_setIfInBounds, hl]) oq) ⟨by simp; exact e3.1, fun q w1 w2 => by
      rw [oq q (fun e => w2 (by rw [e]; exact hat.1))]
      exact e3.2.1 q w1 w2, fun q hq => by
      rcases List.mem_append.mp hq with h | h
      · exact e3.2.2 q h
      · obtain ⟨z, -, hz⟩ := List.mem_map.mp h
        rw [← hz]
        exact hat.1⟩ e4 _ hheap X'
  exact ⟨t, step t a1, b1⟩
end ZCP
theorem ax_X4_54 : ∀ w ∈ (vx_atS RX4 54 "java/lang/IllegalArgumentException" ["java/lang/RuntimeException", "java/lang/Exception"]).filter goodWord, w ∈ wsL_law := fun w h => List.mem_append_left _ (List.mem_append_left _ (List.mem_append_left _ (List.mem_append_right _ h)))
theorem ax_X4_54_b : ∀ w ∈ (vx_atS RX4 54 "java/lang/IllegalArgumentException" ["java/lang/RuntimeException", "java/lang/Exception"]).filter (fun w => !goodWord w), w ∈ Cond.castable "java/lang/IllegalArgumentException" "java/lang/IllegalArgumentException" :: z_ds := by decide +kernel
theorem ax_X4_54_g : ∀ w ∈ Cond.classLink RX4 50 "java/lang/IllegalArgumentException" :: Cond.initialized "java/lang/IllegalArgumentException" :: vx_atS RX4 54 "java/lang/IllegalArgumentException" ["java/lang/RuntimeException", "java/lang/Exception"], vx_ot w = true := by decide +kernel
theorem ax_X4_71 : ∀ w ∈ (vx_atS RX4 71 "java/lang/IllegalStateException" ["java/lang/RuntimeException", "java/lang/Exception"]).filter goodWord, w ∈ wsL_law := fun w h => List.mem_append_left _ (List.mem_append_left _ (List.mem_append_right _ h))
theorem ax_X4_71_b : ∀ w ∈ (vx_atS RX4 71 "java/lang/IllegalStateException" ["java/lang/RuntimeException", "java/lang/Exception"]).filter (fun w => !goodWord w), w ∈ Cond.castable "java/lang/IllegalStateException" "java/lang/IllegalStateException" :: z_ds := by decide +kernel
theorem ax_X4_71_g : ∀ w ∈ Cond.classLink RX4 67 "java/lang/IllegalStateException" :: Cond.initialized "java/lang/IllegalStateException" :: vx_atS RX4 71 "java/lang/IllegalStateException" ["java/lang/RuntimeException", "java/lang/Exception"], vx_ot w = true := by decide +kernel
theorem ax_X4_182 : ∀ w ∈ (vx_atS RX4 182 "java/lang/IndexOutOfBoundsException" ["java/lang/RuntimeException", "java/lang/Exception"]).filter goodWord, w ∈ wsL_law := fun w h => List.mem_append_left _ (List.mem_append_right _ h)
theorem ax_X4_182_b : ∀ w ∈ (vx_atS RX4 182 "java/lang/IndexOutOfBoundsException" ["java/lang/RuntimeException", "java/lang/Exception"]).filter (fun w => !goodWord w), w ∈ Cond.castable "java/lang/IndexOutOfBoundsException" "java/lang/IndexOutOfBoundsException" :: z_ds := by decide +kernel
theorem ax_X4_182_g : ∀ w ∈ Cond.classLink RX4 178 "java/lang/IndexOutOfBoundsException" :: Cond.initialized "java/lang/IndexOutOfBoundsException" :: vx_atS RX4 182 "java/lang/IndexOutOfBoundsException" ["java/lang/RuntimeException", "java/lang/Exception"], vx_ot w = true := by decide +kernel
theorem ax_X1_50 : ∀ w ∈ (vx_atS RX1 50 "java/lang/IndexOutOfBoundsException" ["java/lang/RuntimeException", "java/lang/Exception"]).filter goodWord, w ∈ wsL_law := fun w h => List.mem_append_right _ h
theorem ax_X1_50_b : ∀ w ∈ (vx_atS RX1 50 "java/lang/IndexOutOfBoundsException" ["java/lang/RuntimeException", "java/lang/Exception"]).filter (fun w => !goodWord w), w ∈ Cond.castable "java/lang/IndexOutOfBoundsException" "java/lang/IndexOutOfBoundsException" :: z_ds := by decide +kernel
theorem ax_X1_50_g : ∀ w ∈ Cond.classLink RX1 46 "java/lang/IndexOutOfBoundsException" :: Cond.initialized "java/lang/IndexOutOfBoundsException" :: vx_atS RX1 50 "java/lang/IndexOutOfBoundsException" ["java/lang/RuntimeException", "java/lang/Exception"], vx_ot w = true := by decide +kernel
end
