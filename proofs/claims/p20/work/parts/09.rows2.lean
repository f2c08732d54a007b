/-! more rows: constants, arrays of int[], the script, a private constructor, a method with a table, a segment's budget -/
section Z9
variable {p : Program} {l : Launch} {e : Env} {R : Room} {s : State} {m : MethodId} {args : Array Value} {below : List Frame} {meth : Method} {c : Code} {G : zG} {lo t0 nL cells slots : Nat} {Q : State → Prop} {pc : Nat} {lv lv' : List (Nat × Value)} {st rest : List Value} {h h1 : zH} {nx : Nat} {cc : ByteArray} {own : String} {ret : Option FieldType}
variable {x y v i : Int32} {a b : Nat} {n off : Int} {tgt k ix : Nat}
theorem z_ldc (C : z_Cx p l s m args meth c cc nL own ret G lo t0) (d : decode cc pc = .ok (.ldc ix, 2)) (hw : Cond.constant own ix v ∈ wsL_law) (K : z_R p l e R s m args below meth c G lo nL cells slots Q (pc + 2) lv (.int v :: st) h nx) : z_R p l e R s m args below meth c G lo nL cells slots Q pc lv st h nx := fun H locs ls e1 e2 e3 e4 => lv_ldc C.1.1 C.1.2.1 C.1.2.2.2.1 (C.1.2.2.2.2 _ hw) d (K H locs ls e1 e2 e3 e4)
theorem z_ifnn {z : Nat} (C : z_Cx p l s m args meth c cc nL own ret G lo t0) (d : decode cc pc = .ok (.ifnonnull off, 3)) (ht : (pc : Int) + off = (tgt : Int)) (K : z_R p l e R s m args below meth c G lo nL cells slots Q tgt lv st h nx) : z_R p l e R s m args below meth c G lo nL cells slots Q pc lv (.ref z :: st) h nx := fun H locs ls e1 e2 e3 e4 => lv_ifnonnull C.1.1 C.1.2.1 d ht (K H locs ls e1 e2 e3 e4)
theorem z_scl (C : z_Cx p l s m args meth c cc nL own ret G lo t0) (hv : z_sl h a = some x) (d : decode cc pc = .ok (.arraylength, 1)) (K : z_R p l e R s m args below meth c G lo nL cells slots Q (pc + 1) lv (.int x :: st) h nx) : z_R p l e R s m args below meth c G lo nL cells slots Q pc lv (.ref a :: st) h nx := by
  intro H locs ls e1 e2 e3 e4
  obtain ⟨r, h1, h2⟩ := Option.bind_eq_some_iff.mp hv
  cases h2
  obtain ⟨q1, q2, q3⟩ := (e2 a _ (z_sc_spec h1)).2 _ rfl
  exact va_slen C.1.1 C.1.2.1 (A := fun z : Nat => lo ≤ z) q1 q2 q3 ⟨Nat.le_refl _, fun _ _ _ => rfl, e3.2.2⟩ d (K H locs ls e1 e2 e3 e4)
theorem z_sci (C : z_Cx p l s m args meth c cc nL own ret G lo t0) (hv : z_si h a i = some x) (d : decode cc pc = .ok (.iaload, 1)) (K : z_R p l e R s m args below meth c G lo nL cells slots Q (pc + 1) lv (.int x :: st) h nx) : z_R p l e R s m args below meth c G lo nL cells slots Q pc lv (.int i :: .ref a :: st) h nx := by
  intro H locs ls e1 e2 e3 e4
  obtain ⟨r, h1, h2⟩ := Option.bind_eq_some_iff.mp hv
  split at h2
  · cases h2
  · rename_i hn
    cases h2
    obtain ⟨q1, q2, q3⟩ := (e2 a _ (z_sc_spec h1)).2 _ rfl
    exact va_sld C.1.1 C.1.2.1 (A := fun z : Nat => lo ≤ z) q1 q2 q3 ⟨Nat.le_refl _, fun _ _ _ => rfl, e3.2.2⟩ hn d (K H locs ls e1 e2 e3 e4)
theorem z_aaldD (C : z_Cx p l s m args meth c cc nL own ret G lo t0) (hv : z_aD h a i = some b) (d : decode cc pc = .ok (.aaload, 1)) (K : z_R p l e R s m args below meth c G lo nL cells slots Q (pc + 1) lv (.ref b :: st) h nx) : z_R p l e R s m args below meth c G lo nL cells slots Q pc lv (.int i :: .ref a :: st) h nx := by
  intro H locs ls e1 e2 e3 e4
  obtain ⟨n, f, ha, hin, hf⟩ := z_aD_spec hv
  have hK : va_K G.1 vwCl (z_tys G) s := C.2.2.2.2.2.1
  have hlt : i.toNatClampNeg < n := Nat.not_le.mp fun q => hin (Or.inr q)
  refine W.aald (v := va_rf (f i.toNatClampNeg)) (ty := .array .int) C.1.1 C.1.2.1 ((e2 a _ ha).1 _ rfl).2 ((hK.2 2 _ rfl).1 n (fun j => va_rf (f j))) rfl (fun q => by cases q) (by show ¬ (i < 0 ∨ (arrV _ _ _).slots.size ≤ _); rw [arrV_size]; exact hin) (by show (arrV _ _ _).slots[_]? = _; rw [arrV_read _ _ hlt]) rfl rfl d ?_
  rw [hf]
  exact K H locs ls e1 e2 e3 e4
theorem z_aastD (C : z_Cx p l s m args meth c cc nL own ret G lo t0) (hv : z_sD h a i b = some h1) (d : decode cc pc = .ok (.aastore, 1)) (K : z_R p l e R s m args below meth c G lo nL cells slots Q (pc + 1) lv st h1 nx) : z_R p l e R s m args below meth c G lo nL cells slots Q pc lv (.ref b :: .int i :: .ref a :: st) h nx := by
  intro H locs ls e1 e2 e3 e4
  obtain ⟨n, f, k, g, hb, ha, hin, rfl⟩ := z_sD_spec hv
  have hK : va_K G.1 vwCl (z_tys G) s := C.2.2.2.2.2.1
  have hat := (e2 a _ ha).1 _ rfl
  have hbt : H[b]? = some (arrV (G.2 0) k (fun j => .int (g j))) := ((e2 b _ hb).1 _ rfl).2
  obtain ⟨-, kI, hkI, cmI, hkI2⟩ := (hK.2 0 _ rfl).1 k (fun j => .int (g j))
  obtain ⟨comp, cA, kA, hcomp, -, hkA, hkindA, hnameA⟩ := arrayOverA_spec (args := args) (first := s) (s := s) (o := none) (idx := []) (over_moved (Vm.Alike.refl s.vm) C.2.2.2.2.2.2.2.2.2.2.1.2)
  have n0 : s.vm.findClass "[I" = some (G.2 0) := (hK.2 0 _ rfl).2
  have n2 : s.vm.findClass "[[I" = some (G.2 2) := (hK.2 2 _ rfl).2
  obtain rfl : G.2 0 = comp := Option.some.inj (n0.symm.trans hcomp)
  obtain rfl : G.2 2 = cA := Option.some.inj (n2.symm.trans hnameA)
  have hlt : i.toNatClampNeg < n := Nat.not_le.mp fun q => hin (Or.inr q)
  have h0 : ¬ i < 0 := fun q => hin (Or.inl q)
  refine W.aast C.1.1 C.1.2.1 (cell := vp_cell (G.2 2) (n, .inr (.inr (.inr (.inr f))))) hat.2 (fun q h => by cases h) (fun h => by cases h) hkA hkindA rfl hkI ⟨h0, by show _ < (arrV _ _ _).slots.size; rw [arrV_size]; exact hlt⟩ hbt (fun q h => by cases h) hkI (Vm.assignable_self s.vm (G.2 0)) rfl rfl d fun H1 w z oq => ?_
  refine K H1 _ ls (z.trans e1) (z_upd e2 ha rfl rfl ?_ oq) (e3.put z oq hat.1) e4
  show H1[a]? = some (vp_cell _ _)
  rw [w, vp_cell_q, vp_cell_q, arrV_store]
  congr 2
  funext q
  by_cases hq : q = i.toNatClampNeg
  · subst hq
    simp [updV, va_up, va_rf]
  · simp [updV, va_up, hq]
/-- an array of at most 16 int[] -/
theorem z_newD {n : Int32} (C : z_Cx p l s m args meth c cc nL own ret G lo t0) (w1 : Cond.classLink own ix "[I" ∈ wsL_law) (hn : ¬ n < 0 ∧ n.toNatClampNeg ≤ 16) (hcells : cells + 1 ≤ R.cells) (hslots : slots + 16 ≤ R.slots) (d : decode cc pc = .ok (.anewarray ix, 3)) (K : z_R p l e R s m args below meth c G lo nL (cells + 1) (slots + 16) Q (pc + 3) lv (.ref nx :: st) (z_up h nx (zD n.toNatClampNeg (fun _ => none))) (nx + 1)) : z_R p l e R s m args below meth c G lo nL cells slots Q pc lv (.int n :: st) h nx := by
  intro H locs ls e1 e2 e3 e4
  subst e1
  have hK : va_K G.1 vwCl (z_tys G) s := C.2.2.2.2.2.1
  have hlo : lo ≤ H.size := Nat.le_trans C.2.2.2.2.1 e3.1
  have hov : (Cond.arrayOver (.array .int)).before args s = true := over_moved (Vm.Alike.refl s.vm) C.2.2.2.2.2.2.2.2.2.2.1.2
  have hls : slots + n.toNatClampNeg ≤ slots + 16 := Nat.add_le_add_left hn.2 _
  refine W.anewA (t := .int) C.1.1 C.1.2.1 C.1.2.2.2.1 (C.1.2.2.2.2 _ w1) hov rfl d rfl hn.1 (by have := hn.2; omega) hcells (Nat.le_trans hls hslots) fun cA kA comp f1 f2 f3 f4 => ?_
  have hcA : cA = G.2 2 := Option.some.inj (f1.symm.trans ((hK.2 2 _ rfl).2))
  subst hcA
  generalize hH1 : H.push ({ cls := G.2 2, slots := Array.replicate n.toNatClampNeg .null, vm := .none } : Cell) = H1
  have z1 : H1.size = H.size + 1 := by rw [← hH1, Array.size_push]
  have q1 : H1[H.size]? = some (arrV (G.2 2) n.toNatClampNeg (fun _ => .null)) := by rw [← hH1, Array.getElem?_push_size, ← arrV_new]
  have o1 : ∀ q : Nat, q < H.size → H1[q]? = H[q]? := fun q hq => by rw [← hH1, Array.getElem?_push, if_neg (Nat.ne_of_lt hq)]
  exact W.widen (Nat.le_refl _) hls (K H1 locs ls z1 (z_newhp e2 rfl hlo rfl q1 o1) ⟨by rw [z1]; exact Nat.le_succ_of_le e3.1, fun x h1 h2 => (o1 x (Nat.lt_of_lt_of_le h1 e3.1)).trans (e3.2.1 x h1 h2), e3.2.2⟩ e4)
/-- an int[] of at most 16 cells -/
theorem z_newJ {n : Int32} (C : z_Cx p l s m args meth c cc nL own ret G lo t0) (w1 : Cond.arrayClass .int ∈ wsL_law) (hn : ¬ n < 0 ∧ n.toNatClampNeg ≤ 16) (hcells : cells + 1 ≤ R.cells) (hslots : slots + 16 ≤ R.slots) (d : decode cc pc = .ok (.newarray .int, 2)) (K : z_R p l e R s m args below meth c G lo nL (cells + 1) (slots + 16) Q (pc + 2) lv (.ref nx :: st) (z_up h nx (zI n.toNatClampNeg (fun _ => 0))) (nx + 1)) : z_R p l e R s m args below meth c G lo nL cells slots Q pc lv (.int n :: st) h nx := by
  have hls : slots + n.toNatClampNeg ≤ slots + 16 := Nat.add_le_add_left hn.2 _
  exact z_newI C w1 hn.1 rfl (by have := hn.2; omega) hcells (Nat.le_trans hls hslots) d (z_wide (Nat.le_refl _) hls K)
/-- new int[n'][k'] -/
theorem z_newM {n k : Int32} {n' k' : Nat} (C : z_Cx p l s m args meth c cc nL own ret G lo t0) (w1 : Cond.classLink own ix "[[I" ∈ wsL_law) (w2 : Cond.arrayClass .int ∈ wsL_law) (hn : ¬ n < 0) (hk : ¬ k < 0) (hN : n.toNatClampNeg = n') (hK : k.toNatClampNeg = k') (hb1 : n' * 4 ≤ 536870912) (hb2 : k' * 4 ≤ 536870912) (hcells : cells + (1 + n') ≤ R.cells) (hslots : slots + (n' + n' * k') ≤ R.slots) (d : decode cc pc = .ok (.multianewarray ix 2, 4))
    (K : z_R p l e R s m args below meth c G lo nL (cells + (1 + n')) (slots + (n' + n' * k')) Q (pc + 4) lv (.ref nx :: st) (z_mm h nx n' k') (nx + 1 + n')) : z_R p l e R s m args below meth c G lo nL cells slots Q pc lv (.int k :: .int n :: st) h nx := by
  intro H locs ls e1 e2 e3 e4
  subst e1
  have hKK : va_K G.1 vwCl (z_tys G) s := C.2.2.2.2.2.1
  have hlo : lo ≤ H.size := Nat.le_trans C.2.2.2.2.1 e3.1
  have hov : (Cond.arrayOver (.array .int)).before args s = true := over_moved (Vm.Alike.refl s.vm) C.2.2.2.2.2.2.2.2.2.2.1.2
  have n0 : s.vm.findClass "[I" = some (G.2 0) := (hKK.2 0 _ rfl).2
  have n2 : s.vm.findClass "[[I" = some (G.2 2) := (hKK.2 2 _ rfl).2
  refine W_mna C.1.1 C.1.2.1 C.1.2.2.2.1 (C.1.2.2.2.2 _ w1) hov (C.1.2.2.2.2 _ w2) rfl d rfl hn hk hN hK hb1 hb2 hcells hslots fun cA cI H1 f1 f2 z1 o1 q1 q2 => ?_
  obtain rfl : G.2 2 = cA := Option.some.inj (n2.symm.trans f1)
  obtain rfl : G.2 0 = cI := Option.some.inj (n0.symm.trans f2)
  refine K H1 locs ls z1 ?_ ⟨by rw [z1, Nat.add_assoc]; exact Nat.le_trans e3.1 (Nat.le_add_right _ _), fun x h1 h2 => (o1 x (Nat.lt_of_lt_of_le h1 e3.1)).trans (e3.2.1 x h1 h2), e3.2.2⟩ e4
  intro q cq hq
  unfold z_mm at hq
  by_cases g1 : q = H.size
  · rw [if_pos g1] at hq
    cases hq
    subst g1
    refine ⟨fun e he => ?_, fun w he => by cases he⟩
    cases he
    refine ⟨hlo, ?_⟩
    show H1[H.size]? = some (vp_cell _ _)
    rw [q1, vp_cell_q]
    exact congrArg some (z_arrVc fun j hj => by rw [if_pos hj]; rfl)
  · rw [if_neg g1] at hq
    by_cases g2 : H.size < q ∧ q ≤ H.size + n'
    · rw [if_pos g2] at hq
      cases hq
      refine ⟨fun e he => ?_, fun w he => by cases he⟩
      cases he
      refine ⟨Nat.le_trans hlo (Nat.le_of_lt g2.1), ?_⟩
      show H1[q]? = some (vp_cell _ _)
      have := q2 (q - (H.size + 1)) (by omega)
      rw [show H.size + 1 + (q - (H.size + 1)) = q by omega] at this
      exact this
    · rw [if_neg g2] at hq
      refine ⟨fun e he => ⟨((e2 q cq hq).1 e he).1, ((e2 q cq hq).1 e he).2.kept (o1 q ((e2 q cq hq).1 e he).2.lt)⟩, fun w he => ?_⟩
      exact z_ou.kept ((e2 q cq hq).2 w he) (fun b hb _ => o1 b hb)
variable {maxL fr lc mc ms nn : Nat} {yy : MethodName} {bytes : ByteArray} {rt : Option FieldType} {As : List Value} {oo : zV} {hh : List (Nat × Nat × Nat × Nat)}
theorem z_callIN {host : String} {w : Option Value × zH × Nat} (C : z_Cx p l s m args meth c cc nL own ret G lo t0) (hM : z_Met l yy bytes maxL none fr lc G lo t0 (.ref b :: As) h nx (.inr w) mc ms) (hy : yy.name = "<init>") (w1 : va_Nw (.methodLinkNest own ix yy host) s) (w2 : Cond.instanceMethod yy ∈ wsL_law) (w4 : Cond.initialized yy.cls ∈ wsL_law) (w5 : Cond.code yy bytes maxL none ∈ wsL_law) (hd : yy.cls ≠ "java/lang/invoke/MethodHandle" ∧ yy.cls ≠ "java/lang/invoke/VarHandle" ∧ (parseMethodDescriptor yy.desc).map (fun d => d.parameters.length) = some nn) (hR : fr + 1 ≤ R.frames ∧ 8 + (maxL + 11) + lc ≤ R.locals) (hn : As.length = nn) (hcat : (rest.map fun v => v.category).sum ≤ 8) (d : decode cc pc = .ok (.invokespecial ix, 3)) (hf : cells + mc ≤ R.cells ∧ slots + ms ≤ R.slots) : z_Ca p l e R s m args below meth c G lo nL cells slots mc ms pc lv (As.reverse ++ .ref b :: rest) rest h nx (.inr w) := by
  intro H locs ls e1 e2 e3 e4
  have hts := C.1.2.2.2.2
  exact ⟨_, fun T hT X => Or.inl (va_runIN C.1 (z_met hM z_noX) ⟨va_cnB nn hts (WL_cons w5 WL_in) rfl rfl rfl w1 (hts _ w4) hd hR, hy, hts _ w2⟩ ⟨z_blind, fun U hU hW => ⟨rfl, z_pre C e1 e2 e3 U hU hW⟩⟩ rfl hn e4.1 rfl (lv_room hcat) d hf T hT X)⟩
end Z9
/-! a segment's budget -/
theorem zk0 {a b D n : Nat} (h : a + D ≤ n) (hb : b ≤ D) : a + b ≤ n := Nat.le_trans (Nat.add_le_add_left hb a) h
theorem zk1 {a b : Nat} (hb : b = 0) : a + b ≤ a := by rw [hb]; exact Nat.le_refl _
theorem zk2 {a b d k : Nat} (hb : d + b ≤ k) : a + d + b ≤ a + k := by rw [Nat.add_assoc]; exact Nat.add_le_add_left hb a
theorem zk3 {a b d D n : Nat} (h : a + D ≤ n) (hb : d + b ≤ D) : a + d + b ≤ n := by rw [Nat.add_assoc]; exact Nat.le_trans (Nat.add_le_add_left hb a) h
/-! methods that end by a relation: what they answer, the heap, its size -/
def z_qr (G : zG) (lo : Nat) (vf : Int32 → Value) (Rel : Int32 → zH → Nat → Prop) : Array Value → State → Outcome → State → Prop := fun _ st oc t => ∃ (v : Int32) (h1 : zH), Rel v h1 t.heap.size ∧ oc = .returned (some (vf v)) ∧ z_hp G lo t h1 t.heap ∧ va_F (fun z : Nat => lo ≤ z) st t
def z_xh : String → State → State → Prop := fun _ _ _ => False
/-- a contract by a relation, of a method with a table -/
def z_RM (l : Launch) (y : MethodName) (cc : ByteArray) (maxL : Nat) (ret : FieldType) (hh : List (Nat × Nat × Nat × Nat)) (fr lc : Nat) (G : zG) (lo t0 : Nat) (av : List Value) (h : zH) (nx : Nat) (Rel : Int32 → zH → Nat → Prop) (mc ms : Nat) : Prop :=
  vx_Met l y (Cond.codeWith y cc maxL (some ret) hh :: wsL_law) (z_rm fr lc mc ms) (va_Pc av (z_U G lo t0 h nx)) (z_qr G lo .int Rel) z_xh mc ms (fun z : Nat => lo ≤ z)
abbrev z_RQ (below : List Frame) (G : zG) (lo : Nat) (Rel : Int32 → zH → Nat → Prop) (av : List Value) (s : State) (mc ms : Nat) : State → Prop := vx_MQ below (z_qr G lo .int Rel) z_xh av.toArray s mc ms (fun z : Nat => lo ≤ z)
theorem zr_of {l : Launch} {y : MethodName} {cc : ByteArray} {maxL : Nat} {ret : FieldType} {hh : List (Nat × Nat × Nat × Nat)} {fr lc : Nat} {G : zG} {lo t0 : Nat} {av : List Value} {h : zH} {nx : Nat} {Rel : Int32 → zH → Nat → Prop} {mc ms : Nat} (lv : List (Nat × Value)) (hcl : y.cls = RL) (hy : plainName y.cls = true) (hn : (lg_sl av).length ≤ maxL) (hlv : lv_args 0 av = lv)
    (body : ∀ p e s m below meth c, z_Cx p l s m av.toArray meth c cc maxL y.cls (some ret) G lo t0 → c.exceptionTable.toList = tableOf hh → z_R p l e (z_rm fr lc mc ms) s m av.toArray below meth c G lo maxL 0 0 (z_RQ below G lo Rel av s mc ms) 0 lv [] h nx) : z_RM l y cc maxL ret hh fr lc G lo t0 av h nx Rel mc ms := by
  subst hlv
  refine vx_ofWH (cc := cc) (maxL := maxL) (ret := some ret) (hh := hh) hy rfl ?_
  intro p e s m args below meth c s₁ B hml hv
  obtain ⟨rfl, hsz, hlo, hK, hZ, hT, hhp⟩ := hv
  have hts := atoms_spec (ws := Cond.codeWith y cc maxL (some ret) hh :: wsL_law) B.pre
  have hown : s.vm.findClass y.cls = some m.cls := findClass_of_methodNamed B.named
  have htab := vx_table (x := y) B (hts _ List.mem_cons_self)
  have hl := lv_entry av (n := maxL) hn
  rw [lg_entry_eq]
  exact body p e s m below meth c ⟨⟨B.exec, B.bytes, hml, hown, fun w hw => hts w (List.mem_cons_of_mem _ hw)⟩, B.returns, B.notSynchronized, .inl hcl, by rw [hsz]; exact hlo, hK, hZ, hT⟩ htab s.heap [] _ hsz hhp va_S.rf hl
section Z9B
variable {p : Program} {l : Launch} {e : Env} {R : Room} {s : State} {m : MethodId} {args : Array Value} {below : List Frame} {meth : Method} {c : Code} {G : zG} {lo t0 nL cells slots : Nat} {Q : State → Prop} {pc : Nat} {lv lv' : List (Nat × Value)} {st rest stk : List Value} {h h1 : zH} {nx : Nat} {cc : ByteArray} {own : String} {ret : Option FieldType}
variable {maxL fr lc mc ms n ix : Nat} {y : MethodName} {bytes : ByteArray} {As : List Value} {hh : List (Nat × Nat × Nat × Nat)} {Rel : Int32 → zH → Nat → Prop}
theorem z_rzret {av : List Value} {x : Int32} (C : z_Cx p l s m av.toArray meth c cc nL own (some .boolean) G lo t0) (hx : x = 0 ∨ x = 1) (hR : Rel x h nx) (hc : cells ≤ mc) (hs : slots ≤ ms) (d : decode cc pc = .ok (.ireturn, 1)) : z_R p l e R s m av.toArray below meth c G lo nL cells slots (z_RQ below G lo Rel av s mc ms) pc lv [.int x] h nx := by
  intro H locs ls e1 e2 e3 e4
  refine W.widen hc hs (vx_ret ?_)
  exact W.zret C.1.1 C.1.2.1 C.2.1 (by rcases hx with rfl | rfl <;> rfl) (fun t ht hW => ⟨x, h, by rw [ht, e1]; exact hR, rfl, by rw [ht]; exact e2.moved hW.alike, e3.F ht⟩) e3.2.2 d C.2.2.1
/-- a static call of a method with a contract by a relation -/
theorem z_callR {rt : FieldType} (C : z_Cx p l s m args meth c cc nL own ret G lo t0) (hM : z_RM l y bytes maxL rt hh fr lc G lo t0 As h nx Rel mc ms) (w1 : Cond.methodLink own ix y ∈ wsL_law) (w2 : Cond.static y ∈ wsL_law) (w4 : Cond.initialized y.cls ∈ wsL_law) (w5 : Cond.codeWith y bytes maxL (some rt) hh ∈ wsL_law)
    (hd : y.cls ≠ "java/lang/invoke/MethodHandle" ∧ y.cls ≠ "java/lang/invoke/VarHandle" ∧ (parseMethodDescriptor y.desc).map (fun d => d.parameters.length) = some n) (hR : fr + 1 ≤ R.frames ∧ 8 + (maxL + 11) + lc ≤ R.locals) (hn : As.length = n) (hcat : (rest.map fun v => v.category).sum ≤ 8) (d : decode cc pc = .ok (.invokestatic ix, 3)) (hf : cells + mc ≤ R.cells ∧ slots + ms ≤ R.slots) (st' : List Value) (hst : As.reverse ++ rest = st')
    (K : ∀ v h1 n1, Rel v h1 n1 → z_R p l e R s m args below meth c G lo nL (cells + mc) (slots + ms) Q (pc + 3) lv (.int v :: rest) h1 n1) : z_R p l e R s m args below meth c G lo nL cells slots Q pc lv st' h nx := by
  intro H locs ls e1 e2 e3 e4 T hT X
  subst hst
  have hts := C.1.2.2.2.2
  have hr := vx_runSW (H := H) (locs := locs) (cells := cells) (slots := slots) (g := F0 m pc ls (As.reverse ++ rest)) (e := e) (below := below) (meth := meth) (R := R) C.1 (z_met hM (fun _ _ _ q => q)) (vx_cwSW n hts (WL_cons w1 (WL_cons w2 (WL_cons w4 (WL_cons w5 WL_in)))) rfl rfl rfl hd hR) ⟨z_blind, fun U hU hW => ⟨rfl, z_pre C e1 e2 e3 U hU hW⟩⟩ rfl hn e4.1 rfl (lv_room hcat) d hf
  obtain ⟨v', st₀, t, T', L, h0, X', hL, k1, k2, ⟨v9, h9, q1, q2, q4, hF⟩, go⟩ := hr T hT X
  cases q2
  obtain ⟨-, -, k3⟩ := vx_keep h0 k1 e3 (fun _ _ h => h) (fun _ h => h) hL hF
  have hal : s.vm.Alike t.vm := by rw [← k2]; exact X'.warmed.alike
  obtain ⟨t2, a1, b1⟩ := K v9 h9 _ q1 T'.heap (locs ++ L) ls (by rw [k1]) (by rw [k1]; exact q4.moved hal.symm) k3 e4 T' rfl X'
  exact ⟨t2, go t2 a1, b1⟩
/-- what a callee throws is caught -/
theorem z_catch {E name : String} (C : z_Cx p l s m args meth c cc nL own ret G lo t0) (htab : c.exceptionTable.toList = tableOf hh) (x : ExceptionTableEntry) (suf : List ExceptionTableEntry) (hsplit : tableOf hh = x :: suf) (hx : covers x pc = true) (hx0 : x.catchType ≠ 0) (hlink : Cond.classLink own x.catchType name ∈ wsL_law) (hca : Cond.castable E name ∈ z_ws)
    (hr : z_Ca p l e R s m args below meth c G lo nL cells slots mc ms pc lv stk rest h nx (.inl (E, h1))) (K : ∀ q n1, nx ≤ n1 → z_R p l e R s m args below meth c G lo nL (cells + mc) (slots + ms) Q x.handlerPc lv [.ref q] h1 n1) : z_R p l e R s m args below meth c G lo nL cells slots Q pc lv stk h nx := by
  intro H locs ls e1 e2 e3 e4 T₀ hT X
  have hts := C.1.2.2.2.2
  obtain ⟨a, hr⟩ := hr H locs ls e1 e2 e3 e4
  rcases hr T₀ hT X with ⟨v', st₀, t, T', L, h0, X', hL, k1, k2, ⟨v9, h9, n9, q1, -⟩, go⟩ | ⟨q, st₀, t, T', L, E', ce, h0, X', hL, k1, k2, ⟨h9, q1, q2, hF⟩, hce, hcv, hcl, stp⟩
  · cases q1
  · cases q1
    obtain ⟨k9, -, k3⟩ := vx_keep h0 k1 e3 (fun _ _ h => h) (fun _ h => h) hL hF
    have hal : s.vm.Alike t.vm := by rw [← k2]; exact X'.warmed.alike
    have KW := vx_catch (own := own) (name := name) (rest := rest) (ls := ls) (p := p) (l := l) (e := e) (R := R) (below := below) (meth := meth) (args := args) (H := T'.heap) (locs := locs ++ L) (cells := cells + mc) (slots := slots + ms) (Q := Q) (pc := pc) C.1.2.2.2.1 [] x suf (htab.trans hsplit) (fun z hz => absurd hz List.not_mem_nil) hx hx0 (hts _ hlink) (va_Nw.use (A := args) rfl (C.2.2.2.2.2.2.2.1 _ hca)) (by rw [k1]; exact hce) hcv hcl (K q T'.heap.size (by rw [← e1]; exact k9) T'.heap (locs ++ L) ls rfl (by rw [k1]; exact q2.moved hal.symm) k3 e4)
    obtain ⟨t2, a1, b1⟩ := KW T' rfl X'
    exact ⟨t2, stp.trans a1, b1⟩
end Z9B
section Z9C
variable {p : Program} {l : Launch} {e : Env} {R : Room} {s : State} {m : MethodId} {args : Array Value} {below : List Frame} {meth : Method} {c : Code} {G : zG} {lo t0 nL cells slots : Nat} {Q : State → Prop} {pc : Nat} {lv lv' : List (Nat × Value)} {st : List Value} {h : zH} {nx : Nat} {cc : ByteArray} {own : String} {ret : Option FieldType}
theorem z_lcmp {x y : Int64} (C : z_Cx p l s m args meth c cc nL own ret G lo t0) (d : decode cc pc = .ok (.lcmp, 1)) (K : z_R p l e R s m args below meth c G lo nL cells slots Q (pc + 1) lv (.int (lg_cmp x y) :: st) h nx) : z_R p l e R s m args below meth c G lo nL cells slots Q pc lv (.long y :: .long x :: st) h nx := fun H locs ls e1 e2 e3 e4 => W.lcmp C.1.1 C.1.2.1 d (K H locs ls e1 e2 e3 e4)
end Z9C
theorem ne_X0 : RX0 ≠ RL := by decide +kernel
theorem ne_X1 : RX1 ≠ RL := by decide +kernel
theorem ne_X2 : RX2 ≠ RL := by decide +kernel
theorem ne_X3 : RX3 ≠ RL := by decide +kernel
theorem ne_X4 : RX4 ≠ RL := by decide +kernel
/-- fuel of the loop that names the parts -/
def zfu : Nat := 400000
