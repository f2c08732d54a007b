/-! build -/
section ZT
variable {p : Program} {l : Launch} {e : Env} {R : Room} {s : State} {m : MethodId} {args : Array Value} {below : List Frame} {meth : Method} {c : Code} {G : zG} {lo t0 nL cells slots : Nat} {Q : State → Prop} {pc : Nat} {lv : List (Nat × Value)} {st : List Value} {h : zH} {nx : Nat} {cc : ByteArray} {own : String} {ret : Option FieldType} {b L : Nat} {xs : Nat → Int32}
/-- the script, where a walk begins .. -/
theorem z_getT (C : z_Cx p l s m args meth c cc nL own ret G lo t0) (hb : h b = some (zT L xs)) (hlo : b < lo) (K : va_X b L xs s s.heap → b < s.heap.size → z_R p l e R s m args below meth c G lo nL cells slots Q pc lv st h nx) : z_R p l e R s m args below meth c G lo nL cells slots Q pc lv st h nx := by
  intro H locs ls e1 e2 e3 e4
  obtain ⟨q1, q2, q3⟩ := (e2 b _ hb).2 _ rfl
  have hs : b < s.heap.size := Nat.lt_of_lt_of_le hlo C.2.2.2.2.1
  exact K (va_X.kept q1 (e3.2.1 b hs q3).symm) hs H locs ls e1 e2 e3 e4
/-- .. and all along -/
theorem z_addT (hX : va_X b L xs s s.heap) (hs : b < s.heap.size) (hlo : b < lo) (K : z_R p l e R s m args below meth c G lo nL cells slots Q pc lv st (z_up h b (zT L xs)) nx) : z_R p l e R s m args below meth c G lo nL cells slots Q pc lv st h nx := by
  intro H locs ls e1 e2 e3 e4
  refine K H locs ls e1 (fun q cq hq => ?_) e3 e4
  by_cases g : q = b
  · rw [g, up_at] at hq
    cases hq
    subst g
    refine ⟨fun e he => (by cases he), fun w hw => ?_⟩
    cases hw
    exact ⟨va_X.kept hX (e3.2.1 q hs (Nat.not_le.mpr hlo)), Nat.lt_of_lt_of_le hs e3.1, Nat.not_le.mpr hlo⟩
  · rw [up_ne g] at hq
    exact e2 q cq hq
/-- a contract by a relation, of a method without a table -/
def z_RB (l : Launch) (y : MethodName) (cc : ByteArray) (maxL : Nat) (ret : FieldType) (fr lc : Nat) (G : zG) (lo t0 : Nat) (av : List Value) (h : zH) (nx : Nat) (vf : Int32 → Value) (Rel : Int32 → zH → Nat → Prop) (mc ms : Nat) : Prop :=
  vx_Met l y (Cond.code y cc maxL (some ret) :: wsL_law) (z_rm fr lc mc ms) (va_Pc av (z_U G lo t0 h nx)) (z_qr G lo vf Rel) z_xh mc ms (fun z : Nat => lo ≤ z)
theorem zb_of {l : Launch} {y : MethodName} {cc : ByteArray} {maxL : Nat} {ret : FieldType} {fr lc : Nat} {G : zG} {lo t0 : Nat} {av : List Value} {h : zH} {nx : Nat} {vf : Int32 → Value} {Rel : Int32 → zH → Nat → Prop} {mc ms : Nat} (lv : List (Nat × Value)) (hy : plainName y.cls = true) (hn : (lg_sl av).length ≤ maxL) (hlv : lv_args 0 av = lv)
    (body : ∀ p e s m below meth c, z_Cx p l s m av.toArray meth c cc maxL y.cls (some ret) G lo t0 → z_R p l e (z_rm fr lc mc ms) s m av.toArray below meth c G lo maxL 0 0 (vx_MQ below (z_qr G lo vf Rel) z_xh av.toArray s mc ms (fun z : Nat => lo ≤ z)) 0 lv [] h nx) : z_RB l y cc maxL ret fr lc G lo t0 av h nx vf Rel mc ms := by
  subst hlv
  refine vx_ofW (cc := cc) (maxL := maxL) (ret := some ret) hy rfl ?_
  intro p e s m args below meth c s₁ B hml htab hv
  obtain ⟨rfl, hsz, hlo, hK, hZ, hT, hh⟩ := hv
  have hts := atoms_spec (ws := Cond.code y cc maxL (some ret) :: wsL_law) B.pre
  have hown : s.vm.findClass y.cls = some m.cls := findClass_of_methodNamed B.named
  have hl := lv_entry av (n := maxL) hn
  rw [lg_entry_eq]
  exact body p e s m below meth c ⟨⟨B.exec, B.bytes, hml, hown, fun w hw => hts w (List.mem_cons_of_mem _ hw)⟩, B.returns, B.notSynchronized, .inr htab, by rw [hsz]; exact hlo, hK, hZ, hT⟩ s.heap [] _ hsz hh va_S.rf hl
theorem z_rbret {av : List Value} {rt : FieldType} {x mc ms : Nat} {vf : Int32 → Value} {Rel : Int32 → zH → Nat → Prop} (C : z_Cx p l s m av.toArray meth c cc nL own (some rt) G lo t0) (hrt : (∃ n, rt = .object n) ∨ ∃ t, rt = .array t) (v : Int32) (hv : vf v = .ref x) (hR : Rel v h nx) (hc : cells ≤ mc) (hs : slots ≤ ms) (d : decode cc pc = .ok (.areturn, 1)) : z_R p l e R s m av.toArray below meth c G lo nL cells slots (vx_MQ below (z_qr G lo vf Rel) z_xh av.toArray s mc ms (fun z : Nat => lo ≤ z)) pc lv [.ref x] h nx := by
  intro H locs ls e1 e2 e3 e4
  refine W.widen hc hs (vx_ret ?_)
  exact W.aret C.1.1 C.1.2.1 C.2.1 hrt (Or.inr ⟨_, rfl⟩) (fun t ht hW => ⟨v, h, by rw [ht, e1]; exact hR, by rw [hv], by rw [ht]; exact e2.moved hW.alike, e3.F ht⟩) e3.2.2 d C.2.2.1
/-- a static call of such a method -/
theorem z_callB {rt : FieldType} {rest : List Value} {maxL fr lc mc ms n ix : Nat} {y : MethodName} {bytes : ByteArray} {As : List Value} {vf : Int32 → Value} {Rel : Int32 → zH → Nat → Prop} (C : z_Cx p l s m args meth c cc nL own ret G lo t0) (hM : z_RB l y bytes maxL rt fr lc G lo t0 As h nx vf Rel mc ms) (w1 : Cond.methodLink own ix y ∈ wsL_law) (w2 : Cond.static y ∈ wsL_law) (w4 : Cond.initialized y.cls ∈ wsL_law) (w5 : Cond.code y bytes maxL (some rt) ∈ wsL_law)
    (hd : y.cls ≠ "java/lang/invoke/MethodHandle" ∧ y.cls ≠ "java/lang/invoke/VarHandle" ∧ (parseMethodDescriptor y.desc).map (fun d => d.parameters.length) = some n) (hR : fr + 1 ≤ R.frames ∧ 8 + (maxL + 11) + lc ≤ R.locals) (hn : As.length = n) (hcat : (rest.map fun v => v.category).sum ≤ 8) (d : decode cc pc = .ok (.invokestatic ix, 3)) (hf : cells + mc ≤ R.cells ∧ slots + ms ≤ R.slots) (st' : List Value) (hst : As.reverse ++ rest = st')
    (K : ∀ v h1 n1, Rel v h1 n1 → z_R p l e R s m args below meth c G lo nL (cells + mc) (slots + ms) Q (pc + 3) lv (vf v :: rest) h1 n1) : z_R p l e R s m args below meth c G lo nL cells slots Q pc lv st' h nx := by
  intro H locs ls e1 e2 e3 e4 T hT X
  subst hst
  have hts := C.1.2.2.2.2
  have hr := vx_runS (H := H) (locs := locs) (cells := cells) (slots := slots) (g := F0 m pc ls (As.reverse ++ rest)) (e := e) (below := below) (meth := meth) (R := R) C.1 hM (va_cwS n hts (WL_cons w1 (WL_cons w2 (WL_cons w4 (WL_cons w5 WL_in)))) rfl rfl rfl hd hR) ⟨z_blind, fun U hU hW => ⟨rfl, z_pre C e1 e2 e3 U hU hW⟩⟩ rfl hn e4.1 rfl (lv_room hcat) d hf
  rcases hr T hT X with ⟨v', st₀, t, T', L, h0, X', hL, k1, k2, ⟨v9, h9, q1, q2, q4, hF⟩, go⟩ | ⟨q, st₀, t, T', L, E', ce, h0, X', hL, k1, k2, hx, -⟩
  · cases q2
    obtain ⟨-, -, k3⟩ := vx_keep h0 k1 e3 (fun _ _ h => h) (fun _ h => h) hL hF
    have hal : s.vm.Alike t.vm := by rw [← k2]; exact X'.warmed.alike
    obtain ⟨t2, a1, b1⟩ := K v9 h9 _ q1 T'.heap (locs ++ L) ls (by rw [k1]) (by rw [k1]; exact q4.moved hal.symm) k3 e4 T' rfl X'
    exact ⟨t2, go t2 a1, b1⟩
  · exact hx.elim
end ZT
theorem p_cell {h : zH} {b L : Nat} {xs : Nat → Int32} (hb : h b = some (zT L xs)) (hL : L ≤ 100000) {i : Nat} (hi : i ≤ 1000) : ∃ v, M_L_cell h b (zi (i : Int)) = some v := by
  have e : z_sc h b = some (L, xs) := by unfold z_sc; rw [hb]
  unfold M_L_cell z_sl z_si
  rw [e, ob_some, ob_some]
  by_cases g : Int32.ofNat L ≤ zi (i : Int)
  · exact ⟨_, if_pos g⟩
  · rw [if_neg g, ob_some]
    rw [zi_ofNat, show (zi (L : Int) ≤ zi (i : Int)) = ((L : Int) ≤ i) from zi_le (by omega) (by omega) (by omega) (by omega)] at g
    have n0 : (zi (i : Int) < 0) = ((i : Int) < 0) := zi_lt (b := 0) (by omega) (by omega) (by omega) (by omega)
    rw [if_neg]
    · exact ⟨_, rfl⟩
    · rw [n0, zi_nn (by omega) (by omega), Int.toNat_natCast]
      show ¬ ((i : Int) < 0 ∨ L ≤ i)
      omega
