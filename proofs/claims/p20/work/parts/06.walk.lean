theorem WL_good : wsL_law.all goodWord = true := by decide +kernel
theorem WL_in : GoodIn wsL_law wsL_law := goodIn_sub (fun _ h => h) WL_good
theorem WL_cons {w : Cond} {l : List Cond} (h1 : w ∈ wsL_law) (h2 : GoodIn wsL_law l) : GoodIn wsL_law (w :: l) := by
  intro x hx
  rcases List.mem_cons.mp hx with rfl | hx
  · exact WL_in x h1
  · exact h2 x hx
theorem WL_of0 {w : Cond} (h : w ∈ wsL_law0) : w ∈ wsL_law := List.mem_append_left _ (List.mem_append_left _ (List.mem_append_left _ (List.mem_append_left _ h)))
section ZR
variable {p : Program} {l : Launch} {e : Env} {R : Room} {s : State} {m : MethodId} {args : Array Value} {below : List Frame} {meth : Method} {c : Code} {G : zG} {lo t0 nL cells slots : Nat} {Q : State → Prop} {pc : Nat} {lv lv' : List (Nat × Value)} {st rest : List Value} {h h1 : zH} {nx : Nat} {cc : ByteArray} {own : String} {ret : Option FieldType}
variable {x y v : Int32} {X Y V : Int64} {a b : Nat} {n off : Int} {tgt i k : Nat}
theorem z_iconst (C : z_Cx p l s m args meth c cc nL own ret G lo t0) (d : decode cc pc = .ok (.iconst n, 1)) (hv : Int32.ofInt n = v) (K : z_R p l e R s m args below meth c G lo nL cells slots Q (pc + 1) lv (.int v :: st) h nx) : z_R p l e R s m args below meth c G lo nL cells slots Q pc lv st h nx := fun H locs ls e1 e2 e3 e4 => lv_iconst C.1.1 C.1.2.1 d hv (K H locs ls e1 e2 e3 e4)
theorem z_bipush (C : z_Cx p l s m args meth c cc nL own ret G lo t0) (d : decode cc pc = .ok (.bipush n, 2)) (hv : (Int8.ofInt n).toInt32 = v) (K : z_R p l e R s m args below meth c G lo nL cells slots Q (pc + 2) lv (.int v :: st) h nx) : z_R p l e R s m args below meth c G lo nL cells slots Q pc lv st h nx := fun H locs ls e1 e2 e3 e4 => lv_bipush C.1.1 C.1.2.1 d hv (K H locs ls e1 e2 e3 e4)
theorem z_sipush (C : z_Cx p l s m args meth c cc nL own ret G lo t0) (d : decode cc pc = .ok (.sipush n, 3)) (hv : (Int16.ofInt n).toInt32 = v) (K : z_R p l e R s m args below meth c G lo nL cells slots Q (pc + 3) lv (.int v :: st) h nx) : z_R p l e R s m args below meth c G lo nL cells slots Q pc lv st h nx := fun H locs ls e1 e2 e3 e4 => lv_sipush C.1.1 C.1.2.1 d hv (K H locs ls e1 e2 e3 e4)
theorem z_lconst {q : Fin 2} (C : z_Cx p l s m args meth c cc nL own ret G lo t0) (d : decode cc pc = .ok (.lconst q, 1)) (hv : Int64.ofNat (q : Nat) = V) (K : z_R p l e R s m args below meth c G lo nL cells slots Q (pc + 1) lv (.long V :: st) h nx) : z_R p l e R s m args below meth c G lo nL cells slots Q pc lv st h nx := fun H locs ls e1 e2 e3 e4 => lv_lconst C.1.1 C.1.2.1 d hv (K H locs ls e1 e2 e3 e4)
theorem z_ldc2 {ix : Nat} (C : z_Cx p l s m args meth c cc nL own ret G lo t0) (d : decode cc pc = .ok (.ldc2_w ix, 3)) (hw : Cond.constantLong own ix V ∈ wsL_law) (K : z_R p l e R s m args below meth c G lo nL cells slots Q (pc + 3) lv (.long V :: st) h nx) : z_R p l e R s m args below meth c G lo nL cells slots Q pc lv st h nx := fun H locs ls e1 e2 e3 e4 => lv_ldc2 C.1.1 C.1.2.1 C.1.2.2.2.1 (C.1.2.2.2.2 _ hw) d (K H locs ls e1 e2 e3 e4)
theorem z_null (C : z_Cx p l s m args meth c cc nL own ret G lo t0) (d : decode cc pc = .ok (.aconst_null, 1)) (K : z_R p l e R s m args below meth c G lo nL cells slots Q (pc + 1) lv (.null :: st) h nx) : z_R p l e R s m args below meth c G lo nL cells slots Q pc lv st h nx := fun H locs ls e1 e2 e3 e4 => lv_null C.1.1 C.1.2.1 d (K H locs ls e1 e2 e3 e4)
theorem z_iload_n {q : Fin 4} (C : z_Cx p l s m args meth c cc nL own ret G lo t0) (d : decode cc pc = .ok (.iload_n q, 1)) (hk : lv[k]? = some ((q : Nat), .int x)) (K : z_R p l e R s m args below meth c G lo nL cells slots Q (pc + 1) lv (.int x :: st) h nx) : z_R p l e R s m args below meth c G lo nL cells slots Q pc lv st h nx := fun H locs ls e1 e2 e3 e4 => lv_iload_n C.1.1 C.1.2.1 d rfl (lv_at e4 k hk) (K H locs ls e1 e2 e3 e4)
theorem z_iload (C : z_Cx p l s m args meth c cc nL own ret G lo t0) (d : decode cc pc = .ok (.iload i, 2)) (hk : lv[k]? = some (i, .int x)) (K : z_R p l e R s m args below meth c G lo nL cells slots Q (pc + 2) lv (.int x :: st) h nx) : z_R p l e R s m args below meth c G lo nL cells slots Q pc lv st h nx := fun H locs ls e1 e2 e3 e4 => lv_iload C.1.1 C.1.2.1 d (lv_at e4 k hk) (K H locs ls e1 e2 e3 e4)
theorem z_lload_n {q : Fin 4} (C : z_Cx p l s m args meth c cc nL own ret G lo t0) (d : decode cc pc = .ok (.lload_n q, 1)) (hk : lv[k]? = some ((q : Nat), .long X)) (K : z_R p l e R s m args below meth c G lo nL cells slots Q (pc + 1) lv (.long X :: st) h nx) : z_R p l e R s m args below meth c G lo nL cells slots Q pc lv st h nx := fun H locs ls e1 e2 e3 e4 => lv_lload_n C.1.1 C.1.2.1 d rfl (lv_at e4 k hk) (K H locs ls e1 e2 e3 e4)
theorem z_lload (C : z_Cx p l s m args meth c cc nL own ret G lo t0) (d : decode cc pc = .ok (.lload i, 2)) (hk : lv[k]? = some (i, .long X)) (K : z_R p l e R s m args below meth c G lo nL cells slots Q (pc + 2) lv (.long X :: st) h nx) : z_R p l e R s m args below meth c G lo nL cells slots Q pc lv st h nx := fun H locs ls e1 e2 e3 e4 => lv_lload C.1.1 C.1.2.1 d (lv_at e4 k hk) (K H locs ls e1 e2 e3 e4)
theorem z_aload_n {q : Fin 4} (C : z_Cx p l s m args meth c cc nL own ret G lo t0) (d : decode cc pc = .ok (.aload_n q, 1)) (hk : lv[k]? = some ((q : Nat), .ref a)) (K : z_R p l e R s m args below meth c G lo nL cells slots Q (pc + 1) lv (.ref a :: st) h nx) : z_R p l e R s m args below meth c G lo nL cells slots Q pc lv st h nx := fun H locs ls e1 e2 e3 e4 => lv_aload_n C.1.1 C.1.2.1 d rfl (lv_at e4 k hk) (K H locs ls e1 e2 e3 e4)
theorem z_aload (C : z_Cx p l s m args meth c cc nL own ret G lo t0) (d : decode cc pc = .ok (.aload i, 2)) (hk : lv[k]? = some (i, .ref a)) (K : z_R p l e R s m args below meth c G lo nL cells slots Q (pc + 2) lv (.ref a :: st) h nx) : z_R p l e R s m args below meth c G lo nL cells slots Q pc lv st h nx := fun H locs ls e1 e2 e3 e4 => lv_aload C.1.1 C.1.2.1 d (lv_at e4 k hk) (K H locs ls e1 e2 e3 e4)
abbrev z_s1 (lv : List (Nat × Value)) (i : Nat) (v : Value) : List (Nat × Value) := (i, v) :: lv.filter (fun q => !(q.1 == i) && !(q.1 + 1 == i && q.2.category == 2))
abbrev z_s2 (lv : List (Nat × Value)) (i : Nat) (v : Value) : List (Nat × Value) := (i, v) :: lv.filter (fun q => !(q.1 == i) && (!(q.1 == i + 1) && !(q.1 + 1 == i && q.2.category == 2)))
theorem z_istore_n {q : Fin 4} (C : z_Cx p l s m args meth c cc nL own ret G lo t0) (d : decode cc pc = .ok (.istore_n q, 1)) (hn : (q : Nat) < nL) (hl : z_s1 lv (q : Nat) (.int x) = lv') (K : z_R p l e R s m args below meth c G lo nL cells slots Q (pc + 1) lv' st h nx) : z_R p l e R s m args below meth c G lo nL cells slots Q pc lv (.int x :: st) h nx := fun H locs ls e1 e2 e3 e4 => lv_istore_n C.1.1 C.1.2.1 d rfl e4 hn hl (fun ls' e5 => K H locs ls' e1 e2 e3 e5)
theorem z_istore (C : z_Cx p l s m args meth c cc nL own ret G lo t0) (d : decode cc pc = .ok (.istore i, 2)) (hn : i < nL) (hl : z_s1 lv i (.int x) = lv') (K : z_R p l e R s m args below meth c G lo nL cells slots Q (pc + 2) lv' st h nx) : z_R p l e R s m args below meth c G lo nL cells slots Q pc lv (.int x :: st) h nx := fun H locs ls e1 e2 e3 e4 => lv_istore C.1.1 C.1.2.1 d e4 hn hl (fun ls' e5 => K H locs ls' e1 e2 e3 e5)
theorem z_astore_n {q : Fin 4} (C : z_Cx p l s m args meth c cc nL own ret G lo t0) (d : decode cc pc = .ok (.astore_n q, 1)) (hn : (q : Nat) < nL) (hl : z_s1 lv (q : Nat) (.ref a) = lv') (K : z_R p l e R s m args below meth c G lo nL cells slots Q (pc + 1) lv' st h nx) : z_R p l e R s m args below meth c G lo nL cells slots Q pc lv (.ref a :: st) h nx := fun H locs ls e1 e2 e3 e4 => lv_astore_n C.1.1 C.1.2.1 d rfl e4 hn hl (fun ls' e5 => K H locs ls' e1 e2 e3 e5)
theorem z_astore (C : z_Cx p l s m args meth c cc nL own ret G lo t0) (d : decode cc pc = .ok (.astore i, 2)) (hn : i < nL) (hl : z_s1 lv i (.ref a) = lv') (K : z_R p l e R s m args below meth c G lo nL cells slots Q (pc + 2) lv' st h nx) : z_R p l e R s m args below meth c G lo nL cells slots Q pc lv (.ref a :: st) h nx := fun H locs ls e1 e2 e3 e4 => lv_astore C.1.1 C.1.2.1 d e4 hn hl (fun ls' e5 => K H locs ls' e1 e2 e3 e5)
theorem z_lstore_n {q : Fin 4} (C : z_Cx p l s m args meth c cc nL own ret G lo t0) (d : decode cc pc = .ok (.lstore_n q, 1)) (hn : (q : Nat) + 1 < nL) (hl : z_s2 lv (q : Nat) (.long X) = lv') (K : z_R p l e R s m args below meth c G lo nL cells slots Q (pc + 1) lv' st h nx) : z_R p l e R s m args below meth c G lo nL cells slots Q pc lv (.long X :: st) h nx := fun H locs ls e1 e2 e3 e4 => lv_lstore_n C.1.1 C.1.2.1 d rfl e4 hn hl (fun ls' e5 => K H locs ls' e1 e2 e3 e5)
theorem z_lstore (C : z_Cx p l s m args meth c cc nL own ret G lo t0) (d : decode cc pc = .ok (.lstore i, 2)) (hn : i + 1 < nL) (hl : z_s2 lv i (.long X) = lv') (K : z_R p l e R s m args below meth c G lo nL cells slots Q (pc + 2) lv' st h nx) : z_R p l e R s m args below meth c G lo nL cells slots Q pc lv (.long X :: st) h nx := fun H locs ls e1 e2 e3 e4 => lv_lstore C.1.1 C.1.2.1 d e4 hn hl (fun ls' e5 => K H locs ls' e1 e2 e3 e5)
theorem z_iinc (C : z_Cx p l s m args meth c cc nL own ret G lo t0) (d : decode cc pc = .ok (.iinc i n, 3)) (hk : lv[k]? = some (i, .int x)) (hv : x + Int32.ofInt n = v) (hn : i < nL) (hl : z_s1 lv i (.int v) = lv') (K : z_R p l e R s m args below meth c G lo nL cells slots Q (pc + 3) lv' st h nx) : z_R p l e R s m args below meth c G lo nL cells slots Q pc lv st h nx := fun H locs ls e1 e2 e3 e4 => lv_iinc C.1.1 C.1.2.1 d e4 hk hv hn hl (fun ls' e5 => K H locs ls' e1 e2 e3 e5)
theorem z_iadd (C : z_Cx p l s m args meth c cc nL own ret G lo t0) (d : decode cc pc = .ok (.iadd, 1)) (K : z_R p l e R s m args below meth c G lo nL cells slots Q (pc + 1) lv (.int (x + y) :: st) h nx) : z_R p l e R s m args below meth c G lo nL cells slots Q pc lv (.int y :: .int x :: st) h nx := fun H locs ls e1 e2 e3 e4 => lv_iadd C.1.1 C.1.2.1 d (K H locs ls e1 e2 e3 e4)
theorem z_isub (C : z_Cx p l s m args meth c cc nL own ret G lo t0) (d : decode cc pc = .ok (.isub, 1)) (K : z_R p l e R s m args below meth c G lo nL cells slots Q (pc + 1) lv (.int (x - y) :: st) h nx) : z_R p l e R s m args below meth c G lo nL cells slots Q pc lv (.int y :: .int x :: st) h nx := fun H locs ls e1 e2 e3 e4 => lv_isub C.1.1 C.1.2.1 d (K H locs ls e1 e2 e3 e4)
theorem z_imul (C : z_Cx p l s m args meth c cc nL own ret G lo t0) (d : decode cc pc = .ok (.imul, 1)) (K : z_R p l e R s m args below meth c G lo nL cells slots Q (pc + 1) lv (.int (x * y) :: st) h nx) : z_R p l e R s m args below meth c G lo nL cells slots Q pc lv (.int y :: .int x :: st) h nx := fun H locs ls e1 e2 e3 e4 => lv_imul C.1.1 C.1.2.1 d (K H locs ls e1 e2 e3 e4)
theorem z_iand (C : z_Cx p l s m args meth c cc nL own ret G lo t0) (d : decode cc pc = .ok (.iand, 1)) (K : z_R p l e R s m args below meth c G lo nL cells slots Q (pc + 1) lv (.int (x &&& y) :: st) h nx) : z_R p l e R s m args below meth c G lo nL cells slots Q pc lv (.int y :: .int x :: st) h nx := fun H locs ls e1 e2 e3 e4 => lv_iand C.1.1 C.1.2.1 d (K H locs ls e1 e2 e3 e4)
theorem z_ior (C : z_Cx p l s m args meth c cc nL own ret G lo t0) (d : decode cc pc = .ok (.ior, 1)) (K : z_R p l e R s m args below meth c G lo nL cells slots Q (pc + 1) lv (.int (x ||| y) :: st) h nx) : z_R p l e R s m args below meth c G lo nL cells slots Q pc lv (.int y :: .int x :: st) h nx := fun H locs ls e1 e2 e3 e4 => lv_ior C.1.1 C.1.2.1 d (K H locs ls e1 e2 e3 e4)
theorem z_ixor (C : z_Cx p l s m args meth c cc nL own ret G lo t0) (d : decode cc pc = .ok (.ixor, 1)) (K : z_R p l e R s m args below meth c G lo nL cells slots Q (pc + 1) lv (.int (x ^^^ y) :: st) h nx) : z_R p l e R s m args below meth c G lo nL cells slots Q pc lv (.int y :: .int x :: st) h nx := fun H locs ls e1 e2 e3 e4 => lv_ixor C.1.1 C.1.2.1 d (K H locs ls e1 e2 e3 e4)
theorem z_ishl (C : z_Cx p l s m args meth c cc nL own ret G lo t0) (d : decode cc pc = .ok (.ishl, 1)) (K : z_R p l e R s m args below meth c G lo nL cells slots Q (pc + 1) lv (.int (x <<< (y &&& 31)) :: st) h nx) : z_R p l e R s m args below meth c G lo nL cells slots Q pc lv (.int y :: .int x :: st) h nx := fun H locs ls e1 e2 e3 e4 => lv_ishl C.1.1 C.1.2.1 d (K H locs ls e1 e2 e3 e4)
theorem z_ishr (C : z_Cx p l s m args meth c cc nL own ret G lo t0) (d : decode cc pc = .ok (.ishr, 1)) (K : z_R p l e R s m args below meth c G lo nL cells slots Q (pc + 1) lv (.int (x >>> (y &&& 31)) :: st) h nx) : z_R p l e R s m args below meth c G lo nL cells slots Q pc lv (.int y :: .int x :: st) h nx := fun H locs ls e1 e2 e3 e4 => lv_ishr C.1.1 C.1.2.1 d (K H locs ls e1 e2 e3 e4)
theorem z_ineg (C : z_Cx p l s m args meth c cc nL own ret G lo t0) (d : decode cc pc = .ok (.ineg, 1)) (K : z_R p l e R s m args below meth c G lo nL cells slots Q (pc + 1) lv (.int (-x) :: st) h nx) : z_R p l e R s m args below meth c G lo nL cells slots Q pc lv (.int x :: st) h nx := fun H locs ls e1 e2 e3 e4 => lv_ineg C.1.1 C.1.2.1 d (K H locs ls e1 e2 e3 e4)
theorem z_idiv (C : z_Cx p l s m args meth c cc nL own ret G lo t0) (d : decode cc pc = .ok (.idiv, 1)) (hn : ¬ y = 0) (K : z_R p l e R s m args below meth c G lo nL cells slots Q (pc + 1) lv (.int (x / y) :: st) h nx) : z_R p l e R s m args below meth c G lo nL cells slots Q pc lv (.int y :: .int x :: st) h nx := fun H locs ls e1 e2 e3 e4 => lv_idiv C.1.1 C.1.2.1 d hn (K H locs ls e1 e2 e3 e4)
theorem z_irem (C : z_Cx p l s m args meth c cc nL own ret G lo t0) (d : decode cc pc = .ok (.irem, 1)) (hn : ¬ y = 0) (K : z_R p l e R s m args below meth c G lo nL cells slots Q (pc + 1) lv (.int (x - x / y * y) :: st) h nx) : z_R p l e R s m args below meth c G lo nL cells slots Q pc lv (.int y :: .int x :: st) h nx := fun H locs ls e1 e2 e3 e4 => lv_irem C.1.1 C.1.2.1 d hn (K H locs ls e1 e2 e3 e4)
theorem z_ladd (C : z_Cx p l s m args meth c cc nL own ret G lo t0) (d : decode cc pc = .ok (.ladd, 1)) (K : z_R p l e R s m args below meth c G lo nL cells slots Q (pc + 1) lv (.long (X + Y) :: st) h nx) : z_R p l e R s m args below meth c G lo nL cells slots Q pc lv (.long Y :: .long X :: st) h nx := fun H locs ls e1 e2 e3 e4 => lv_ladd C.1.1 C.1.2.1 d (K H locs ls e1 e2 e3 e4)
theorem z_lmul (C : z_Cx p l s m args meth c cc nL own ret G lo t0) (d : decode cc pc = .ok (.lmul, 1)) (K : z_R p l e R s m args below meth c G lo nL cells slots Q (pc + 1) lv (.long (X * Y) :: st) h nx) : z_R p l e R s m args below meth c G lo nL cells slots Q pc lv (.long Y :: .long X :: st) h nx := fun H locs ls e1 e2 e3 e4 => lv_lmul C.1.1 C.1.2.1 d (K H locs ls e1 e2 e3 e4)
theorem z_i2l (C : z_Cx p l s m args meth c cc nL own ret G lo t0) (d : decode cc pc = .ok (.i2l, 1)) (K : z_R p l e R s m args below meth c G lo nL cells slots Q (pc + 1) lv (.long x.toInt64 :: st) h nx) : z_R p l e R s m args below meth c G lo nL cells slots Q pc lv (.int x :: st) h nx := fun H locs ls e1 e2 e3 e4 => lv_i2l C.1.1 C.1.2.1 d rfl (K H locs ls e1 e2 e3 e4)
theorem z_dup {w : Value} (C : z_Cx p l s m args meth c cc nL own ret G lo t0) (d : decode cc pc = .ok (.dup, 1)) (hc : w.category = 1) (K : z_R p l e R s m args below meth c G lo nL cells slots Q (pc + 1) lv (w :: w :: st) h nx) : z_R p l e R s m args below meth c G lo nL cells slots Q pc lv (w :: st) h nx := fun H locs ls e1 e2 e3 e4 => lv_dup C.1.1 C.1.2.1 d hc (K H locs ls e1 e2 e3 e4)
theorem z_pop {w : Value} (C : z_Cx p l s m args meth c cc nL own ret G lo t0) (d : decode cc pc = .ok (.pop, 1)) (hc : w.category = 1) (K : z_R p l e R s m args below meth c G lo nL cells slots Q (pc + 1) lv st h nx) : z_R p l e R s m args below meth c G lo nL cells slots Q pc lv (w :: st) h nx := fun H locs ls e1 e2 e3 e4 => lv_pop C.1.1 C.1.2.1 d hc (K H locs ls e1 e2 e3 e4)
theorem z_dup_x1 {w z : Value} (C : z_Cx p l s m args meth c cc nL own ret G lo t0) (d : decode cc pc = .ok (.dup_x1, 1)) (hc : w.category = 1) (hc2 : z.category = 1) (K : z_R p l e R s m args below meth c G lo nL cells slots Q (pc + 1) lv (w :: z :: w :: st) h nx) : z_R p l e R s m args below meth c G lo nL cells slots Q pc lv (w :: z :: st) h nx := fun H locs ls e1 e2 e3 e4 => lv_dup_x1 C.1.1 C.1.2.1 d hc hc2 (K H locs ls e1 e2 e3 e4)
theorem z_dup2 {w z : Value} (C : z_Cx p l s m args meth c cc nL own ret G lo t0) (d : decode cc pc = .ok (.dup2, 1)) (hc : w.category = 1) (hc2 : z.category = 1) (K : z_R p l e R s m args below meth c G lo nL cells slots Q (pc + 1) lv (w :: z :: w :: z :: st) h nx) : z_R p l e R s m args below meth c G lo nL cells slots Q pc lv (w :: z :: st) h nx := fun H locs ls e1 e2 e3 e4 => lv_dup2_11 C.1.1 C.1.2.1 d hc hc2 (K H locs ls e1 e2 e3 e4)
theorem z_goto (C : z_Cx p l s m args meth c cc nL own ret G lo t0) (d : decode cc pc = .ok (.goto off, 3)) (ht : (pc : Int) + off = (tgt : Int)) (K : z_R p l e R s m args below meth c G lo nL cells slots Q tgt lv st h nx) : z_R p l e R s m args below meth c G lo nL cells slots Q pc lv st h nx := fun H locs ls e1 e2 e3 e4 => lv_goto C.1.1 C.1.2.1 d ht (K H locs ls e1 e2 e3 e4)
theorem z_sub (ks : List Nat) (hk : lv_pick lv ks = lv') (K : z_R p l e R s m args below meth c G lo nL cells slots Q pc lv' st h nx) : z_R p l e R s m args below meth c G lo nL cells slots Q pc lv st h nx := fun H locs ls e1 e2 e3 e4 => K H locs ls e1 e2 e3 (lv_sub e4 ks hk)
theorem z_wide {kc ks : Nat} (h1 : cells ≤ kc) (h2 : slots ≤ ks) (K : z_R p l e R s m args below meth c G lo nL kc ks Q pc lv st h nx) : z_R p l e R s m args below meth c G lo nL cells slots Q pc lv st h nx := fun H locs ls e1 e2 e3 e4 => W.widen h1 h2 (K H locs ls e1 e2 e3 e4)
end ZR
section ZB
variable {p : Program} {l : Launch} {e : Env} {R : Room} {s : State} {m : MethodId} {args : Array Value} {below : List Frame} {meth : Method} {c : Code} {G : zG} {lo t0 nL cells slots : Nat} {Q : State → Prop} {pc : Nat} {lv lv' : List (Nat × Value)} {st rest : List Value} {h h1 : zH} {nx : Nat} {cc : ByteArray} {own : String} {ret : Option FieldType}
variable {x y : Int32} {off : Int} {tgt : Nat} {Om : Type} {M1 M2 : Option Om} {o : Om}
theorem z_if_eq (C : z_Cx p l s m args meth c cc nL own ret G lo t0) (d : decode cc pc = .ok (.ifCond .eq off, 3)) (ht : (pc : Int) + off = (tgt : Int)) (hM : (if x = 0 then M1 else M2) = some o) (K1 : x = 0 → M1 = some o → z_R p l e R s m args below meth c G lo nL cells slots Q tgt lv st h nx) (K2 : ¬ x = 0 → M2 = some o → z_R p l e R s m args below meth c G lo nL cells slots Q (pc + 3) lv st h nx) : z_R p l e R s m args below meth c G lo nL cells slots Q pc lv (.int x :: st) h nx := fun H locs ls e1 e2 e3 e4 => lv_if_eq C.1.1 C.1.2.1 d ht (fun q => K1 q (by rw [if_pos q] at hM; exact hM) H locs ls e1 e2 e3 e4) (fun q => K2 q (by rw [if_neg q] at hM; exact hM) H locs ls e1 e2 e3 e4)
theorem z_icmp_eq (C : z_Cx p l s m args meth c cc nL own ret G lo t0) (d : decode cc pc = .ok (.if_icmp .eq off, 3)) (ht : (pc : Int) + off = (tgt : Int)) (hM : (if x = y then M1 else M2) = some o) (K1 : x = y → M1 = some o → z_R p l e R s m args below meth c G lo nL cells slots Q tgt lv st h nx) (K2 : ¬ x = y → M2 = some o → z_R p l e R s m args below meth c G lo nL cells slots Q (pc + 3) lv st h nx) : z_R p l e R s m args below meth c G lo nL cells slots Q pc lv (.int y :: .int x :: st) h nx := fun H locs ls e1 e2 e3 e4 => lv_icmp_eq C.1.1 C.1.2.1 d ht (fun q => K1 q (by rw [if_pos q] at hM; exact hM) H locs ls e1 e2 e3 e4) (fun q => K2 q (by rw [if_neg q] at hM; exact hM) H locs ls e1 e2 e3 e4)
theorem z_if_ne (C : z_Cx p l s m args meth c cc nL own ret G lo t0) (d : decode cc pc = .ok (.ifCond .ne off, 3)) (ht : (pc : Int) + off = (tgt : Int)) (hM : (if x = 0 then M1 else M2) = some o) (K1 : x = 0 → M1 = some o → z_R p l e R s m args below meth c G lo nL cells slots Q (pc + 3) lv st h nx) (K2 : ¬ x = 0 → M2 = some o → z_R p l e R s m args below meth c G lo nL cells slots Q tgt lv st h nx) : z_R p l e R s m args below meth c G lo nL cells slots Q pc lv (.int x :: st) h nx := fun H locs ls e1 e2 e3 e4 => lv_if_ne C.1.1 C.1.2.1 d ht (fun q => K2 q (by rw [if_neg q] at hM; exact hM) H locs ls e1 e2 e3 e4) (fun q => K1 q (by rw [if_pos q] at hM; exact hM) H locs ls e1 e2 e3 e4)
theorem z_icmp_ne (C : z_Cx p l s m args meth c cc nL own ret G lo t0) (d : decode cc pc = .ok (.if_icmp .ne off, 3)) (ht : (pc : Int) + off = (tgt : Int)) (hM : (if x = y then M1 else M2) = some o) (K1 : x = y → M1 = some o → z_R p l e R s m args below meth c G lo nL cells slots Q (pc + 3) lv st h nx) (K2 : ¬ x = y → M2 = some o → z_R p l e R s m args below meth c G lo nL cells slots Q tgt lv st h nx) : z_R p l e R s m args below meth c G lo nL cells slots Q pc lv (.int y :: .int x :: st) h nx := fun H locs ls e1 e2 e3 e4 => lv_icmp_ne C.1.1 C.1.2.1 d ht (fun q => K2 q (by rw [if_neg q] at hM; exact hM) H locs ls e1 e2 e3 e4) (fun q => K1 q (by rw [if_pos q] at hM; exact hM) H locs ls e1 e2 e3 e4)
theorem z_if_lt (C : z_Cx p l s m args meth c cc nL own ret G lo t0) (d : decode cc pc = .ok (.ifCond .lt off, 3)) (ht : (pc : Int) + off = (tgt : Int)) (hM : (if x < 0 then M1 else M2) = some o) (K1 : x < 0 → M1 = some o → z_R p l e R s m args below meth c G lo nL cells slots Q tgt lv st h nx) (K2 : ¬ x < 0 → M2 = some o → z_R p l e R s m args below meth c G lo nL cells slots Q (pc + 3) lv st h nx) : z_R p l e R s m args below meth c G lo nL cells slots Q pc lv (.int x :: st) h nx := fun H locs ls e1 e2 e3 e4 => lv_if_lt C.1.1 C.1.2.1 d ht (fun q => K1 q (by rw [if_pos q] at hM; exact hM) H locs ls e1 e2 e3 e4) (fun q => K2 q (by rw [if_neg q] at hM; exact hM) H locs ls e1 e2 e3 e4)
theorem z_icmp_lt (C : z_Cx p l s m args meth c cc nL own ret G lo t0) (d : decode cc pc = .ok (.if_icmp .lt off, 3)) (ht : (pc : Int) + off = (tgt : Int)) (hM : (if x < y then M1 else M2) = some o) (K1 : x < y → M1 = some o → z_R p l e R s m args below meth c G lo nL cells slots Q tgt lv st h nx) (K2 : ¬ x < y → M2 = some o → z_R p l e R s m args below meth c G lo nL cells slots Q (pc + 3) lv st h nx) : z_R p l e R s m args below meth c G lo nL cells slots Q pc lv (.int y :: .int x :: st) h nx := fun H locs ls e1 e2 e3 e4 => lv_icmp_lt C.1.1 C.1.2.1 d ht (fun q => K1 q (by rw [if_pos q] at hM; exact hM) H locs ls e1 e2 e3 e4) (fun q => K2 q (by rw [if_neg q] at hM; exact hM) H locs ls e1 e2 e3 e4)
theorem z_if_ge (C : z_Cx p l s m args meth c cc nL own ret G lo t0) (d : decode cc pc = .ok (.ifCond .ge off, 3)) (ht : (pc : Int) + off = (tgt : Int)) (hM : (if 0 ≤ x then M1 else M2) = some o) (K1 : 0 ≤ x → M1 = some o → z_R p l e R s m args below meth c G lo nL cells slots Q tgt lv st h nx) (K2 : ¬ 0 ≤ x → M2 = some o → z_R p l e R s m args below meth c G lo nL cells slots Q (pc + 3) lv st h nx) : z_R p l e R s m args below meth c G lo nL cells slots Q pc lv (.int x :: st) h nx := fun H locs ls e1 e2 e3 e4 => lv_if_ge C.1.1 C.1.2.1 d ht (fun q => K1 q (by rw [if_pos q] at hM; exact hM) H locs ls e1 e2 e3 e4) (fun q => K2 q (by rw [if_neg q] at hM; exact hM) H locs ls e1 e2 e3 e4)
theorem z_icmp_ge (C : z_Cx p l s m args meth c cc nL own ret G lo t0) (d : decode cc pc = .ok (.if_icmp .ge off, 3)) (ht : (pc : Int) + off = (tgt : Int)) (hM : (if y ≤ x then M1 else M2) = some o) (K1 : y ≤ x → M1 = some o → z_R p l e R s m args below meth c G lo nL cells slots Q tgt lv st h nx) (K2 : ¬ y ≤ x → M2 = some o → z_R p l e R s m args below meth c G lo nL cells slots Q (pc + 3) lv st h nx) : z_R p l e R s m args below meth c G lo nL cells slots Q pc lv (.int y :: .int x :: st) h nx := fun H locs ls e1 e2 e3 e4 => lv_icmp_ge C.1.1 C.1.2.1 d ht (fun q => K1 q (by rw [if_pos q] at hM; exact hM) H locs ls e1 e2 e3 e4) (fun q => K2 q (by rw [if_neg q] at hM; exact hM) H locs ls e1 e2 e3 e4)
theorem z_if_gt (C : z_Cx p l s m args meth c cc nL own ret G lo t0) (d : decode cc pc = .ok (.ifCond .gt off, 3)) (ht : (pc : Int) + off = (tgt : Int)) (hM : (if 0 < x then M1 else M2) = some o) (K1 : 0 < x → M1 = some o → z_R p l e R s m args below meth c G lo nL cells slots Q tgt lv st h nx) (K2 : ¬ 0 < x → M2 = some o → z_R p l e R s m args below meth c G lo nL cells slots Q (pc + 3) lv st h nx) : z_R p l e R s m args below meth c G lo nL cells slots Q pc lv (.int x :: st) h nx := fun H locs ls e1 e2 e3 e4 => lv_if_gt C.1.1 C.1.2.1 d ht (fun q => K1 q (by rw [if_pos q] at hM; exact hM) H locs ls e1 e2 e3 e4) (fun q => K2 q (by rw [if_neg q] at hM; exact hM) H locs ls e1 e2 e3 e4)
theorem z_icmp_gt (C : z_Cx p l s m args meth c cc nL own ret G lo t0) (d : decode cc pc = .ok (.if_icmp .gt off, 3)) (ht : (pc : Int) + off = (tgt : Int)) (hM : (if y < x then M1 else M2) = some o) (K1 : y < x → M1 = some o → z_R p l e R s m args below meth c G lo nL cells slots Q tgt lv st h nx) (K2 : ¬ y < x → M2 = some o → z_R p l e R s m args below meth c G lo nL cells slots Q (pc + 3) lv st h nx) : z_R p l e R s m args below meth c G lo nL cells slots Q pc lv (.int y :: .int x :: st) h nx := fun H locs ls e1 e2 e3 e4 => lv_icmp_gt C.1.1 C.1.2.1 d ht (fun q => K1 q (by rw [if_pos q] at hM; exact hM) H locs ls e1 e2 e3 e4) (fun q => K2 q (by rw [if_neg q] at hM; exact hM) H locs ls e1 e2 e3 e4)
theorem z_if_le (C : z_Cx p l s m args meth c cc nL own ret G lo t0) (d : decode cc pc = .ok (.ifCond .le off, 3)) (ht : (pc : Int) + off = (tgt : Int)) (hM : (if x ≤ 0 then M1 else M2) = some o) (K1 : x ≤ 0 → M1 = some o → z_R p l e R s m args below meth c G lo nL cells slots Q tgt lv st h nx) (K2 : ¬ x ≤ 0 → M2 = some o → z_R p l e R s m args below meth c G lo nL cells slots Q (pc + 3) lv st h nx) : z_R p l e R s m args below meth c G lo nL cells slots Q pc lv (.int x :: st) h nx := fun H locs ls e1 e2 e3 e4 => lv_if_le C.1.1 C.1.2.1 d ht (fun q => K1 q (by rw [if_pos q] at hM; exact hM) H locs ls e1 e2 e3 e4) (fun q => K2 q (by rw [if_neg q] at hM; exact hM) H locs ls e1 e2 e3 e4)
theorem z_icmp_le (C : z_Cx p l s m args meth c cc nL own ret G lo t0) (d : decode cc pc = .ok (.if_icmp .le off, 3)) (ht : (pc : Int) + off = (tgt : Int)) (hM : (if x ≤ y then M1 else M2) = some o) (K1 : x ≤ y → M1 = some o → z_R p l e R s m args below meth c G lo nL cells slots Q tgt lv st h nx) (K2 : ¬ x ≤ y → M2 = some o → z_R p l e R s m args below meth c G lo nL cells slots Q (pc + 3) lv st h nx) : z_R p l e R s m args below meth c G lo nL cells slots Q pc lv (.int y :: .int x :: st) h nx := fun H locs ls e1 e2 e3 e4 => lv_icmp_le C.1.1 C.1.2.1 d ht (fun q => K1 q (by rw [if_pos q] at hM; exact hM) H locs ls e1 e2 e3 e4) (fun q => K2 q (by rw [if_neg q] at hM; exact hM) H locs ls e1 e2 e3 e4)
end ZB
theorem z_P1 {D : va_G} {cl : List vw_C} {H : Heap} {a : Nat} {e : va_E} (h : va_at D cl (a, e) H) : va_P D cl [(a, e)] H := by
  intro k q hk
  cases k with
  | zero => cases hk; exact h
  | succ k => simp at hk
theorem z_upd {G : zG} {lo : Nat} {s : State} {h : zH} {H H1 : Heap} {a : Nat} {c0 c1 : zC} {e0 e1 : va_E} (hh : z_hp G lo s h H) (ha : h a = some c0) (h0 : z_tr G c0 = some e0) (h1 : z_tr G c1 = some e1) (hn : va_at G.1 vwCl (a, e1) H1) (oq : ∀ q : Nat, q ≠ a → H1[q]? = H[q]?) : z_hp G lo s (z_up h a c1) H1 := by
  have hla : lo ≤ a := ((hh a c0 ha).1 e0 h0).1
  intro q c hq
  unfold z_up at hq
  by_cases hqa : q = a
  · rw [if_pos hqa] at hq
    cases hq
    subst hqa
    refine ⟨fun e he => ?_, fun w he => by subst he; cases h1⟩
    cases h1.symm.trans he
    exact ⟨hla, hn⟩
  · rw [if_neg hqa] at hq
    refine ⟨fun e he => ⟨((hh q c hq).1 e he).1, ((hh q c hq).1 e he).2.kept (oq q hqa)⟩, fun w he => ?_⟩
    exact z_ou.kept ((hh q c hq).2 w he) (fun b _ hnb => oq b (fun z => hnb (by rw [z]; exact hla)))
theorem z_newhp {G : zG} {lo nx : Nat} {s : State} {h : zH} {H H1 : Heap} {c1 : zC} {e1 : va_E} (hh : z_hp G lo s h H) (hz : H.size = nx) (hlo : lo ≤ nx) (h1 : z_tr G c1 = some e1) (hn : va_at G.1 vwCl (nx, e1) H1) (oq : ∀ q : Nat, q < nx → H1[q]? = H[q]?) : z_hp G lo s (z_up h nx c1) H1 := by
  intro q c hq
  unfold z_up at hq
  by_cases hqa : q = nx
  · rw [if_pos hqa] at hq
    cases hq
    refine ⟨fun e he => ?_, fun w he => by subst he; cases h1⟩
    cases h1.symm.trans he
    rw [hqa]
    exact ⟨hlo, hn⟩
  · rw [if_neg hqa] at hq
    refine ⟨fun e he => ⟨((hh q c hq).1 e he).1, ((hh q c hq).1 e he).2.kept (oq q (by rw [← hz]; exact ((hh q c hq).1 e he).2.lt))⟩, fun w he => ?_⟩
    exact z_ou.kept ((hh q c hq).2 w he) (fun b hb _ => oq b (by rw [← hz]; exact hb))
section ZM
variable {p : Program} {l : Launch} {e : Env} {R : Room} {s : State} {m : MethodId} {args : Array Value} {below : List Frame} {meth : Method} {c : Code} {G : zG} {lo t0 nL cells slots : Nat} {Q : State → Prop} {pc : Nat} {lv lv' : List (Nat × Value)} {st rest : List Value} {h h1 : zH} {nx : Nat} {cc : ByteArray} {own : String} {ret : Option FieldType}
variable {Cn ref : String} {T : u_T} {N ci ix k a b : Nat} {x i : Int32} {v : Value}
theorem z_getI (C : z_Cx p l s m args meth c cc nL own ret G lo t0) (hv : z_gI h a ci k = some x) (hc : vwCl[ci]? = some (Cn, T, N)) (hin : ∀ w ∈ u_ws Cn T N, w ∈ wsL_law) (hk : k < N) (hlink : Cond.fieldLink own ix ref (T k).2.1 (T k).2.2.1 ∈ wsL_law) (hsame : ∀ x, s.fieldFound? (T k).1 (T k).2.1 (T k).2.2.1 = some x → s.fieldFound? ref (T k).2.1 (T k).2.2.1 = some x) (d : decode cc pc = .ok (.getfield ix, 3)) (K : z_R p l e R s m args below meth c G lo nL cells slots Q (pc + 3) lv (.int x :: st) h nx) : z_R p l e R s m args below meth c G lo nL cells slots Q pc lv (.ref a :: st) h nx := by
  intro H locs ls e1 e2 e3 e4
  obtain ⟨fs, ha, hf⟩ := z_gI_spec hv
  exact va_get (D := G.1) C.1.1 C.1.2.1 C.1.2.2.2.2 hin C.1.2.2.2.1 C.2.2.2.2.2.1 (z_P1 ((e2 a _ ha).1 _ rfl).2) 0 rfl hc k hk (C.1.2.2.2.2 _ hlink) hsame hf d (K H locs ls e1 e2 e3 e4)
theorem z_getR (C : z_Cx p l s m args meth c cc nL own ret G lo t0) (hv : z_gR h a ci k = some b) (hc : vwCl[ci]? = some (Cn, T, N)) (hin : ∀ w ∈ u_ws Cn T N, w ∈ wsL_law) (hk : k < N) (hlink : Cond.fieldLink own ix ref (T k).2.1 (T k).2.2.1 ∈ wsL_law) (hsame : ∀ x, s.fieldFound? (T k).1 (T k).2.1 (T k).2.2.1 = some x → s.fieldFound? ref (T k).2.1 (T k).2.2.1 = some x) (d : decode cc pc = .ok (.getfield ix, 3)) (K : z_R p l e R s m args below meth c G lo nL cells slots Q (pc + 3) lv (.ref b :: st) h nx) : z_R p l e R s m args below meth c G lo nL cells slots Q pc lv (.ref a :: st) h nx := by
  intro H locs ls e1 e2 e3 e4
  obtain ⟨fs, ha, hf⟩ := z_gR_spec hv
  exact va_get (D := G.1) C.1.1 C.1.2.1 C.1.2.2.2.2 hin C.1.2.2.2.1 C.2.2.2.2.2.1 (z_P1 ((e2 a _ ha).1 _ rfl).2) 0 rfl hc k hk (C.1.2.2.2.2 _ hlink) hsame hf d (K H locs ls e1 e2 e3 e4)
theorem z_put (C : z_Cx p l s m args meth c cc nL own ret G lo t0) (hv : z_pV h a ci k v = some h1) (hc : vwCl[ci]? = some (Cn, T, N)) (hin : ∀ w ∈ u_ws Cn T N, w ∈ wsL_law) (ty0 : Nat → FieldType) (hty : ∀ k, k < N → parseFieldDescriptor (T k).2.2.1 = some (ty0 k)) (hnm : ∀ a, a < N → ∀ b, b < N → a ≠ b → (T a).2.1 ≠ (T b).2.1) (hk : k < N) (hlink : Cond.fieldLink own ix ref (T k).2.1 (T k).2.2.1 ∈ wsL_law) (hsame : ∀ x, s.fieldFound? (T k).1 (T k).2.1 (T k).2.2.1 = some x → s.fieldFound? ref (T k).2.1 (T k).2.2.1 = some x) (hfin : (T k).2.2.2 = false) {ty : FieldType} (hd : parseFieldDescriptor (T k).2.2.1 = some ty) (hn : narrow ty v = v) (hfit : fits ty v = true) (d : decode cc pc = .ok (.putfield ix, 3)) (K : z_R p l e R s m args below meth c G lo nL cells slots Q (pc + 3) lv st h1 nx) : z_R p l e R s m args below meth c G lo nL cells slots Q pc lv (v :: .ref a :: st) h nx := by
  intro H locs ls e1 e2 e3 e4
  obtain ⟨fs, ha, hl, rfl⟩ := z_pV_spec hv
  have hts := C.1.2.2.2.2
  have hK : va_K G.1 vwCl (z_tys G) s := C.2.2.2.2.2.1
  have hat := (e2 a _ ha).1 _ rfl
  obtain ⟨r, g1, cell, q1, q2, q3, q4⟩ := hat.2
  have hr : r = (Cn, T, N) := Option.some.inj (g1.symm.trans hc)
  subst hr
  have hap := va_apart (own := own) hts hin ty0 hty hnm hK hc
  obtain ⟨hS, hfc, kC, hkC, hkind⟩ := hK.1 ci _ hc
  obtain ⟨cf, kf, fi, f, hi, hsl⟩ := hS k hk
  have hlay := hts _ (hin _ (u_in_lay hk))
  unfold u_lay at hlay
  rw [if_neg (by rw [hfin]; decide)] at hlay
  have hst := (u_facts hfc hkC (u_lays hts hin hk) hi).1
  have h6 := u_store hfc hkC hkind hlay hi hd hn hfit
  refine W.putK C.1.1 C.1.2.1 (f := f) ⟨C.1.2.2.2.1, hts _ hlink, ⟨_, _, _, hsame _ hi⟩, hst⟩ (by rw [q2]; exact h6) q1 q3 (by rw [hsl]; exact k2_hasslot (q4 k hk)) rfl rfl d fun H' w1 w2 w3 => ?_
  rw [hsl] at w1 ⊢
  exact K H' _ ls (w2.trans e1) (z_upd e2 ha rfl rfl ⟨_, hc, t_OB.to (V := updV (vp_V fs) k v) ⟨_, w1, q2, q3, t_set q4 hap hk v⟩ (fun j _ => vp_updV_set hl v j)⟩ w3) (e3.put w2 w3 hat.1) e4
theorem z_putF (C : z_Cx p l s m args meth c cc nL own ret G lo t0) (hv : z_pV h a ci k v = some h1) (hc : vwCl[ci]? = some (Cn, T, N)) (hin : ∀ w ∈ u_ws Cn T N, w ∈ wsL_law) (ty0 : Nat → FieldType) (hty : ∀ k, k < N → parseFieldDescriptor (T k).2.2.1 = some (ty0 k)) (hnm : ∀ a, a < N → ∀ b, b < N → a ≠ b → (T a).2.1 ≠ (T b).2.1) (hk : k < N) (hlink : Cond.fieldLink own ix ref (T k).2.1 (T k).2.2.1 ∈ wsL_law) (hsame : ∀ x, s.fieldFound? (T k).1 (T k).2.1 (T k).2.2.1 = some x → s.fieldFound? ref (T k).2.1 (T k).2.2.1 = some x) (hfin : (T k).2.2.2 = true) (hin2 : meth.name = "<init>") (hdecl : (T k).1 = own) {ty : FieldType} (hd : parseFieldDescriptor (T k).2.2.1 = some ty) (hn : narrow ty v = v) (hfit : fits ty v = true) (d : decode cc pc = .ok (.putfield ix, 3)) (K : z_R p l e R s m args below meth c G lo nL cells slots Q (pc + 3) lv st h1 nx) : z_R p l e R s m args below meth c G lo nL cells slots Q pc lv (v :: .ref a :: st) h nx := by
  intro H locs ls e1 e2 e3 e4
  obtain ⟨fs, ha, hl, rfl⟩ := z_pV_spec hv
  have hts := C.1.2.2.2.2
  have hown := C.1.2.2.2.1
  have hK : va_K G.1 vwCl (z_tys G) s := C.2.2.2.2.2.1
  have hat := (e2 a _ ha).1 _ rfl
  obtain ⟨r, g1, cell, q1, q2, q3, q4⟩ := hat.2
  have hr : r = (Cn, T, N) := Option.some.inj (g1.symm.trans hc)
  subst hr
  have hap := va_apart (own := own) hts hin ty0 hty hnm hK hc
  obtain ⟨hS, hfc, kC, hkC, hkind⟩ := hK.1 ci _ hc
  obtain ⟨cf, kf, fi, f, hi, hsl⟩ := hS k hk
  have hlay := hts _ (hin _ (u_in_lay hk))
  unfold u_lay at hlay
  rw [if_pos hfin] at hlay
  have hst := (u_facts hfc hkC (u_lays hts hin hk) hi).1
  have hcf : m.cls = cf := by
    obtain ⟨_, _, c', _, _, _, -, -, hf', -, -, -, hown2, -⟩ := Cond.laysFinal_spec hlay
    have w1 : c' = cf := by have := hi.symm.trans hf'; simp at this; exact this.1.symm
    rw [hdecl] at hown2
    rw [← w1]; exact Option.some.inj (hown.symm.trans hown2)
  have h6 := u_fits hfc hkC hkind (Or.inr hlay) hi hd hn hfit
  refine W.putFinK C.1.1 C.1.2.1 hown (hts _ hlink) (hsame _ hi) hst hcf hin2 (by rw [q2]; exact h6) q1 q3 (by rw [hsl]; exact k2_hasslot (q4 k hk)) rfl rfl d fun H' w1 w2 w3 => ?_
  rw [hsl] at w1 ⊢
  exact K H' _ ls (w2.trans e1) (z_upd e2 ha rfl rfl ⟨_, hc, t_OB.to (V := updV (vp_V fs) k v) ⟨_, w1, q2, q3, t_set q4 hap hk v⟩ (fun j _ => vp_updV_set hl v j)⟩ w3) (e3.put w2 w3 hat.1) e4
theorem z_iald (C : z_Cx p l s m args meth c cc nL own ret G lo t0) (hv : z_aI h a i = some x) (d : decode cc pc = .ok (.iaload, 1)) (K : z_R p l e R s m args below meth c G lo nL cells slots Q (pc + 1) lv (.int x :: st) h nx) : z_R p l e R s m args below meth c G lo nL cells slots Q pc lv (.int i :: .ref a :: st) h nx := by
  intro H locs ls e1 e2 e3 e4
  obtain ⟨n, f, ha, hin, rfl⟩ := z_aI_spec hv
  exact va_iald (D := G.1) C.1.1 C.1.2.1 C.2.2.2.2.2.1 (z_P1 ((e2 a _ ha).1 _ rfl).2) 0 0 rfl rfl hin d (K H locs ls e1 e2 e3 e4)
theorem z_aald (C : z_Cx p l s m args meth c cc nL own ret G lo t0) (hv : z_aR h a i = some b) (d : decode cc pc = .ok (.aaload, 1)) (K : z_R p l e R s m args below meth c G lo nL cells slots Q (pc + 1) lv (.ref b :: st) h nx) : z_R p l e R s m args below meth c G lo nL cells slots Q pc lv (.int i :: .ref a :: st) h nx := by
  intro H locs ls e1 e2 e3 e4
  obtain ⟨n, f, ha, hin, hf⟩ := z_aR_spec hv
  refine va_aldq (D := G.1) C.1.1 C.1.2.1 C.2.2.2.2.2.1 (z_P1 ((e2 a _ ha).1 _ rfl).2) 0 1 rfl rfl hin d ?_
  rw [hf]
  exact K H locs ls e1 e2 e3 e4
theorem z_iast (C : z_Cx p l s m args meth c cc nL own ret G lo t0) (hv : z_sI h a i x = some h1) (d : decode cc pc = .ok (.iastore, 1)) (K : z_R p l e R s m args below meth c G lo nL cells slots Q (pc + 1) lv st h1 nx) : z_R p l e R s m args below meth c G lo nL cells slots Q pc lv (.int x :: .int i :: .ref a :: st) h nx := by
  intro H locs ls e1 e2 e3 e4
  obtain ⟨n, f, ha, hin, rfl⟩ := z_sI_spec hv
  have hK : va_K G.1 vwCl (z_tys G) s := C.2.2.2.2.2.1
  have hat := (e2 a _ ha).1 _ rfl
  refine W.iast C.1.1 C.1.2.1 (cell := vp_cell (G.2 0) (n, .inl f)) hat.2 ((hK.2 0 _ rfl).1 n (fun j => .int (f j))) (fun q => by cases q) (by show ¬ (i < 0 ∨ (arrV _ _ _).slots.size ≤ _); rw [arrV_size]; exact hin) rfl rfl d fun H1 w z oq => ?_
  refine K H1 _ ls (z.trans e1) (z_upd e2 ha rfl rfl ?_ oq) (e3.put z oq hat.1) e4
  show H1[a]? = some (vp_cell _ _)
  rw [w, vp_cell_i, vp_cell_i, arrV_store]
  congr 2
  funext q
  by_cases hq : q = i.toNatClampNeg
  · subst hq
    simp [updV, upd]
  · simp [updV, upd, hq]
theorem z_aastN (C : z_Cx p l s m args meth c cc nL own ret G lo t0) (hv : z_sR h a i none = some h1) (d : decode cc pc = .ok (.aastore, 1)) (K : z_R p l e R s m args below meth c G lo nL cells slots Q (pc + 1) lv st h1 nx) : z_R p l e R s m args below meth c G lo nL cells slots Q pc lv (.null :: .int i :: .ref a :: st) h nx := by
  intro H locs ls e1 e2 e3 e4
  obtain ⟨n, f, ha, hin, rfl⟩ := z_sR_spec hv
  have hK : va_K G.1 vwCl (z_tys G) s := C.2.2.2.2.2.1
  have hat := (e2 a _ ha).1 _ rfl
  refine va_WaastN (C := "java/lang/Object") C.1.1 C.1.2.1 (cell := vp_cell (G.2 1) (n, .inr (.inr (.inr (.inr f))))) hat.2 ((hK.2 1 _ rfl).1 n (fun j => va_rf (f j))) (fun h => by cases h) (by show ¬ (i < 0 ∨ (arrV _ _ _).slots.size ≤ _); rw [arrV_size]; exact hin) rfl rfl d fun H1 w z oq => ?_
  refine K H1 _ ls (z.trans e1) (z_upd e2 ha rfl rfl ?_ oq) (e3.put z oq hat.1) e4
  show H1[a]? = some (vp_cell _ _)
  rw [w, vp_cell_q, vp_cell_q, arrV_store]
  congr 2
  funext q
  by_cases hq : q = i.toNatClampNeg
  · subst hq
    simp [updV, va_up, va_rf]
  · simp [updV, va_up, hq]
theorem z_aast (C : z_Cx p l s m args meth c cc nL own ret G lo t0) (hv : z_sR h a i (some b) = some h1) {u : Unit} (hb : z_ck h b ci = some u) (hc : vwCl[ci]? = some (Cn, T, N)) (hw : Cond.castable Cn "java/lang/Object" ∈ z_ws) (d : decode cc pc = .ok (.aastore, 1)) (K : z_R p l e R s m args below meth c G lo nL cells slots Q (pc + 1) lv st h1 nx) : z_R p l e R s m args below meth c G lo nL cells slots Q pc lv (.ref b :: .int i :: .ref a :: st) h nx := by
  intro H locs ls e1 e2 e3 e4
  obtain ⟨n, f, ha, hin, rfl⟩ := z_sR_spec hv
  obtain ⟨fs, hb⟩ := z_ck_spec hb
  have hK : va_K G.1 vwCl (z_tys G) s := C.2.2.2.2.2.1
  have hat := (e2 a _ ha).1 _ rfl
  obtain ⟨r', hr', cellV, g1, g2, g3, -⟩ := ((e2 b _ hb).1 _ rfl).2
  have hcls := (hK.1 ci _ hc).2
  obtain ⟨kA, comp, k1, k2, k3, -⟩ := (hK.2 1 _ rfl).2
  obtain ⟨c3, c4, hc3, hc4, hasg⟩ := Cond.castable_spec (va_Nw.use (A := args) rfl (C.2.2.2.2.2.2.2.1 _ hw))
  obtain ⟨kC, hkC, -⟩ := hcls.2
  have e5 : c3 = G.1.1 ci := Option.some.inj (hc3.symm.trans hcls.1)
  have e6 : c4 = comp := Option.some.inj (hc4.symm.trans k3)
  subst e5 e6
  obtain ⟨kc4, hkc4, -⟩ := Vm.findClass_spec hc4
  have hlt : i.toNatClampNeg < n := Nat.not_le.mp fun q => hin (Or.inr q)
  have h0 : ¬ i < 0 := fun q => hin (Or.inl q)
  refine W.aast C.1.1 C.1.2.1 (cell := vp_cell (G.2 1) (n, .inr (.inr (.inr (.inr f))))) hat.2 (fun q h => by cases h) (fun h => by cases h) k1 k2 rfl hkc4 ⟨h0, by show _ < (arrV _ _ _).slots.size; rw [arrV_size]; exact hlt⟩ g1 (fun q h => by rw [g3] at h; cases h) (by rw [g2]; exact hkC) (by rw [g2]; exact hasg) rfl rfl d fun H1 w z oq => ?_
  refine K H1 _ ls (z.trans e1) (z_upd e2 ha rfl rfl ?_ oq) (e3.put z oq hat.1) e4
  show H1[a]? = some (vp_cell _ _)
  rw [w, vp_cell_q, vp_cell_q, arrV_store]
  congr 2
  funext q
  by_cases hq : q = i.toNatClampNeg
  · subst hq
    simp [updV, va_up, va_rf]
  · simp [updV, va_up, hq]
theorem z_alen (C : z_Cx p l s m args meth c cc nL own ret G lo t0) (hv : z_al h a = some x) (d : decode cc pc = .ok (.arraylength, 1)) (K : z_R p l e R s m args below meth c G lo nL cells slots Q (pc + 1) lv (.int x :: st) h nx) : z_R p l e R s m args below meth c G lo nL cells slots Q pc lv (.ref a :: st) h nx := by
  intro H locs ls e1 e2 e3 e4
  have hK : va_K G.1 vwCl (z_tys G) s := C.2.2.2.2.2.1
  unfold z_al at hv
  split at hv
  · rename_i r ha
    by_cases ht : r.1 < 3
    · rw [if_pos ht] at hv
      cases hv
      have hat := ((e2 a _ ha).1 _ rfl).2
      obtain ⟨ty, hty⟩ : ∃ ty, (z_tys G)[r.1]? = some (G.2 r.1, ty) := by
        rcases (show r.1 = 0 ∨ r.1 = 1 ∨ r.1 = 2 by omega) with h | h | h <;> rw [h] <;> exact ⟨_, rfl⟩
      exact va_alen (D := G.1) C.1.1 C.1.2.1 hK (z_P1 hat) 0 r.1 rfl hty rfl d (K H locs ls e1 e2 e3 e4)
    · rw [if_neg ht] at hv; cases hv
  · rename_i ha
    cases hv
    obtain ⟨cell, t1, t2, t3, t4, t5, t6, t7⟩ := (e2 a _ ha).2 none rfl
    exact W.alen C.1.1 C.1.2.1 t1 t2 t5 rfl rfl d (K H locs ls e1 e2 e3 e4)
  · cases hv
theorem z_new (C : z_Cx p l s m args meth c cc nL own ret G lo t0) (fs : List Value) (hc : vwCl[ci]? = some (Cn, T, N)) (hin : ∀ w ∈ u_ws Cn T N, w ∈ wsL_law) (ty0 : Nat → FieldType) (hty : ∀ k, k < N → parseFieldDescriptor (T k).2.2.1 = some (ty0 k)) (w1 : Cond.classLink own ix Cn ∈ wsL_law) (w2 : Cond.instantiable Cn N ∈ wsL_law) (w3 : Cond.initialized Cn ∈ wsL_law) (hfs : ∀ j, j < N → defaultValue (ty0 j) = vp_V fs j) (hcells : cells + 1 ≤ R.cells) (hslots : slots + N ≤ R.slots) (d : decode cc pc = .ok (.new ix, 3)) (K : z_R p l e R s m args below meth c G lo nL (cells + 1) (slots + N) Q (pc + 3) lv (.ref nx :: st) (z_up h nx (zO ci fs)) (nx + 1)) : z_R p l e R s m args below meth c G lo nL cells slots Q pc lv st h nx := by
  intro H locs ls e1 e2 e3 e4
  have hts := C.1.2.2.2.2
  have hK : va_K G.1 vwCl (z_tys G) s := C.2.2.2.2.2.1
  have hKn := hK.1 ci _ hc
  have hlo : lo ≤ nx := by rw [← e1]; exact Nat.le_trans C.2.2.2.2.1 e3.1
  refine W.newcK C.1.1 C.1.2.1 C.1.2.2.2.1 (hts _ w1) (hts _ w2) (hts _ w3) rfl d hcells hslots hKn.2.1 e1 fun H1 kC hkC q1 z1 o1 => ?_
  refine K H1 locs ls z1 (z_newhp e2 e1 hlo rfl ⟨_, hc, (u_born ty0 hts hin hKn hkC q1 hty).to hfs⟩ o1) ⟨by rw [z1, ← e1]; exact Nat.le_succ_of_le e3.1, fun x h1 h2 => (o1 x (by rw [← e1]; exact Nat.lt_of_lt_of_le h1 e3.1)).trans (e3.2.1 x h1 h2), e3.2.2⟩ e4
theorem z_newI (C : z_Cx p l s m args meth c cc nL own ret G lo t0) {n : Int32} {n' : Nat} (w1 : Cond.arrayClass .int ∈ wsL_law) (hn : ¬ n < 0) (hN : n.toNatClampNeg = n') (hb : n' * 4 ≤ 536870912) (hcells : cells + 1 ≤ R.cells) (hslots : slots + n' ≤ R.slots) (d : decode cc pc = .ok (.newarray .int, 2)) (K : z_R p l e R s m args below meth c G lo nL (cells + 1) (slots + n') Q (pc + 2) lv (.ref nx :: st) (z_up h nx (zI n' (fun _ => 0))) (nx + 1)) : z_R p l e R s m args below meth c G lo nL cells slots Q pc lv (.int n :: st) h nx := by
  intro H locs ls e1 e2 e3 e4
  have hK : va_K G.1 vwCl (z_tys G) s := C.2.2.2.2.2.1
  have hlo : lo ≤ nx := by rw [← e1]; exact Nat.le_trans C.2.2.2.2.1 e3.1
  refine va_newaK (atype := .int) C.1.1 C.1.2.1 (C.1.2.2.2.2 _ w1) rfl d rfl hn hN hb hcells hslots e1 fun H1 cA q1 z1 o1 hAr hNm => ?_
  have hcA : cA = G.2 0 := Option.some.inj (hNm.symm.trans (hK.2 0 _ rfl).2)
  subst hcA
  exact K H1 locs ls z1 (z_newhp e2 e1 hlo rfl q1 o1) ⟨by rw [z1, ← e1]; exact Nat.le_succ_of_le e3.1, fun x h1 h2 => (o1 x (by rw [← e1]; exact Nat.lt_of_lt_of_le h1 e3.1)).trans (e3.2.1 x h1 h2), e3.2.2⟩ e4
theorem z_newQ (C : z_Cx p l s m args meth c cc nL own ret G lo t0) {n : Int32} {n' : Nat} (w1 : Cond.classLink own ix "java/lang/Object" ∈ wsL_law) (hn : ¬ n < 0) (hN : n.toNatClampNeg = n') (hb : n' * 4 ≤ 536870912) (hcells : cells + 1 ≤ R.cells) (hslots : slots + n' ≤ R.slots) (d : decode cc pc = .ok (.anewarray ix, 3)) (K : z_R p l e R s m args below meth c G lo nL (cells + 1) (slots + n') Q (pc + 3) lv (.ref nx :: st) (z_up h nx (zQ n' (fun _ => none))) (nx + 1)) : z_R p l e R s m args below meth c G lo nL cells slots Q pc lv (.int n :: st) h nx := by
  intro H locs ls e1 e2 e3 e4
  subst hN
  subst e1
  have hK : va_K G.1 vwCl (z_tys G) s := C.2.2.2.2.2.1
  have hlo : lo ≤ H.size := Nat.le_trans C.2.2.2.2.1 e3.1
  refine W.anew C.1.1 C.1.2.1 C.1.2.2.2.1 (C.1.2.2.2.2 _ w1) (va_AO.use C.2.2.2.2.2.2.2.2.2.2.2.1) rfl d rfl hn hb hcells hslots fun cA kA comp f1 f2 f3 f4 => ?_
  obtain ⟨kA2, comp2, k1, k2, k3, k4⟩ := (hK.2 1 _ rfl).2
  have hcA : cA = G.2 1 := Option.some.inj (f1.symm.trans k4)
  subst hcA
  generalize hH1 : H.push ({ cls := G.2 1, slots := Array.replicate n.toNatClampNeg .null, vm := .none } : Cell) = H1
  have z1 : H1.size = H.size + 1 := by rw [← hH1, Array.size_push]
  have q1 : H1[H.size]? = some (arrV (G.2 1) n.toNatClampNeg (fun _ => .null)) := by rw [← hH1, Array.getElem?_push_size, ← arrV_new]
  have o1 : ∀ q : Nat, q < H.size → H1[q]? = H[q]? := fun q hq => by rw [← hH1, Array.getElem?_push, if_neg (Nat.ne_of_lt hq)]
  exact K H1 locs ls z1 (z_newhp e2 rfl hlo rfl q1 o1) ⟨by rw [z1]; exact Nat.le_succ_of_le e3.1, fun x h1 h2 => (o1 x (Nat.lt_of_lt_of_le h1 e3.1)).trans (e3.2.1 x h1 h2), e3.2.2⟩ e4
theorem z_cast (C : z_Cx p l s m args meth c cc nL own ret G lo t0) {u : Unit} (hb : z_ck h b ci = some u) (hc : vwCl[ci]? = some (Cn, T, N)) (w1 : Cond.classLink own ix Cn ∈ wsL_law) (d : decode cc pc = .ok (.checkcast ix, 3)) (K : z_R p l e R s m args below meth c G lo nL cells slots Q (pc + 3) lv (.ref b :: st) h nx) : z_R p l e R s m args below meth c G lo nL cells slots Q pc lv (.ref b :: st) h nx := by
  intro H locs ls e1 e2 e3 e4
  have hK : va_K G.1 vwCl (z_tys G) s := C.2.2.2.2.2.1
  obtain ⟨fs, hb⟩ := z_ck_spec hb
  exact va_castS C.1.1 C.1.2.1 C.1.2.2.2.1 (C.1.2.2.2.2 _ w1) (hK.1 ci _ hc).2 (va_recv hK (z_P1 ((e2 b _ hb).1 _ rfl).2) hc (q0 := 0) rfl) d (K H locs ls e1 e2 e3 e4)
theorem z_gets (C : z_Cx p l s m args meth c cc nL own ret G lo t0) (w1 : Cond.fieldLink own ix "java/util/ArrayList" "DEFAULTCAPACITY_EMPTY_ELEMENTDATA" "[Ljava/lang/Object;" ∈ wsL_law) (d : decode cc pc = .ok (.getstatic ix, 3)) (K : z_R p l e R s m args below meth c G lo nL cells slots Q (pc + 3) lv (.ref t0 :: st) h nx) : z_R p l e R s m args below meth c G lo nL cells slots Q pc lv st h nx := by
  intro H locs ls e1 e2 e3 e4
  exact va_gets C.1.1 C.1.2.1 C.2.2.2.2.2.2.1.1 e3 C.1.2.2.2.1 (C.1.2.2.2.2 _ w1) (fun _ h9 => h9) d (K H locs ls e1 e2 e3 e4)
theorem z_max {y : Int32} (C : z_Cx p l s m args meth c cc nL own ret G lo t0) (w1 : Cond.methodLink own ix Lib.Math.max.name ∈ wsL_law) (w2 : Cond.static Lib.Math.max.name ∈ wsL_law) (w3 : Cond.initialized "java/lang/Math" ∈ wsL_law) (w4 : Cond.code Lib.Math.max.name Lib.Math.max.code 2 (some .int) ∈ wsL_law) (hfr : 1 ≤ R.frames) (hlc : (st.map fun v => v.category).sum + 13 ≤ R.locals) (hcl : cells ≤ R.cells) (hsl : slots ≤ R.slots) (d : decode cc pc = .ok (.invokestatic ix, 3)) (K : z_R p l e R s m args below meth c G lo nL cells slots Q (pc + 3) lv (.int (if x < y then y else x) :: st) h nx) : z_R p l e R s m args below meth c G lo nL cells slots Q pc lv (.int y :: .int x :: st) h nx := by
  intro H locs ls e1 e2 e3 e4
  have hts := C.1.2.2.2.2
  exact va_mmax C.1.1 C.1.2.1 (C.1.2.2.1.trans e4.1.symm) C.1.2.2.2.1 (hts _ w1) (hts _ w2) (hts _ w3) (hts _ w4) hfr hlc hcl hsl d (K H locs ls e1 e2 e3 e4)
theorem z_min {y : Int32} (C : z_Cx p l s m args meth c cc nL own ret G lo t0) (w1 : Cond.methodLink own ix Lib.Math.min.name ∈ wsL_law) (w2 : Cond.static Lib.Math.min.name ∈ wsL_law) (w3 : Cond.initialized "java/lang/Math" ∈ wsL_law) (w4 : Cond.code Lib.Math.min.name Lib.Math.min.code 2 (some .int) ∈ wsL_law) (hfr : 1 ≤ R.frames) (hlc : (st.map fun v => v.category).sum + 13 ≤ R.locals) (hcl : cells ≤ R.cells) (hsl : slots ≤ R.slots) (d : decode cc pc = .ok (.invokestatic ix, 3)) (K : z_R p l e R s m args below meth c G lo nL cells slots Q (pc + 3) lv (.int (if y < x then y else x) :: st) h nx) : z_R p l e R s m args below meth c G lo nL cells slots Q pc lv (.int y :: .int x :: st) h nx := by
  intro H locs ls e1 e2 e3 e4
  have hts := C.1.2.2.2.2
  exact va_mmin C.1.1 C.1.2.1 (C.1.2.2.1.trans e4.1.symm) C.1.2.2.2.1 (hts _ w1) (hts _ w2) (hts _ w3) (hts _ w4) hfr hlc hcl hsl d (K H locs ls e1 e2 e3 e4)
theorem z_obj (C : z_Cx p l s m args meth c cc nL own ret G lo t0) (w1 : Cond.methodLink own ix objectInit ∈ wsL_law) (w2 : Cond.instanceMethod objectInit ∈ wsL_law) (w3 : Cond.code objectInit ⟨#[0xb1]⟩ 1 none ∈ wsL_law) (hfr : 1 ≤ R.frames) (hlc : (st.map fun v => v.category).sum + 12 ≤ R.locals) (d : decode cc pc = .ok (.invokespecial ix, 3)) (K : z_R p l e R s m args below meth c G lo nL cells slots Q (pc + 3) lv st h nx) : z_R p l e R s m args below meth c G lo nL cells slots Q pc lv (.ref a :: st) h nx := by
  intro H locs ls e1 e2 e3 e4
  have hts := C.1.2.2.2.2
  exact W.objInit C.1.1 C.1.2.1 C.1.2.2.2.1 (hts _ w1) (hts _ w2) (hts _ w3) rfl (by rw [C.1.2.2.1]; exact e4.1) rfl d hfr (by show 2 * 0 + _ + 12 ≤ _; omega) (K H locs ls e1 e2 e3 e4)
end ZM
