section ZL
variable {p : Program} {l : Launch} {e : Env} {R : Room} {s : State} {m : MethodId} {args : Array Value} {below : List Frame} {meth : Method} {c : Code} {G : zG} {lo t0 nL cells slots : Nat} {Q : State → Prop} {pc : Nat} {lv : List (Nat × Value)} {st : List Value} {h : zH} {nx : Nat} {cc : ByteArray} {own : String} {ret : Option FieldType}
variable {Om : Type} {o : Om} {n : Nat}

theorem zl1 {A : Type} {f : (A → Option Om) → A → Option Om} {a1 : A} (LV : A → List (Nat × Value)) (HP : A → zH) (NX : A → Nat) (hM : wl1 f n a1 = some o) (hs : ∀ rec : A → Option Om, (∀ a2, rec a2 = some o → z_R p l e R s m args below meth c G lo nL cells slots Q pc (LV a2) st (HP a2) (NX a2)) → ∀ a2, f rec a2 = some o → z_R p l e R s m args below meth c G lo nL cells slots Q pc (LV a2) st (HP a2) (NX a2)) : z_R p l e R s m args below meth c G lo nL cells slots Q pc (LV a1) st (HP a1) (NX a1) :=
  wl1_i (P := fun M a2 => M = some o → z_R p l e R s m args below meth c G lo nL cells slots Q pc (LV a2) st (HP a2) (NX a2)) (fun _ q => nomatch q) hs n a1 hM
theorem zl2 {A : Type} {B : Type} {f : (A → B → Option Om) → A → B → Option Om} {a1 : A} {b1 : B} (LV : A → B → List (Nat × Value)) (HP : A → B → zH) (NX : A → B → Nat) (hM : wl2 f n a1 b1 = some o) (hs : ∀ rec : A → B → Option Om, (∀ a2 b2, rec a2 b2 = some o → z_R p l e R s m args below meth c G lo nL cells slots Q pc (LV a2 b2) st (HP a2 b2) (NX a2 b2)) → ∀ a2 b2, f rec a2 b2 = some o → z_R p l e R s m args below meth c G lo nL cells slots Q pc (LV a2 b2) st (HP a2 b2) (NX a2 b2)) : z_R p l e R s m args below meth c G lo nL cells slots Q pc (LV a1 b1) st (HP a1 b1) (NX a1 b1) :=
  wl2_i (P := fun M a2 b2 => M = some o → z_R p l e R s m args below meth c G lo nL cells slots Q pc (LV a2 b2) st (HP a2 b2) (NX a2 b2)) (fun _ _ q => nomatch q) hs n a1 b1 hM
theorem zl3 {A : Type} {B : Type} {C : Type} {f : (A → B → C → Option Om) → A → B → C → Option Om} {a1 : A} {b1 : B} {c1 : C} (LV : A → B → C → List (Nat × Value)) (HP : A → B → C → zH) (NX : A → B → C → Nat) (hM : wl3 f n a1 b1 c1 = some o) (hs : ∀ rec : A → B → C → Option Om, (∀ a2 b2 c2, rec a2 b2 c2 = some o → z_R p l e R s m args below meth c G lo nL cells slots Q pc (LV a2 b2 c2) st (HP a2 b2 c2) (NX a2 b2 c2)) → ∀ a2 b2 c2, f rec a2 b2 c2 = some o → z_R p l e R s m args below meth c G lo nL cells slots Q pc (LV a2 b2 c2) st (HP a2 b2 c2) (NX a2 b2 c2)) : z_R p l e R s m args below meth c G lo nL cells slots Q pc (LV a1 b1 c1) st (HP a1 b1 c1) (NX a1 b1 c1) :=
  wl3_i (P := fun M a2 b2 c2 => M = some o → z_R p l e R s m args below meth c G lo nL cells slots Q pc (LV a2 b2 c2) st (HP a2 b2 c2) (NX a2 b2 c2)) (fun _ _ _ q => nomatch q) hs n a1 b1 c1 hM
theorem zl4 {A : Type} {B : Type} {C : Type} {D : Type} {f : (A → B → C → D → Option Om) → A → B → C → D → Option Om} {a1 : A} {b1 : B} {c1 : C} {d1 : D} (LV : A → B → C → D → List (Nat × Value)) (HP : A → B → C → D → zH) (NX : A → B → C → D → Nat) (hM : wl4 f n a1 b1 c1 d1 = some o) (hs : ∀ rec : A → B → C → D → Option Om, (∀ a2 b2 c2 d2, rec a2 b2 c2 d2 = some o → z_R p l e R s m args below meth c G lo nL cells slots Q pc (LV a2 b2 c2 d2) st (HP a2 b2 c2 d2) (NX a2 b2 c2 d2)) → ∀ a2 b2 c2 d2, f rec a2 b2 c2 d2 = some o → z_R p l e R s m args below meth c G lo nL cells slots Q pc (LV a2 b2 c2 d2) st (HP a2 b2 c2 d2) (NX a2 b2 c2 d2)) : z_R p l e R s m args below meth c G lo nL cells slots Q pc (LV a1 b1 c1 d1) st (HP a1 b1 c1 d1) (NX a1 b1 c1 d1) :=
  wl4_i (P := fun M a2 b2 c2 d2 => M = some o → z_R p l e R s m args below meth c G lo nL cells slots Q pc (LV a2 b2 c2 d2) st (HP a2 b2 c2 d2) (NX a2 b2 c2 d2)) (fun _ _ _ _ q => nomatch q) hs n a1 b1 c1 d1 hM
theorem zl5 {A : Type} {B : Type} {C : Type} {D : Type} {E : Type} {f : (A → B → C → D → E → Option Om) → A → B → C → D → E → Option Om} {a1 : A} {b1 : B} {c1 : C} {d1 : D} {e1 : E} (LV : A → B → C → D → E → List (Nat × Value)) (HP : A → B → C → D → E → zH) (NX : A → B → C → D → E → Nat) (hM : wl5 f n a1 b1 c1 d1 e1 = some o) (hs : ∀ rec : A → B → C → D → E → Option Om, (∀ a2 b2 c2 d2 e2, rec a2 b2 c2 d2 e2 = some o → z_R p l e R s m args below meth c G lo nL cells slots Q pc (LV a2 b2 c2 d2 e2) st (HP a2 b2 c2 d2 e2) (NX a2 b2 c2 d2 e2)) → ∀ a2 b2 c2 d2 e2, f rec a2 b2 c2 d2 e2 = some o → z_R p l e R s m args below meth c G lo nL cells slots Q pc (LV a2 b2 c2 d2 e2) st (HP a2 b2 c2 d2 e2) (NX a2 b2 c2 d2 e2)) : z_R p l e R s m args below meth c G lo nL cells slots Q pc (LV a1 b1 c1 d1 e1) st (HP a1 b1 c1 d1 e1) (NX a1 b1 c1 d1 e1) :=
  wl5_i (P := fun M a2 b2 c2 d2 e2 => M = some o → z_R p l e R s m args below meth c G lo nL cells slots Q pc (LV a2 b2 c2 d2 e2) st (HP a2 b2 c2 d2 e2) (NX a2 b2 c2 d2 e2)) (fun _ _ _ _ _ q => nomatch q) hs n a1 b1 c1 d1 e1 hM
theorem zl6 {A : Type} {B : Type} {C : Type} {D : Type} {E : Type} {F : Type} {f : (A → B → C → D → E → F → Option Om) → A → B → C → D → E → F → Option Om} {a1 : A} {b1 : B} {c1 : C} {d1 : D} {e1 : E} {f1 : F} (LV : A → B → C → D → E → F → List (Nat × Value)) (HP : A → B → C → D → E → F → zH) (NX : A → B → C → D → E → F → Nat) (hM : wl6 f n a1 b1 c1 d1 e1 f1 = some o) (hs : ∀ rec : A → B → C → D → E → F → Option Om, (∀ a2 b2 c2 d2 e2 f2, rec a2 b2 c2 d2 e2 f2 = some o → z_R p l e R s m args below meth c G lo nL cells slots Q pc (LV a2 b2 c2 d2 e2 f2) st (HP a2 b2 c2 d2 e2 f2) (NX a2 b2 c2 d2 e2 f2)) → ∀ a2 b2 c2 d2 e2 f2, f rec a2 b2 c2 d2 e2 f2 = some o → z_R p l e R s m args below meth c G lo nL cells slots Q pc (LV a2 b2 c2 d2 e2 f2) st (HP a2 b2 c2 d2 e2 f2) (NX a2 b2 c2 d2 e2 f2)) : z_R p l e R s m args below meth c G lo nL cells slots Q pc (LV a1 b1 c1 d1 e1 f1) st (HP a1 b1 c1 d1 e1 f1) (NX a1 b1 c1 d1 e1 f1) :=
  wl6_i (P := fun M a2 b2 c2 d2 e2 f2 => M = some o → z_R p l e R s m args below meth c G lo nL cells slots Q pc (LV a2 b2 c2 d2 e2 f2) st (HP a2 b2 c2 d2 e2 f2) (NX a2 b2 c2 d2 e2 f2)) (fun _ _ _ _ _ _ q => nomatch q) hs n a1 b1 c1 d1 e1 f1 hM
theorem zl7 {A : Type} {B : Type} {C : Type} {D : Type} {E : Type} {F : Type} {J : Type} {f : (A → B → C → D → E → F → J → Option Om) → A → B → C → D → E → F → J → Option Om} {a1 : A} {b1 : B} {c1 : C} {d1 : D} {e1 : E} {f1 : F} {j1 : J} (LV : A → B → C → D → E → F → J → List (Nat × Value)) (HP : A → B → C → D → E → F → J → zH) (NX : A → B → C → D → E → F → J → Nat) (hM : wl7 f n a1 b1 c1 d1 e1 f1 j1 = some o) (hs : ∀ rec : A → B → C → D → E → F → J → Option Om, (∀ a2 b2 c2 d2 e2 f2 j2, rec a2 b2 c2 d2 e2 f2 j2 = some o → z_R p l e R s m args below meth c G lo nL cells slots Q pc (LV a2 b2 c2 d2 e2 f2 j2) st (HP a2 b2 c2 d2 e2 f2 j2) (NX a2 b2 c2 d2 e2 f2 j2)) → ∀ a2 b2 c2 d2 e2 f2 j2, f rec a2 b2 c2 d2 e2 f2 j2 = some o → z_R p l e R s m args below meth c G lo nL cells slots Q pc (LV a2 b2 c2 d2 e2 f2 j2) st (HP a2 b2 c2 d2 e2 f2 j2) (NX a2 b2 c2 d2 e2 f2 j2)) : z_R p l e R s m args below meth c G lo nL cells slots Q pc (LV a1 b1 c1 d1 e1 f1 j1) st (HP a1 b1 c1 d1 e1 f1 j1) (NX a1 b1 c1 d1 e1 f1 j1) :=
  wl7_i (P := fun M a2 b2 c2 d2 e2 f2 j2 => M = some o → z_R p l e R s m args below meth c G lo nL cells slots Q pc (LV a2 b2 c2 d2 e2 f2 j2) st (HP a2 b2 c2 d2 e2 f2 j2) (NX a2 b2 c2 d2 e2 f2 j2)) (fun _ _ _ _ _ _ _ q => nomatch q) hs n a1 b1 c1 d1 e1 f1 j1 hM
theorem zj0  {K : Option Om} {Bd : (Option Om) → Option Om} (cj sj pcj : Nat) (LV : List (Nat × Value)) (ST : List Value) (HP : zH) (NX : Nat) (hM : jn0 K Bd = some o) (hK : K = some o → z_R p l e R s m args below meth c G lo nL cj sj Q pcj LV ST HP NX) (hB : ∀ J : Option Om, (J = some o → z_R p l e R s m args below meth c G lo nL cj sj Q pcj LV ST HP NX) → Bd J = some o → z_R p l e R s m args below meth c G lo nL cells slots Q pc lv st h nx) : z_R p l e R s m args below meth c G lo nL cells slots Q pc lv st h nx := hB K hK hM
theorem zj1 {A : Type} {K : A → Option Om} {Bd : (A → Option Om) → Option Om} (cj sj pcj : Nat) (LV : A → List (Nat × Value)) (ST : A → List Value) (HP : A → zH) (NX : A → Nat) (hM : jn1 K Bd = some o) (hK : ∀ a1, K a1 = some o → z_R p l e R s m args below meth c G lo nL cj sj Q pcj (LV a1) (ST a1) (HP a1) (NX a1)) (hB : ∀ J : A → Option Om, (∀ a1, J a1 = some o → z_R p l e R s m args below meth c G lo nL cj sj Q pcj (LV a1) (ST a1) (HP a1) (NX a1)) → Bd J = some o → z_R p l e R s m args below meth c G lo nL cells slots Q pc lv st h nx) : z_R p l e R s m args below meth c G lo nL cells slots Q pc lv st h nx := hB K hK hM
theorem zj2 {A : Type} {B : Type} {K : A → B → Option Om} {Bd : (A → B → Option Om) → Option Om} (cj sj pcj : Nat) (LV : A → B → List (Nat × Value)) (ST : A → B → List Value) (HP : A → B → zH) (NX : A → B → Nat) (hM : jn2 K Bd = some o) (hK : ∀ a1 b1, K a1 b1 = some o → z_R p l e R s m args below meth c G lo nL cj sj Q pcj (LV a1 b1) (ST a1 b1) (HP a1 b1) (NX a1 b1)) (hB : ∀ J : A → B → Option Om, (∀ a1 b1, J a1 b1 = some o → z_R p l e R s m args below meth c G lo nL cj sj Q pcj (LV a1 b1) (ST a1 b1) (HP a1 b1) (NX a1 b1)) → Bd J = some o → z_R p l e R s m args below meth c G lo nL cells slots Q pc lv st h nx) : z_R p l e R s m args below meth c G lo nL cells slots Q pc lv st h nx := hB K hK hM
theorem zj3 {A : Type} {B : Type} {C : Type} {K : A → B → C → Option Om} {Bd : (A → B → C → Option Om) → Option Om} (cj sj pcj : Nat) (LV : A → B → C → List (Nat × Value)) (ST : A → B → C → List Value) (HP : A → B → C → zH) (NX : A → B → C → Nat) (hM : jn3 K Bd = some o) (hK : ∀ a1 b1 c1, K a1 b1 c1 = some o → z_R p l e R s m args below meth c G lo nL cj sj Q pcj (LV a1 b1 c1) (ST a1 b1 c1) (HP a1 b1 c1) (NX a1 b1 c1)) (hB : ∀ J : A → B → C → Option Om, (∀ a1 b1 c1, J a1 b1 c1 = some o → z_R p l e R s m args below meth c G lo nL cj sj Q pcj (LV a1 b1 c1) (ST a1 b1 c1) (HP a1 b1 c1) (NX a1 b1 c1)) → Bd J = some o → z_R p l e R s m args below meth c G lo nL cells slots Q pc lv st h nx) : z_R p l e R s m args below meth c G lo nL cells slots Q pc lv st h nx := hB K hK hM
theorem zj4 {A : Type} {B : Type} {C : Type} {D : Type} {K : A → B → C → D → Option Om} {Bd : (A → B → C → D → Option Om) → Option Om} (cj sj pcj : Nat) (LV : A → B → C → D → List (Nat × Value)) (ST : A → B → C → D → List Value) (HP : A → B → C → D → zH) (NX : A → B → C → D → Nat) (hM : jn4 K Bd = some o) (hK : ∀ a1 b1 c1 d1, K a1 b1 c1 d1 = some o → z_R p l e R s m args below meth c G lo nL cj sj Q pcj (LV a1 b1 c1 d1) (ST a1 b1 c1 d1) (HP a1 b1 c1 d1) (NX a1 b1 c1 d1)) (hB : ∀ J : A → B → C → D → Option Om, (∀ a1 b1 c1 d1, J a1 b1 c1 d1 = some o → z_R p l e R s m args below meth c G lo nL cj sj Q pcj (LV a1 b1 c1 d1) (ST a1 b1 c1 d1) (HP a1 b1 c1 d1) (NX a1 b1 c1 d1)) → Bd J = some o → z_R p l e R s m args below meth c G lo nL cells slots Q pc lv st h nx) : z_R p l e R s m args below meth c G lo nL cells slots Q pc lv st h nx := hB K hK hM
theorem zj5 {A : Type} {B : Type} {C : Type} {D : Type} {E : Type} {K : A → B → C → D → E → Option Om} {Bd : (A → B → C → D → E → Option Om) → Option Om} (cj sj pcj : Nat) (LV : A → B → C → D → E → List (Nat × Value)) (ST : A → B → C → D → E → List Value) (HP : A → B → C → D → E → zH) (NX : A → B → C → D → E → Nat) (hM : jn5 K Bd = some o) (hK : ∀ a1 b1 c1 d1 e1, K a1 b1 c1 d1 e1 = some o → z_R p l e R s m args below meth c G lo nL cj sj Q pcj (LV a1 b1 c1 d1 e1) (ST a1 b1 c1 d1 e1) (HP a1 b1 c1 d1 e1) (NX a1 b1 c1 d1 e1)) (hB : ∀ J : A → B → C → D → E → Option Om, (∀ a1 b1 c1 d1 e1, J a1 b1 c1 d1 e1 = some o → z_R p l e R s m args below meth c G lo nL cj sj Q pcj (LV a1 b1 c1 d1 e1) (ST a1 b1 c1 d1 e1) (HP a1 b1 c1 d1 e1) (NX a1 b1 c1 d1 e1)) → Bd J = some o → z_R p l e R s m args below meth c G lo nL cells slots Q pc lv st h nx) : z_R p l e R s m args below meth c G lo nL cells slots Q pc lv st h nx := hB K hK hM
end ZL
section ZS
variable {p : Program} {l : Launch} {e : Env} {R : Room} {s : State} {m : MethodId} {args : Array Value} {below : List Frame} {meth : Method} {c : Code} {G : zG} {lo t0 nL cells slots : Nat} {Q : State → Prop} {pc : Nat} {lv : List (Nat × Value)} {st rest : List Value} {h h1 : zH} {nx : Nat} {cc : ByteArray} {own : String} {ret : Option FieldType}
variable {x y : Int32} {off : Int} {tgt : Nat} {Om : Type} {M1 M2 : Option Om} {o : Om}
theorem z_if_eq_t (C : z_Cx p l s m args meth c cc nL own ret G lo t0) (d : decode cc pc = .ok (.ifCond .eq off, 3)) (ht : (pc : Int) + off = (tgt : Int)) (hc : x = 0) (K : z_R p l e R s m args below meth c G lo nL cells slots Q tgt lv st h nx) : z_R p l e R s m args below meth c G lo nL cells slots Q pc lv (.int x :: st) h nx := fun H locs ls e1 e2 e3 e4 => lv_if_eq C.1.1 C.1.2.1 d ht (fun q => K H locs ls e1 e2 e3 e4) (fun q => absurd hc q)
theorem z_if_eq_f (C : z_Cx p l s m args meth c cc nL own ret G lo t0) (d : decode cc pc = .ok (.ifCond .eq off, 3)) (ht : (pc : Int) + off = (tgt : Int)) (hc : ¬ x = 0) (K : z_R p l e R s m args below meth c G lo nL cells slots Q (pc + 3) lv st h nx) : z_R p l e R s m args below meth c G lo nL cells slots Q pc lv (.int x :: st) h nx := fun H locs ls e1 e2 e3 e4 => lv_if_eq C.1.1 C.1.2.1 d ht (fun q => absurd q hc) (fun q => K H locs ls e1 e2 e3 e4)
theorem z_icmp_eq_t (C : z_Cx p l s m args meth c cc nL own ret G lo t0) (d : decode cc pc = .ok (.if_icmp .eq off, 3)) (ht : (pc : Int) + off = (tgt : Int)) (hc : x = y) (K : z_R p l e R s m args below meth c G lo nL cells slots Q tgt lv st h nx) : z_R p l e R s m args below meth c G lo nL cells slots Q pc lv (.int y :: .int x :: st) h nx := fun H locs ls e1 e2 e3 e4 => lv_icmp_eq C.1.1 C.1.2.1 d ht (fun q => K H locs ls e1 e2 e3 e4) (fun q => absurd hc q)
theorem z_icmp_eq_f (C : z_Cx p l s m args meth c cc nL own ret G lo t0) (d : decode cc pc = .ok (.if_icmp .eq off, 3)) (ht : (pc : Int) + off = (tgt : Int)) (hc : ¬ x = y) (K : z_R p l e R s m args below meth c G lo nL cells slots Q (pc + 3) lv st h nx) : z_R p l e R s m args below meth c G lo nL cells slots Q pc lv (.int y :: .int x :: st) h nx := fun H locs ls e1 e2 e3 e4 => lv_icmp_eq C.1.1 C.1.2.1 d ht (fun q => absurd q hc) (fun q => K H locs ls e1 e2 e3 e4)
theorem z_if_ne_t (C : z_Cx p l s m args meth c cc nL own ret G lo t0) (d : decode cc pc = .ok (.ifCond .ne off, 3)) (ht : (pc : Int) + off = (tgt : Int)) (hc : ¬ x = 0) (K : z_R p l e R s m args below meth c G lo nL cells slots Q tgt lv st h nx) : z_R p l e R s m args below meth c G lo nL cells slots Q pc lv (.int x :: st) h nx := fun H locs ls e1 e2 e3 e4 => lv_if_ne C.1.1 C.1.2.1 d ht (fun q => K H locs ls e1 e2 e3 e4) (fun q => absurd q hc)
theorem z_if_ne_f (C : z_Cx p l s m args meth c cc nL own ret G lo t0) (d : decode cc pc = .ok (.ifCond .ne off, 3)) (ht : (pc : Int) + off = (tgt : Int)) (hc : x = 0) (K : z_R p l e R s m args below meth c G lo nL cells slots Q (pc + 3) lv st h nx) : z_R p l e R s m args below meth c G lo nL cells slots Q pc lv (.int x :: st) h nx := fun H locs ls e1 e2 e3 e4 => lv_if_ne C.1.1 C.1.2.1 d ht (fun q => absurd hc q) (fun q => K H locs ls e1 e2 e3 e4)
theorem z_icmp_ne_t (C : z_Cx p l s m args meth c cc nL own ret G lo t0) (d : decode cc pc = .ok (.if_icmp .ne off, 3)) (ht : (pc : Int) + off = (tgt : Int)) (hc : ¬ x = y) (K : z_R p l e R s m args below meth c G lo nL cells slots Q tgt lv st h nx) : z_R p l e R s m args below meth c G lo nL cells slots Q pc lv (.int y :: .int x :: st) h nx := fun H locs ls e1 e2 e3 e4 => lv_icmp_ne C.1.1 C.1.2.1 d ht (fun q => K H locs ls e1 e2 e3 e4) (fun q => absurd q hc)
theorem z_icmp_ne_f (C : z_Cx p l s m args meth c cc nL own ret G lo t0) (d : decode cc pc = .ok (.if_icmp .ne off, 3)) (ht : (pc : Int) + off = (tgt : Int)) (hc : x = y) (K : z_R p l e R s m args below meth c G lo nL cells slots Q (pc + 3) lv st h nx) : z_R p l e R s m args below meth c G lo nL cells slots Q pc lv (.int y :: .int x :: st) h nx := fun H locs ls e1 e2 e3 e4 => lv_icmp_ne C.1.1 C.1.2.1 d ht (fun q => absurd hc q) (fun q => K H locs ls e1 e2 e3 e4)
theorem z_if_lt_t (C : z_Cx p l s m args meth c cc nL own ret G lo t0) (d : decode cc pc = .ok (.ifCond .lt off, 3)) (ht : (pc : Int) + off = (tgt : Int)) (hc : x < 0) (K : z_R p l e R s m args below meth c G lo nL cells slots Q tgt lv st h nx) : z_R p l e R s m args below meth c G lo nL cells slots Q pc lv (.int x :: st) h nx := fun H locs ls e1 e2 e3 e4 => lv_if_lt C.1.1 C.1.2.1 d ht (fun q => K H locs ls e1 e2 e3 e4) (fun q => absurd hc q)
theorem z_if_lt_f (C : z_Cx p l s m args meth c cc nL own ret G lo t0) (d : decode cc pc = .ok (.ifCond .lt off, 3)) (ht : (pc : Int) + off = (tgt : Int)) (hc : ¬ x < 0) (K : z_R p l e R s m args below meth c G lo nL cells slots Q (pc + 3) lv st h nx) : z_R p l e R s m args below meth c G lo nL cells slots Q pc lv (.int x :: st) h nx := fun H locs ls e1 e2 e3 e4 => lv_if_lt C.1.1 C.1.2.1 d ht (fun q => absurd q hc) (fun q => K H locs ls e1 e2 e3 e4)
theorem z_icmp_lt_t (C : z_Cx p l s m args meth c cc nL own ret G lo t0) (d : decode cc pc = .ok (.if_icmp .lt off, 3)) (ht : (pc : Int) + off = (tgt : Int)) (hc : x < y) (K : z_R p l e R s m args below meth c G lo nL cells slots Q tgt lv st h nx) : z_R p l e R s m args below meth c G lo nL cells slots Q pc lv (.int y :: .int x :: st) h nx := fun H locs ls e1 e2 e3 e4 => lv_icmp_lt C.1.1 C.1.2.1 d ht (fun q => K H locs ls e1 e2 e3 e4) (fun q => absurd hc q)
theorem z_icmp_lt_f (C : z_Cx p l s m args meth c cc nL own ret G lo t0) (d : decode cc pc = .ok (.if_icmp .lt off, 3)) (ht : (pc : Int) + off = (tgt : Int)) (hc : ¬ x < y) (K : z_R p l e R s m args below meth c G lo nL cells slots Q (pc + 3) lv st h nx) : z_R p l e R s m args below meth c G lo nL cells slots Q pc lv (.int y :: .int x :: st) h nx := fun H locs ls e1 e2 e3 e4 => lv_icmp_lt C.1.1 C.1.2.1 d ht (fun q => absurd q hc) (fun q => K H locs ls e1 e2 e3 e4)
theorem z_if_ge_t (C : z_Cx p l s m args meth c cc nL own ret G lo t0) (d : decode cc pc = .ok (.ifCond .ge off, 3)) (ht : (pc : Int) + off = (tgt : Int)) (hc : 0 ≤ x) (K : z_R p l e R s m args below meth c G lo nL cells slots Q tgt lv st h nx) : z_R p l e R s m args below meth c G lo nL cells slots Q pc lv (.int x :: st) h nx := fun H locs ls e1 e2 e3 e4 => lv_if_ge C.1.1 C.1.2.1 d ht (fun q => K H locs ls e1 e2 e3 e4) (fun q => absurd hc q)
theorem z_if_ge_f (C : z_Cx p l s m args meth c cc nL own ret G lo t0) (d : decode cc pc = .ok (.ifCond .ge off, 3)) (ht : (pc : Int) + off = (tgt : Int)) (hc : ¬ 0 ≤ x) (K : z_R p l e R s m args below meth c G lo nL cells slots Q (pc + 3) lv st h nx) : z_R p l e R s m args below meth c G lo nL cells slots Q pc lv (.int x :: st) h nx := fun H locs ls e1 e2 e3 e4 => lv_if_ge C.1.1 C.1.2.1 d ht (fun q => absurd q hc) (fun q => K H locs ls e1 e2 e3 e4)
theorem z_icmp_ge_t (C : z_Cx p l s m args meth c cc nL own ret G lo t0) (d : decode cc pc = .ok (.if_icmp .ge off, 3)) (ht : (pc : Int) + off = (tgt : Int)) (hc : y ≤ x) (K : z_R p l e R s m args below meth c G lo nL cells slots Q tgt lv st h nx) : z_R p l e R s m args below meth c G lo nL cells slots Q pc lv (.int y :: .int x :: st) h nx := fun H locs ls e1 e2 e3 e4 => lv_icmp_ge C.1.1 C.1.2.1 d ht (fun q => K H locs ls e1 e2 e3 e4) (fun q => absurd hc q)
theorem z_icmp_ge_f (C : z_Cx p l s m args meth c cc nL own ret G lo t0) (d : decode cc pc = .ok (.if_icmp .ge off, 3)) (ht : (pc : Int) + off = (tgt : Int)) (hc : ¬ y ≤ x) (K : z_R p l e R s m args below meth c G lo nL cells slots Q (pc + 3) lv st h nx) : z_R p l e R s m args below meth c G lo nL cells slots Q pc lv (.int y :: .int x :: st) h nx := fun H locs ls e1 e2 e3 e4 => lv_icmp_ge C.1.1 C.1.2.1 d ht (fun q => absurd q hc) (fun q => K H locs ls e1 e2 e3 e4)
theorem z_if_gt_t (C : z_Cx p l s m args meth c cc nL own ret G lo t0) (d : decode cc pc = .ok (.ifCond .gt off, 3)) (ht : (pc : Int) + off = (tgt : Int)) (hc : 0 < x) (K : z_R p l e R s m args below meth c G lo nL cells slots Q tgt lv st h nx) : z_R p l e R s m args below meth c G lo nL cells slots Q pc lv (.int x :: st) h nx := fun H locs ls e1 e2 e3 e4 => lv_if_gt C.1.1 C.1.2.1 d ht (fun q => K H locs ls e1 e2 e3 e4) (fun q => absurd hc q)
theorem z_if_gt_f (C : z_Cx p l s m args meth c cc nL own ret G lo t0) (d : decode cc pc = .ok (.ifCond .gt off, 3)) (ht : (pc : Int) + off = (tgt : Int)) (hc : ¬ 0 < x) (K : z_R p l e R s m args below meth c G lo nL cells slots Q (pc + 3) lv st h nx) : z_R p l e R s m args below meth c G lo nL cells slots Q pc lv (.int x :: st) h nx := fun H locs ls e1 e2 e3 e4 => lv_if_gt C.1.1 C.1.2.1 d ht (fun q => absurd q hc) (fun q => K H locs ls e1 e2 e3 e4)
theorem z_icmp_gt_t (C : z_Cx p l s m args meth c cc nL own ret G lo t0) (d : decode cc pc = .ok (.if_icmp .gt off, 3)) (ht : (pc : Int) + off = (tgt : Int)) (hc : y < x) (K : z_R p l e R s m args below meth c G lo nL cells slots Q tgt lv st h nx) : z_R p l e R s m args below meth c G lo nL cells slots Q pc lv (.int y :: .int x :: st) h nx := fun H locs ls e1 e2 e3 e4 => lv_icmp_gt C.1.1 C.1.2.1 d ht (fun q => K H locs ls e1 e2 e3 e4) (fun q => absurd hc q)
theorem z_icmp_gt_f (C : z_Cx p l s m args meth c cc nL own ret G lo t0) (d : decode cc pc = .ok (.if_icmp .gt off, 3)) (ht : (pc : Int) + off = (tgt : Int)) (hc : ¬ y < x) (K : z_R p l e R s m args below meth c G lo nL cells slots Q (pc + 3) lv st h nx) : z_R p l e R s m args below meth c G lo nL cells slots Q pc lv (.int y :: .int x :: st) h nx := fun H locs ls e1 e2 e3 e4 => lv_icmp_gt C.1.1 C.1.2.1 d ht (fun q => absurd q hc) (fun q => K H locs ls e1 e2 e3 e4)
theorem z_if_le_t (C : z_Cx p l s m args meth c cc nL own ret G lo t0) (d : decode cc pc = .ok (.ifCond .le off, 3)) (ht : (pc : Int) + off = (tgt : Int)) (hc : x ≤ 0) (K : z_R p l e R s m args below meth c G lo nL cells slots Q tgt lv st h nx) : z_R p l e R s m args below meth c G lo nL cells slots Q pc lv (.int x :: st) h nx := fun H locs ls e1 e2 e3 e4 => lv_if_le C.1.1 C.1.2.1 d ht (fun q => K H locs ls e1 e2 e3 e4) (fun q => absurd hc q)
theorem z_if_le_f (C : z_Cx p l s m args meth c cc nL own ret G lo t0) (d : decode cc pc = .ok (.ifCond .le off, 3)) (ht : (pc : Int) + off = (tgt : Int)) (hc : ¬ x ≤ 0) (K : z_R p l e R s m args below meth c G lo nL cells slots Q (pc + 3) lv st h nx) : z_R p l e R s m args below meth c G lo nL cells slots Q pc lv (.int x :: st) h nx := fun H locs ls e1 e2 e3 e4 => lv_if_le C.1.1 C.1.2.1 d ht (fun q => absurd q hc) (fun q => K H locs ls e1 e2 e3 e4)
theorem z_icmp_le_t (C : z_Cx p l s m args meth c cc nL own ret G lo t0) (d : decode cc pc = .ok (.if_icmp .le off, 3)) (ht : (pc : Int) + off = (tgt : Int)) (hc : x ≤ y) (K : z_R p l e R s m args below meth c G lo nL cells slots Q tgt lv st h nx) : z_R p l e R s m args below meth c G lo nL cells slots Q pc lv (.int y :: .int x :: st) h nx := fun H locs ls e1 e2 e3 e4 => lv_icmp_le C.1.1 C.1.2.1 d ht (fun q => K H locs ls e1 e2 e3 e4) (fun q => absurd hc q)
theorem z_icmp_le_f (C : z_Cx p l s m args meth c cc nL own ret G lo t0) (d : decode cc pc = .ok (.if_icmp .le off, 3)) (ht : (pc : Int) + off = (tgt : Int)) (hc : ¬ x ≤ y) (K : z_R p l e R s m args below meth c G lo nL cells slots Q (pc + 3) lv st h nx) : z_R p l e R s m args below meth c G lo nL cells slots Q pc lv (.int y :: .int x :: st) h nx := fun H locs ls e1 e2 e3 e4 => lv_icmp_le C.1.1 C.1.2.1 d ht (fun q => absurd q hc) (fun q => K H locs ls e1 e2 e3 e4)
variable {a b : Nat}
theorem z_acmp_eq (C : z_Cx p l s m args meth c cc nL own ret G lo t0) (d : decode cc pc = .ok (.if_acmp .eq off, 3)) (ht : (pc : Int) + off = (tgt : Int)) (hM : (if a = b then M1 else M2) = some o) (K1 : a = b → M1 = some o → z_R p l e R s m args below meth c G lo nL cells slots Q tgt lv st h nx) (K2 : ¬ a = b → M2 = some o → z_R p l e R s m args below meth c G lo nL cells slots Q (pc + 3) lv st h nx) : z_R p l e R s m args below meth c G lo nL cells slots Q pc lv (.ref b :: .ref a :: st) h nx := fun H locs ls e1 e2 e3 e4 => lv_acmp_eq (rx := some a) (ry := some b) C.1.1 C.1.2.1 d ht (fun q => by cases q; exact K1 rfl (by rw [if_pos rfl] at hM; exact hM) H locs ls e1 e2 e3 e4) (fun q => K2 (fun z => q (by rw [z])) (by rw [if_neg (fun z => q (by rw [z]))] at hM; exact hM) H locs ls e1 e2 e3 e4)
theorem z_acmp_ne (C : z_Cx p l s m args meth c cc nL own ret G lo t0) (d : decode cc pc = .ok (.if_acmp .ne off, 3)) (ht : (pc : Int) + off = (tgt : Int)) (hM : (if a = b then M1 else M2) = some o) (K1 : a = b → M1 = some o → z_R p l e R s m args below meth c G lo nL cells slots Q (pc + 3) lv st h nx) (K2 : ¬ a = b → M2 = some o → z_R p l e R s m args below meth c G lo nL cells slots Q tgt lv st h nx) : z_R p l e R s m args below meth c G lo nL cells slots Q pc lv (.ref b :: .ref a :: st) h nx := fun H locs ls e1 e2 e3 e4 => lv_acmp_ne (rx := some a) (ry := some b) C.1.1 C.1.2.1 d ht (fun q => K2 (fun z => q (by rw [z])) (by rw [if_neg (fun z => q (by rw [z]))] at hM; exact hM) H locs ls e1 e2 e3 e4) (fun q => by cases q; exact K1 rfl (by rw [if_pos rfl] at hM; exact hM) H locs ls e1 e2 e3 e4)
theorem z_tableIn {dflt tl th : Int} {offs : Array Int} {len : Nat} (C : z_Cx p l s m args meth c cc nL own ret G lo t0) (d : decode cc pc = .ok (.tableswitch dflt tl th offs, len)) (h1' : ¬ x.toInt < tl) (h2' : ¬ th < x.toInt) (ho : offs[(x.toInt - tl).toNat]? = some off) (ht : (pc : Int) + off = (tgt : Int)) (K : z_R p l e R s m args below meth c G lo nL cells slots Q tgt lv st h nx) : z_R p l e R s m args below meth c G lo nL cells slots Q pc lv (.int x :: st) h nx := fun H locs ls e1 e2 e3 e4 => lv_tableIn C.1.1 C.1.2.1 d h1' h2' ho ht (K H locs ls e1 e2 e3 e4)
theorem z_tableD {dflt tl th : Int} {offs : Array Int} {len : Nat} (C : z_Cx p l s m args meth c cc nL own ret G lo t0) (d : decode cc pc = .ok (.tableswitch dflt tl th offs, len)) (hh : ∀ k : Int, tl ≤ k → k ≤ th → x.toInt = k → offs[(k - tl).toNat]? = some dflt) (ht : (pc : Int) + dflt = (tgt : Int)) (K : z_R p l e R s m args below meth c G lo nL cells slots Q tgt lv st h nx) : z_R p l e R s m args below meth c G lo nL cells slots Q pc lv (.int x :: st) h nx := fun H locs ls e1 e2 e3 e4 => by
  by_cases hin : x.toInt < tl ∨ th < x.toInt
  · exact lv_tableOut C.1.1 C.1.2.1 d hin ht (K H locs ls e1 e2 e3 e4)
  · exact lv_tableIn C.1.1 C.1.2.1 d (fun q => hin (Or.inl q)) (fun q => hin (Or.inr q)) (hh x.toInt (by omega) (by omega) rfl) ht (K H locs ls e1 e2 e3 e4)
theorem z_lookup {dflt : Int} {ps : Array (Int × Int)} {len : Nat} (C : z_Cx p l s m args meth c cc nL own ret G lo t0) (d : decode cc pc = .ok (.lookupswitch dflt ps, len)) (hp : (ps.toList.zip (ps.toList.drop 1)).all (fun (a, next) => a.1 < next.1) = true) (ho : Op.lookupswitch.offset ps.toList dflt x.toInt = off) (ht : (pc : Int) + off = (tgt : Int)) (K : z_R p l e R s m args below meth c G lo nL cells slots Q tgt lv st h nx) : z_R p l e R s m args below meth c G lo nL cells slots Q pc lv (.int x :: st) h nx := fun H locs ls e1 e2 e3 e4 => lv_lookup C.1.1 C.1.2.1 d hp ho ht (K H locs ls e1 e2 e3 e4)
end ZS
theorem z_sw {c : Prop} [Decidable c] {Om : Type} {M1 M2 : Option Om} {o : Om} {g : Prop} (hM : (if c then M1 else M2) = some o) (k1 : c → M1 = some o → g) (k2 : ¬ c → M2 = some o → g) : g := by
  by_cases h : c
  · rw [if_pos h] at hM; exact k1 h hM
  · rw [if_neg h] at hM; exact k2 h hM
theorem z_gn {c : Prop} [Decidable c] {Om : Type} {M : Option Om} {o : Om} (hM : (if c then none else M) = some o) : ¬ c ∧ M = some o := by
  by_cases h : c
  · rw [if_pos h] at hM; cases hM
  · rw [if_neg h] at hM; exact ⟨h, hM⟩
theorem z_gy {c : Prop} [Decidable c] {Om : Type} {M : Option Om} {o : Om} (hM : (if c then M else none) = some o) : c ∧ M = some o := by
  by_cases h : c
  · rw [if_pos h] at hM; exact ⟨h, hM⟩
  · rw [if_neg h] at hM; cases hM
theorem z_tb_c {X Y : Type} {a : Option (String ⊕ X)} {k : X → Option (String ⊕ Y)} {o : String ⊕ Y} (hM : z_tb a k = some o) : (∃ E, a = some (.inl E) ∧ o = .inl E) ∨ ∃ x, a = some (.inr x) ∧ k x = some o := by
  obtain ⟨z, h1, h2⟩ := Option.bind_eq_some_iff.mp hM
  cases z with
  | inl E => cases h2; exact Or.inl ⟨E, h1, rfl⟩
  | inr x => exact Or.inr ⟨x, h1, h2⟩
theorem z_tn_c {X Y : Type} {a : Option (String ⊕ X)} {k : X → Option Y} {o : Y} (hM : z_tn a k = some o) : ∃ x, a = some (.inr x) ∧ k x = some o := by
  obtain ⟨z, h1, h2⟩ := Option.bind_eq_some_iff.mp hM
  cases z with
  | inl E => cases h2
  | inr x => exact ⟨x, h1, h2⟩
def z_eo {X : Type} (h : zH) (o : String ⊕ X) (f : X → Option Value × zH × Nat) : zV := match o with
  | .inl E => .inl (E, h)
  | .inr x => .inr (f x)
def z_mo {X : Type} (o : String ⊕ X) (a b : Nat) : Nat := match o with
  | .inl _ => a
  | .inr _ => b
/-- a reference is stored: an awning or a stall -/
def z_el (h : zH) (v : Nat) : Bool := (z_ob h v 1).isSome || (z_ob h v 4).isSome
def z_sE (h : zH) (a : Nat) (i : Int32) (v : Nat) : Option zH := if z_el h v = true then z_sR h a i (some v) else none
def z_cpQ (h : zH) (a0 : Nat) (sp : Int32) (a : Nat) (dp n : Int32) : Option zH := (z_aq h a0).bind fun r0 => (z_aq h a).bind fun r => if ¬ sp < 0 ∧ ¬ dp < 0 ∧ ¬ n < 0 ∧ sp.toNatClampNeg + n.toNatClampNeg ≤ r0.1 ∧ dp.toNatClampNeg + n.toNatClampNeg ≤ r.1 ∧ (List.range n.toNatClampNeg).all (fun i => match r0.2 (sp.toNatClampNeg + i) with | none => true | some y => z_el h y) = true then some (z_up h a (zQ r.1 (va_cpy r0.2 r.2 sp.toNatClampNeg dp.toNatClampNeg n.toNatClampNeg))) else none
def z_cpI (h : zH) (a0 : Nat) (sp : Int32) (a : Nat) (dp n : Int32) : Option zH := (z_ai h a0).bind fun r0 => (z_ai h a).bind fun r => if ¬ sp < 0 ∧ ¬ dp < 0 ∧ ¬ n < 0 ∧ sp.toNatClampNeg + n.toNatClampNeg ≤ r0.1 ∧ dp.toNatClampNeg + n.toNatClampNeg ≤ r.1 then some (z_up h a (zI r.1 (va_cpy r0.2 r.2 sp.toNatClampNeg dp.toNatClampNeg n.toNatClampNeg))) else none
section ZCP
variable {p : Program} {l : Launch} {e : Env} {R : Room} {s : State} {m : MethodId} {args : Array Value} {below : List Frame} {meth : Method} {c : Code} {G : zG} {lo t0 nL cells slots : Nat} {Q : State → Prop} {pc : Nat} {lv : List (Nat × Value)} {st rest : List Value} {h h1 : zH} {nx : Nat} {cc : ByteArray} {own : String} {ret : Option FieldType}
variable {a a0 b ix : Nat} {i sp dp n : Int32}
theorem z_aastE (C : z_Cx p l s m args meth c cc nL own ret G lo t0) (hv : z_sE h a i b = some h1) (d : decode cc pc = .ok (.aastore, 1)) (K : z_R p l e R s m args below meth c G lo nL cells slots Q (pc + 1) lv st h1 nx) : z_R p l e R s m args below meth c G lo nL cells slots Q pc lv (.ref b :: .int i :: .ref a :: st) h nx := by
  obtain ⟨hb, hv⟩ := z_gy hv
  simp only [z_el, Bool.or_eq_true, Option.isSome_iff_exists] at hb
  rcases hb with ⟨fs, hb⟩ | ⟨fs, hb⟩
  · exact z_aast (ci := 1) C hv (u := ()) (by unfold z_ck; rw [hb]; rfl) rfl (by decide) d K
  · exact z_aast (ci := 4) C hv (u := ()) (by unfold z_ck; rw [hb]; rfl) rfl (by decide) d K
theorem z_nn : ∀ z : Int32, ¬ z < 0 → z.toInt = (z.toNatClampNeg : Int) := by
  intro z hz
  have hz0 : (0 : Int) ≤ z.toInt := by
    have := Int32.not_lt.mp hz
    simpa using Int32.le_iff_toInt_le.mp this
  show z.toInt = ((z.toInt.toNat : Nat) : Int)
  omega
theorem z_copyI (C : z_Cx p l s m args meth c cc nL own ret G lo t0) (hv : z_cpI h a0 sp a dp n = some h1) (w1 : Cond.methodLink own ix arraycopyName ∈ wsL_law) (w2 : Cond.native arraycopyName ∈ wsL_law) (w3 : Cond.static arraycopyName ∈ wsL_law) (w4 : Cond.initialized "java/lang/System" ∈ wsL_law) (hfr : 1 ≤ R.frames) (hlc : (st.map fun v => v.category).sum + (nativeFrameWords "java/lang/System" "arraycopy" 5 + 11) ≤ R.locals) (d : decode cc pc = .ok (.invokestatic ix, 3)) (K : z_R p l e R s m args below meth c G lo nL cells slots Q (pc + 3) lv st h1 nx) : z_R p l e R s m args below meth c G lo nL cells slots Q pc lv (.int n :: .int dp :: .ref a :: .int sp :: .ref a0 :: st) h nx := by
  intro H locs ls e1 e2 e3 e4
  obtain ⟨⟨n0, f⟩, q0, hv⟩ := Option.bind_eq_some_iff.mp hv
  obtain ⟨⟨n1, g⟩, q1, hv⟩ := Option.bind_eq_some_iff.mp hv
  obtain ⟨⟨g1, g2, g3, g4, g5⟩, hv⟩ := z_gy hv
  cases hv
  have k0 := z_ai_spec q0
  have k1 := z_ai_spec q1
  dsimp only at k0 k1 g4 g5
  have hts := C.1.2.2.2.2
  have hK : va_K G.1 vwCl (z_tys G) s := C.2.2.2.2.2.1
  have hat := (e2 a _ k1).1 _ rfl
  have hc0 : H[a0]? = some (vp_cell (G.2 0) (n0, .inl f)) := ((e2 a0 _ k0).1 _ rfl).2
  have hc1 : H[a]? = some (vp_cell (G.2 0) (n1, .inl g)) := hat.2
  obtain ⟨-, kk0, hk0, cm0, hkk0⟩ := (hK.2 0 _ rfl).1 n0 (fun j => .int (f j))
  intro T hT X
  obtain ⟨vm', X', step⟩ := X.arraycopy C.1.1 C.1.2.2.2.1 (hts _ w1) (hts _ w2) (hts _ w3) (hts _ w4) (src := a0) (dst := a) (cs := vp_cell (G.2 0) (n0, .inl f)) (cd := vp_cell (G.2 0) (n1, .inl g)) (srcPos := sp) (destPos := dp) (n := n) (by rw [hT]; exact hc0) (by rw [hT]; exact hc1)
    (fun _ h => by cases h) (fun _ h => by cases h) (fun h => by cases h) (fun h => by cases h) hk0 hk0 hkk0 hkk0 rfl g1 g2 g3
    (by rw [z_nn sp g1, z_nn n g3]; show ¬ _ > ((arrV (G.2 0) n0 (fun j => .int (f j))).slots.size : Int); rw [arrV_size]; omega)
    (by rw [z_nn dp g2, z_nn n g3]; show ¬ _ > ((arrV (G.2 0) n1 (fun j => .int (g j))).slots.size : Int); rw [arrV_size]; omega)
    (fun vm₁ _ i hi => by
      have e : (vp_cell (G.2 0) (n0, .inl f)).slots.getD (sp.toNatClampNeg + i) .null = .int (f (sp.toNatClampNeg + i)) := by
        show (arrV (G.2 0) n0 (fun j => .int (f j))).slots.getD _ _ = _
        rw [Array.getD_eq_getD_getElem?, arrV_read _ _ (by omega)]
        rfl
      refine ⟨?_, ?_⟩
      · rw [e]; rfl
      · rw [e]; exact trivial)
    (g := F0 m pc ls (.int n :: .int dp :: .ref a :: .int sp :: .ref a0 :: st)) rfl (e4.1.trans C.1.2.2.1.symm) (rest := st) rfl (by rw [C.1.2.1]; exact d) hfr (by show 2 * 0 + _ + _ ≤ _; omega)
  have e9 : copied (vp_cell (G.2 0) (n0, .inl f)) (vp_cell (G.2 0) (n1, .inl g)) sp dp n = vp_cell (G.2 0) (n1, .inl (va_cpy f g sp.toNatClampNeg dp.toNatClampNeg n.toNatClampNeg)) := va_copied (fun z => .int z) (G.2 0) (G.2 0) f g g4
  rw [e9] at X' step
  have hl : a < H.size := (Array.getElem?_eq_some_iff.mp hc1).1
  have hheap : ((T.setVm vm').setCell a (vp_cell (G.2 0) (n1, .inl (va_cpy f g sp.toNatClampNeg dp.toNatClampNeg n.toNatClampNeg)))).heap = H.setIfInBounds a (vp_cell (G.2 0) (n1, .inl (va_cpy f g sp.toNatClampNeg dp.toNatClampNeg n.toNatClampNeg))) := by rw [← hT]; rfl
  have oq : ∀ q : Nat, q ≠ a → (H.setIfInBounds a (vp_cell (G.2 0) (n1, .inl (va_cpy f g sp.toNatClampNeg dp.toNatClampNeg n.toNatClampNeg))))[q]? = H[q]? := fun q hq => by simp [Array.getElem?_setIfInBounds, Ne.symm hq]
  obtain ⟨t, a1, b1⟩ := K _ _ ls (by simp; exact e1) (z_upd e2 k1 rfl (c1 := zI n1 (va_cpy f g sp.toNatClampNeg dp.toNatClampNeg n.toNatClampNeg)) rfl (show (H.setIfInBounds a _)[a]? = some _ by simp [Array.getElem?_setIfInBounds, hl]) oq) ⟨by simp; exact e3.1, fun q w1 w2 => by
      rw [oq q (fun e => w2 (by rw [e]; exact hat.1))]
      exact e3.2.1 q w1 w2, fun q hq => by
      rcases List.mem_append.mp hq with h | h
      · exact e3.2.2 q h
      · obtain ⟨z, -, hz⟩ := List.mem_map.mp h
        rw [← hz]
        exact hat.1⟩ e4 _ hheap X'
  exact ⟨t, step t a1, b1⟩
theorem z_copyQ (C : z_Cx p l s m args meth c cc nL own ret G lo t0) (hv : z_cpQ h a0 sp a dp n = some h1) (w1 : Cond.methodLink own ix arraycopyName ∈ wsL_law) (w2 : Cond.native arraycopyName ∈ wsL_law) (w3 : Cond.static arraycopyName ∈ wsL_law) (w4 : Cond.initialized "java/lang/System" ∈ wsL_law) (hfr : 1 ≤ R.frames) (hlc : (st.map fun v => v.category).sum + (nativeFrameWords "java/lang/System" "arraycopy" 5 + 11) ≤ R.locals) (d : decode cc pc = .ok (.invokestatic ix, 3)) (K : z_R p l e R s m args below meth c G lo nL cells slots Q (pc + 3) lv st h1 nx) : z_R p l e R s m args below meth c G lo nL cells slots Q pc lv (.int n :: .int dp :: .ref a :: .int sp :: .ref a0 :: st) h nx := by
  intro H locs ls e1 e2 e3 e4
  obtain ⟨⟨n0, f⟩, q0, hv⟩ := Option.bind_eq_some_iff.mp hv
  obtain ⟨⟨n1, g⟩, q1, hv⟩ := Option.bind_eq_some_iff.mp hv
  obtain ⟨⟨g1, g2, g3, g4, g5, g6⟩, hv⟩ := z_gy hv
  cases hv
  have k0 := z_aq_spec q0
  have k1 := z_aq_spec q1
  dsimp only at k0 k1 g4 g5 g6
  have hts := C.1.2.2.2.2
  have hK : va_K G.1 vwCl (z_tys G) s := C.2.2.2.2.2.1
  have hat := (e2 a _ k1).1 _ rfl
  have hc0 : H[a0]? = some (vp_cell (G.2 1) (n0, .inr (.inr (.inr (.inr f))))) := ((e2 a0 _ k0).1 _ rfl).2
  have hc1 : H[a]? = some (vp_cell (G.2 1) (n1, .inr (.inr (.inr (.inr g))))) := hat.2
  obtain ⟨-, kk0, hk0, cm0, hkk0⟩ := (hK.2 1 _ rfl).1 n0 (fun j => va_rf (f j))
  intro T hT X
  obtain ⟨vm', X', step⟩ := X.arraycopy C.1.1 C.1.2.2.2.1 (hts _ w1) (hts _ w2) (hts _ w3) (hts _ w4) (src := a0) (dst := a) (cs := vp_cell (G.2 1) (n0, .inr (.inr (.inr (.inr f))))) (cd := vp_cell (G.2 1) (n1, .inr (.inr (.inr (.inr g))))) (srcPos := sp) (destPos := dp) (n := n) (by rw [hT]; exact hc0) (by rw [hT]; exact hc1)
    (fun _ h => by cases h) (fun _ h => by cases h) (fun h => by cases h) (fun h => by cases h) hk0 hk0 hkk0 hkk0 rfl g1 g2 g3
    (by rw [z_nn sp g1, z_nn n g3]; show ¬ _ > ((arrV (G.2 1) n0 (fun j => va_rf (f j))).slots.size : Int); rw [arrV_size]; omega)
    (by rw [z_nn dp g2, z_nn n g3]; show ¬ _ > ((arrV (G.2 1) n1 (fun j => va_rf (g j))).slots.size : Int); rw [arrV_size]; omega)
    (fun vm₁ hal i hi => by
      have e : (vp_cell (G.2 1) (n0, .inr (.inr (.inr (.inr f))))).slots.getD (sp.toNatClampNeg + i) .null = va_rf (f (sp.toNatClampNeg + i)) := by
        show (arrV (G.2 1) n0 (fun j => va_rf (f j))).slots.getD _ _ = _
        rw [Array.getD_eq_getD_getElem?, arrV_read _ _ (by omega)]
        rfl
      rw [e]
      have g7 := List.all_eq_true.mp g6 i (List.mem_range.mpr hi)
      cases hy : f (sp.toNatClampNeg + i) with
      | none => exact ⟨rfl, trivial⟩
      | some y =>
        rw [hy] at g7
        have g8 : z_el h y = true := g7
        simp only [z_el, Bool.or_eq_true, Option.isSome_iff_exists] at g8
        obtain ⟨ci, Cn, T9, N9, fs, hvw, hcast, hob⟩ : ∃ (ci : Nat) (Cn : String) (T9 : u_T) (N9 : Nat) (fs : List Value), vwCl[ci]? = some (Cn, T9, N9) ∧ Cond.castable Cn "java/lang/Object" ∈ z_ws ∧ z_ob h y ci = some fs := by
          rcases g8 with ⟨fs, hb⟩ | ⟨fs, hb⟩
          · exact ⟨1, _, _, _, fs, rfl, by decide, hb⟩
          · exact ⟨4, _, _, _, fs, rfl, by decide, hb⟩
        obtain ⟨cellV, w5, w6, w7⟩ := va_recv hK (z_P1 ((e2 y _ (z_ob_spec hob)).1 _ rfl).2) hvw (q0 := 0) rfl
        obtain ⟨kA, comp, r1, r2, r3, -⟩ := (hK.2 1 _ rfl).2
        cases hk0.symm.trans r1
        cases hkk0.symm.trans r2
        obtain ⟨c3, c4, hc3, hc4, hasg⟩ := Cond.castable_spec (va_Nw.use (A := args) rfl (C.2.2.2.2.2.2.2.1 _ hcast))
        obtain ⟨kC, hkC, -⟩ := Vm.findClass_spec w7
        obtain ⟨kE, hkE, -⟩ := Vm.findClass_spec r3
        obtain ⟨kC', hkC', -⟩ := hal.2.2 _ _ hkC
        obtain ⟨kE', hkE', -⟩ := hal.2.2 _ _ hkE
        refine ⟨rfl, cellV, (show T.heap[y]? = some cellV by rw [hT]; exact w5), (fun q h => by rw [h] at w6; cases w6), ⟨kC', hkC'⟩, ?_, ?_⟩
        · exact ⟨kE', hkE'⟩
        · show vm₁.assignable _ _ = true
          rw [hal.assignable]
          have e5 : c3 = cellV.cls := Option.some.inj (hc3.symm.trans w7)
          have e6 : c4 = cm0 := Option.some.inj (hc4.symm.trans r3)
          rw [← e5, ← e6]
          exact hasg)
    (g := F0 m pc ls (.int n :: .int dp :: .ref a :: .int sp :: .ref a0 :: st)) rfl (e4.1.trans C.1.2.2.1.symm) (rest := st) rfl (by rw [C.1.2.1]; exact d) hfr (by show 2 * 0 + _ + _ ≤ _; omega)
  have e9 : copied (vp_cell (G.2 1) (n0, .inr (.inr (.inr (.inr f))))) (vp_cell (G.2 1) (n1, .inr (.inr (.inr (.inr g))))) sp dp n = vp_cell (G.2 1) (n1, .inr (.inr (.inr (.inr (va_cpy f g sp.toNatClampNeg dp.toNatClampNeg n.toNatClampNeg))))) := by
    rw [vp_cell_q, vp_cell_q, vp_cell_q]
    exact va_copied (fun z => va_rf z) (G.2 1) (G.2 1) f g g4
  rw [e9] at X' step
  have hl : a < H.size := (Array.getElem?_eq_some_iff.mp hc1).1
  have hheap : ((T.setVm vm').setCell a (vp_cell (G.2 1) (n1, .inr (.inr (.inr (.inr (va_cpy f g sp.toNatClampNeg dp.toNatClampNeg n.toNatClampNeg))))))).heap = H.setIfInBounds a (vp_cell (G.2 1) (n1, .inr (.inr (.inr (.inr (va_cpy f g sp.toNatClampNeg dp.toNatClampNeg n.toNatClampNeg)))))) := by rw [← hT]; rfl
  have oq : ∀ q : Nat, q ≠ a → (H.setIfInBounds a (vp_cell (G.2 1) (n1, .inr (.inr (.inr (.inr (va_cpy f g sp.toNatClampNeg dp.toNatClampNeg n.toNatClampNeg)))))))[q]? = H[q]? := fun q hq => by simp [Array.getElem?_setIfInBounds, Ne.symm hq]
  obtain ⟨t, a1, b1⟩ := K _ _ ls (by simp; exact e1) (z_upd e2 k1 rfl (c1 := zQ n1 (va_cpy f g sp.toNatClampNeg dp.toNatClampNeg n.toNatClampNeg)) rfl (show (H.setIfInBounds a _)[a]? = some _ by simp [Array.getElem?_setIfInBounds, hl]) oq) ⟨by simp; exact e3.1, fun q w1 w2 => by
      rw [oq q (fun e => w2 (by rw [e]; exact hat.1))]
      exact e3.2.1 q w1 w2, fun q hq => by
      rcases List.mem_append.mp hq with h | h
      · exact e3.2.2 q h
      · obtain ⟨z, -, hz⟩ := List.mem_map.mp h
        rw [← hz]
        exact hat.1⟩ e4 _ hheap X'
  exact ⟨t, step t a1, b1⟩
end ZCP
theorem ax_X4_54 : ∀ w ∈ (vx_atS RX4 54 "java/lang/IllegalArgumentException" ["java/lang/RuntimeException", "java/lang/Exception"]).filter goodWord, w ∈ wsL_law := fun w h => List.mem_append_left _ (List.mem_append_left _ (List.mem_append_left _ (List.mem_append_right _ h)))
theorem ax_X4_54_b : ∀ w ∈ (vx_atS RX4 54 "java/lang/IllegalArgumentException" ["java/lang/RuntimeException", "java/lang/Exception"]).filter (fun w => !goodWord w), w ∈ Cond.castable "java/lang/IllegalArgumentException" "java/lang/IllegalArgumentException" :: z_ds := by decide +kernel
theorem ax_X4_54_g : ∀ w ∈ Cond.classLink RX4 50 "java/lang/IllegalArgumentException" :: Cond.initialized "java/lang/IllegalArgumentException" :: vx_atS RX4 54 "java/lang/IllegalArgumentException" ["java/lang/RuntimeException", "java/lang/Exception"], vx_ot w = true := by decide +kernel
theorem ax_X4_71 : ∀ w ∈ (vx_atS RX4 71 "java/lang/IllegalStateException" ["java/lang/RuntimeException", "java/lang/Exception"]).filter goodWord, w ∈ wsL_law := fun w h => List.mem_append_left _ (List.mem_append_left _ (List.mem_append_right _ h))
theorem ax_X4_71_b : ∀ w ∈ (vx_atS RX4 71 "java/lang/IllegalStateException" ["java/lang/RuntimeException", "java/lang/Exception"]).filter (fun w => !goodWord w), w ∈ Cond.castable "java/lang/IllegalStateException" "java/lang/IllegalStateException" :: z_ds := by decide +kernel
theorem ax_X4_71_g : ∀ w ∈ Cond.classLink RX4 67 "java/lang/IllegalStateException" :: Cond.initialized "java/lang/IllegalStateException" :: vx_atS RX4 71 "java/lang/IllegalStateException" ["java/lang/RuntimeException", "java/lang/Exception"], vx_ot w = true := by decide +kernel
theorem ax_X4_182 : ∀ w ∈ (vx_atS RX4 182 "java/lang/IndexOutOfBoundsException" ["java/lang/RuntimeException", "java/lang/Exception"]).filter goodWord, w ∈ wsL_law := fun w h => List.mem_append_left _ (List.mem_append_right _ h)
theorem ax_X4_182_b : ∀ w ∈ (vx_atS RX4 182 "java/lang/IndexOutOfBoundsException" ["java/lang/RuntimeException", "java/lang/Exception"]).filter (fun w => !goodWord w), w ∈ Cond.castable "java/lang/IndexOutOfBoundsException" "java/lang/IndexOutOfBoundsException" :: z_ds := by decide +kernel
theorem ax_X4_182_g : ∀ w ∈ Cond.classLink RX4 178 "java/lang/IndexOutOfBoundsException" :: Cond.initialized "java/lang/IndexOutOfBoundsException" :: vx_atS RX4 182 "java/lang/IndexOutOfBoundsException" ["java/lang/RuntimeException", "java/lang/Exception"], vx_ot w = true := by decide +kernel
theorem ax_X1_50 : ∀ w ∈ (vx_atS RX1 50 "java/lang/IndexOutOfBoundsException" ["java/lang/RuntimeException", "java/lang/Exception"]).filter goodWord, w ∈ wsL_law := fun w h => List.mem_append_right _ h
theorem ax_X1_50_b : ∀ w ∈ (vx_atS RX1 50 "java/lang/IndexOutOfBoundsException" ["java/lang/RuntimeException", "java/lang/Exception"]).filter (fun w => !goodWord w), w ∈ Cond.castable "java/lang/IndexOutOfBoundsException" "java/lang/IndexOutOfBoundsException" :: z_ds := by decide +kernel
theorem ax_X1_50_g : ∀ w ∈ Cond.classLink RX1 46 "java/lang/IndexOutOfBoundsException" :: Cond.initialized "java/lang/IndexOutOfBoundsException" :: vx_atS RX1 50 "java/lang/IndexOutOfBoundsException" ["java/lang/RuntimeException", "java/lang/Exception"], vx_ot w = true := by decide +kernel
