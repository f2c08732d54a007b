/-! what holds at the start (laid by gen_start.py) -/
theorem tb_s0 : Cond.stringRef RX4 115 "there are 8 stalls" ∈ lw_tbl := List.mem_of_getElem? (i := 726) (by decide +kernel)
theorem tb_s1 : Cond.stringRef RX4 121 "a stall is there" ∈ lw_tbl := List.mem_of_getElem? (i := 731) (by decide +kernel)
theorem tb_s2 : Cond.stringRef RX4 180 "column is not 0 to 23" ∈ lw_tbl := List.mem_of_getElem? (i := 377) (by decide +kernel)
theorem tb_s3 : Cond.stringRef RX4 255 "there is no such stall" ∈ lw_tbl := List.mem_of_getElem? (i := 406) (by decide +kernel)
theorem tb_s4 : Cond.stringRef RX4 267 "x or y is not 0 to 23" ∈ lw_tbl := List.mem_of_getElem? (i := 366) (by decide +kernel)
theorem tb_s5 : Cond.stringRef RX4 269 "w or h is not 1 to 24" ∈ lw_tbl := List.mem_of_getElem? (i := 569) (by decide +kernel)
theorem tb_s6 : Cond.stringRef RX4 271 "some cell of it is not in the square" ∈ lw_tbl := List.mem_of_getElem? (i := 575) (by decide +kernel)
theorem tb_s7 : Cond.stringRef RX4 273 "drops is not 1 to 20" ∈ lw_tbl := List.mem_of_getElem? (i := 272) (by decide +kernel)
theorem tb_s8 : Cond.stringRef RX4 275 "there is no such what" ∈ lw_tbl := List.mem_of_getElem? (i := 348) (by decide +kernel)
theorem tb_s9 : Cond.stringRef RX4 52 "level is not 1 to 9" ∈ lw_tbl := List.mem_of_getElem? (i := 570) (by decide +kernel)
theorem tb_s10 : Cond.stringRef RX4 57 "side is not 0 to 3" ∈ lw_tbl := List.mem_of_getElem? (i := 571) (by decide +kernel)
theorem tb_s11 : Cond.stringRef RX4 69 "there are 10 awnings" ∈ lw_tbl := List.mem_of_getElem? (i := 585) (by decide +kernel)
theorem tb_s12 : Cond.stringRef RX1 48 "there is no such awning" ∈ lw_tbl := List.mem_of_getElem? (i := 200) (by decide +kernel)
theorem tb_c0 : Cond.castable RX0 "java/lang/Object" ∈ lw_tbl := List.mem_of_getElem? (i := 788) (by decide +kernel)
theorem tb_c1 : Cond.castable RX3 "java/lang/Object" ∈ lw_tbl := List.mem_of_getElem? (i := 789) (by decide +kernel)
theorem tb_c2 : Cond.castable "java/lang/IllegalArgumentException" "java/lang/IllegalArgumentException" ∈ lw_tbl := List.mem_of_getElem? (i := 265) (by decide +kernel)
theorem tb_c3 : Cond.castable "java/lang/IndexOutOfBoundsException" "java/lang/IndexOutOfBoundsException" ∈ lw_tbl := List.mem_of_getElem? (i := 161) (by decide +kernel)
theorem tb_c4 : Cond.castable "java/lang/IllegalStateException" "java/lang/IllegalStateException" ∈ lw_tbl := List.mem_of_getElem? (i := 578) (by decide +kernel)
theorem tb_n1 : Cond.methodLinkNest RX1 85 yX4_isCell RX4 ∈ lw_tbl := List.mem_of_getElem? (i := 253) (by decide +kernel)
theorem tb_n2 : Cond.methodLinkNest RX2 40 yX4_isCell RX4 ∈ lw_tbl := List.mem_of_getElem? (i := 292) (by decide +kernel)
theorem tb_ao : Cond.arrayOver (.object "java/lang/Object") ∈ lw_tbl := List.mem_of_getElem? (i := 688) (by decide +kernel)
theorem tb_ai : Cond.arrayClass .int ∈ lw_tbl := List.mem_of_getElem? (i := 98) (by decide +kernel)
theorem tb_n3 : Cond.methodLinkNest RL 63 yX5_init RL ∈ lw_tbl := List.mem_of_getElem? (i := 756) (by decide +kernel)
theorem tb_a2 : Cond.arrayOver (.array .int) ∈ lw_tbl := List.mem_of_getElem? (i := 494) (by decide +kernel)
theorem tb_d0 : Cond.declares ⟨"java/lang/RuntimeException", "<init>", "(Ljava/lang/String;)V"⟩ ∈ lw_tbl := List.mem_of_getElem? (i := 163) (by decide +kernel)
theorem tb_d1 : Cond.declares ⟨"java/lang/Exception", "<init>", "(Ljava/lang/String;)V"⟩ ∈ lw_tbl := List.mem_of_getElem? (i := 165) (by decide +kernel)
theorem tb_d2 : Cond.declares ⟨"java/lang/Throwable", "<init>", "(Ljava/lang/String;)V"⟩ ∈ lw_tbl := List.mem_of_getElem? (i := 167) (by decide +kernel)
theorem tb_l0 : Cond.laysStatic "java/util/ArrayList" "DEFAULTCAPACITY_EMPTY_ELEMENTDATA" "[Ljava/lang/Object;" ∈ lw_tbl := List.mem_of_getElem? (i := 69) (by decide +kernel)
theorem tb_l1 : Cond.laysStatic "java/lang/Throwable" "UNASSIGNED_STACK" "[Ljava/lang/StackTraceElement;" ∈ lw_tbl := List.mem_of_getElem? (i := 186) (by decide +kernel)
theorem tb_l2 : Cond.laysStatic "java/lang/Throwable" "SUPPRESSED_SENTINEL" "Ljava/util/List;" ∈ lw_tbl := List.mem_of_getElem? (i := 188) (by decide +kernel)
theorem tb_i0 : Cond.initialized "java/util/ArrayList" ∈ lw_tbl := List.mem_of_getElem? (i := 25) (by decide +kernel)
theorem tb_i1 : Cond.initialized "java/lang/Throwable" ∈ lw_tbl := List.mem_of_getElem? (i := 28) (by decide +kernel)
theorem tb_k0 : Cond.instantiable RJx4a65c 3 ∈ lw_tbl := List.mem_of_getElem? (i := 57) (by decide +kernel)
theorem tb_k1 : Cond.instantiable RX0 8 ∈ lw_tbl := List.mem_of_getElem? (i := 593) (by decide +kernel)
theorem tb_k2 : Cond.instantiable RX1 5 ∈ lw_tbl := List.mem_of_getElem? (i := 51) (by decide +kernel)
theorem tb_k3 : Cond.instantiable RX2 5 ∈ lw_tbl := List.mem_of_getElem? (i := 100) (by decide +kernel)
theorem tb_k4 : Cond.instantiable RX3 3 ∈ lw_tbl := List.mem_of_getElem? (i := 732) (by decide +kernel)
theorem tb_k5 : Cond.instantiable RX4 7 ∈ lw_tbl := List.mem_of_getElem? (i := 43) (by decide +kernel)
theorem tb_k6 : Cond.instantiable RX5 5 ∈ lw_tbl := List.mem_of_getElem? (i := 755) (by decide +kernel)
theorem start_flags {l : Launch} (h : l.flags = flags0) : l.stackTraces = false := by
  have e : l.stackTraces = !(l.flags.contains Jvm.noTraceFlag) := rfl
  rw [e, h]
  decide +kernel
section START
variable {s : State} {b : Nat}
theorem start_arr {ty : FieldType} (h : (Cond.arrayClass ty).before #[Value.ref b] s = true) : ∃ c, ArrOfT s c ty ∧ s.vm.findClass ("[" ++ ty.toString) = some c := by
  obtain ⟨c, k, comp, h1, h2, h3⟩ := Cond.arrayClass_spec h
  exact ⟨c, fun n z => ⟨fun k h => (by cases h), k, h2, comp, h3⟩, h1⟩
theorem start_K (hts : ∀ w ∈ lw_tbl, w.before #[Value.ref b] s = true) : ∃ G : zG, z_K G s := by
  obtain ⟨c0, i0, k0⟩ := u_known (C := RJx4a65c) (T := TJx4a65c) (N := 3) (n := 3) hts inJx4a65c (hts _ tb_k0)
  obtain ⟨c1, i1, k1⟩ := u_known (C := RX0) (T := TX0) (N := 8) (n := 8) hts inX0 (hts _ tb_k1)
  obtain ⟨c2, i2, k2⟩ := u_known (C := RX1) (T := TX1) (N := 5) (n := 5) hts inX1 (hts _ tb_k2)
  obtain ⟨c3, i3, k3⟩ := u_known (C := RX2) (T := TX2) (N := 5) (n := 5) hts inX2 (hts _ tb_k3)
  obtain ⟨c4, i4, k4⟩ := u_known (C := RX3) (T := TX3) (N := 3) (n := 3) hts inX3 (hts _ tb_k4)
  obtain ⟨c5, i5, k5⟩ := u_known (C := RX4) (T := TX4) (N := 7) (n := 7) hts inX4 (hts _ tb_k5)
  obtain ⟨c6, i6, k6⟩ := u_known (C := RX5) (T := TX5) (N := 5) (n := 5) hts inX5 (hts _ tb_k6)
  obtain ⟨a0, f0, g0⟩ := start_arr (hts _ tb_ai)
  obtain ⟨comp, a1, kA, q1, -, q2, q3, q4⟩ := Cond.arrayOver_spec (hts _ tb_ao)
  obtain ⟨comp2, a2, kB, r1, -, r2, r3, r4⟩ := arrayOverA_spec (args := #[Value.ref b]) (first := s) (s := s) (o := none) (idx := []) (hts _ tb_a2)
  refine ⟨((fun k => if k = 0 then c0 else if k = 1 then c1 else if k = 2 then c2 else if k = 3 then c3 else if k = 4 then c4 else if k = 5 then c5 else c6, fun k => if k = 0 then i0 else if k = 1 then i1 else if k = 2 then i2 else if k = 3 then i3 else if k = 4 then i4 else if k = 5 then i5 else i6), fun k => if k = 0 then a0 else if k = 1 then a1 else a2), fun k q hq => ?_, fun k q hq => ?_⟩
  · match k, hq with
    | 0, hq => cases hq; exact k0
    | 1, hq => cases hq; exact k1
    | 2, hq => cases hq; exact k2
    | 3, hq => cases hq; exact k3
    | 4, hq => cases hq; exact k4
    | 5, hq => cases hq; exact k5
    | 6, hq => cases hq; exact k6
    | k + 7, hq => simp [vwCl] at hq
  · match k, hq with
    | 0, hq => cases hq; exact ⟨f0, g0⟩
    | 1, hq => cases hq; exact ⟨fun n z => ⟨fun k h => (by cases h), kA, q2, comp, q3⟩, kA, comp, q2, q3, q1, q4⟩
    | 2, hq => cases hq; exact ⟨fun n z => ⟨fun k h => (by cases h), kB, r2, comp2, r3⟩, r4⟩
    | k + 3, hq => simp [z_tys] at hq
theorem start_str {own tx : String} {k : Nat} (h1 : (Cond.stringRef own k tx).before #[Value.ref b] s = true) (h2 : (Cond.exactly (.string own k) "java/lang/String").before #[Value.ref b] s = true) : ∃ a, vk_R own k tx a s := by
  obtain ⟨a, c, cA, kA, q1, -⟩ := Cond.exactly_spec (args := #[Value.ref b]) (first := s) (o := none) (s := s) (idx := []) (t := .string own k) (cls := "java/lang/String") h2
  exact ⟨a, vk_R.of h1 q1⟩
theorem start_T (hts : ∀ w ∈ lw_tbl, w.before #[Value.ref b] s = true) (hg : ∀ w ∈ flatC (Jvm.Cond.and given_1 narrow_1), w.before #[Value.ref b] s = true) : z_T s := by
  refine ⟨fun w hw => ?_, va_Nw.of rfl (hts _ tb_n1), va_Nw.of rfl (hts _ tb_n2), ⟨va_Nw.of rfl (hts _ tb_n3), over_moved (Vm.Alike.refl s.vm) (hts _ tb_a2)⟩, va_AO.of (hts _ tb_ao), fun q hq => ?_, fun w hw => ?_⟩
  · simp only [z_ws, List.mem_cons, List.not_mem_nil, or_false] at hw
    rcases hw with rfl | rfl | rfl | rfl | rfl
    · exact va_Nw.of rfl (hts _ tb_c0)
    · exact va_Nw.of rfl (hts _ tb_c1)
    · exact va_Nw.of rfl (hts _ tb_c2)
    · exact va_Nw.of rfl (hts _ tb_c3)
    · exact va_Nw.of rfl (hts _ tb_c4)
  · simp only [z_ss, List.mem_cons, List.not_mem_nil, or_false] at hq
    rcases hq with rfl | rfl | rfl | rfl | rfl | rfl | rfl | rfl | rfl | rfl | rfl | rfl | rfl
    · exact start_str (hts _ tb_s0) (hg _ (by decide +kernel))
    · exact start_str (hts _ tb_s1) (hg _ (by decide +kernel))
    · exact start_str (hts _ tb_s2) (hg _ (by decide +kernel))
    · exact start_str (hts _ tb_s3) (hg _ (by decide +kernel))
    · exact start_str (hts _ tb_s4) (hg _ (by decide +kernel))
    · exact start_str (hts _ tb_s5) (hg _ (by decide +kernel))
    · exact start_str (hts _ tb_s6) (hg _ (by decide +kernel))
    · exact start_str (hts _ tb_s7) (hg _ (by decide +kernel))
    · exact start_str (hts _ tb_s8) (hg _ (by decide +kernel))
    · exact start_str (hts _ tb_s9) (hg _ (by decide +kernel))
    · exact start_str (hts _ tb_s10) (hg _ (by decide +kernel))
    · exact start_str (hts _ tb_s11) (hg _ (by decide +kernel))
    · exact start_str (hts _ tb_s12) (hg _ (by decide +kernel))
  · simp only [z_ds, List.mem_cons, List.not_mem_nil, or_false] at hw
    rcases hw with rfl | rfl | rfl
    · exact va_Nw.of rfl (hts _ tb_d0)
    · exact va_Nw.of rfl (hts _ tb_d1)
    · exact va_Nw.of rfl (hts _ tb_d2)
theorem start_Z (hts : ∀ w ∈ lw_tbl, w.before #[Value.ref b] s = true) (hg : ∀ w ∈ flatC (Jvm.Cond.and given_1 narrow_1), w.before #[Value.ref b] s = true) : ∃ t0, z_Z s.heap.size t0 s s.heap ∧ va_T (.object "java/lang/Object") t0 0 (fun _ => .null) (fun z : Nat => s.heap.size ≤ z) s s.heap := by
  have hA : ∀ a : Nat, a < s.heap.size → ¬ (fun z : Nat => s.heap.size ≤ z) a := fun a h => Nat.not_le.mpr h
  obtain ⟨t0, h1, h2⟩ := va_Tof (tm := .static "java/util/ArrayList" "DEFAULTCAPACITY_EMPTY_ELEMENTDATA" "[Ljava/lang/Object;") (ty := .object "java/lang/Object") (N := 0) (f := fun _ => .null) (A := fun z : Nat => s.heap.size ≤ z) (by decide) (hg _ (by decide +kernel)) (va_eqt (hg _ (by decide +kernel))) (fun j hj => absurd hj (by omega)) hA
  exact ⟨t0, ⟨va_Zof (hts _ tb_l0) (hts _ tb_i0) h1 hA, vx_Zqof (hts _ tb_l1) (hts _ tb_i1) (hg _ (by decide +kernel)) hA, vx_Zqof (hts _ tb_l2) (hts _ tb_i1) (hg _ (by decide +kernel)) hA⟩, h2⟩
end START
