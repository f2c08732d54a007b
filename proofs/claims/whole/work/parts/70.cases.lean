/-! the law's calls, one by one (laid by gen_law.py) -/
def LCx (p : Program) (l : Launch) (s : State) (m : MethodId) (meth : Method) (c : Code) (G : zG) (lo t0 b L : Nat) (xs : Nat → Int32) : Prop := z_Cx p l s m #[Value.ref b] meth c cL_law 9 RL ret G lo t0 ∧ z_N s ∧ va_X b L xs s s.heap ∧ b < s.heap.size ∧ lo = s.heap.size ∧ L ≤ 3584 ∧ l.stackTraces = false
abbrev LW (p : Program) (l : Launch) (e : Env) (s : State) (m : MethodId) (below : List Frame) (meth : Method) (c : Code) (G : zG) (lo b : Nat) (d : Drawn) (cells slots pc : Nat) (lv : List (Nat × Value)) (st : List Value) (h : zH) (nx : Nat) : Prop := z_R p l e room_1 (s.setDrawn d) m #[Value.ref b] below meth c G lo 9 cells slots (lw_Z below #[Value.ref b] s) pc lv st h nx
abbrev lv5 (lo b i : Nat) : List (Nat × Value) := [(4, .int (zi i)), (3, .ref (lo + 18)), (2, .ref (lo + 11)), (1, .ref lo), (0, .ref b)]
section CASES
variable {p : Program} {l : Launch} {e : Env} {s : State} {m : MethodId} {below : List Frame} {meth : Method} {c : Code} {G : zG} {lo t0 b L i cells slots : Nat} {xs : Nat → Int32} {d0 : Drawn} {h : zH} {nx : Nat}
/-- what a call owes: it goes on at the loop's end -/
def LK (p : Program) (l : Launch) (e : Env) (s : State) (m : MethodId) (below : List Frame) (meth : Method) (c : Code) (G : zG) (lo t0 b i cells slots : Nat) : Prop := ∀ (d1 : Drawn) (h1 : zH) (n1 : Nat), s.drawn.sameBut d1 lw_cs → LI t0 lo h1 n1 → LW p l e s m below meth c G lo b d1 (cells + 100) (slots + 1000) 1189 (lv5 lo b i) [] h1 n1
set_option maxHeartbeats 4000000 in
theorem law_hang (X : LCx p l s m meth c G lo t0 b L xs) (hd0 : s.drawn.sameBut d0 lw_cs) (I : LI t0 lo h nx) (hi : i + 7 ≤ L) (hc : cells + 100 ≤ room_1.cells) (hs : slots + 1000 ≤ room_1.slots) (K : LK p l e s m below meth c G lo t0 b i cells slots) : LW p l e s m below meth c G lo b d0 cells slots 124 (lv5 lo b i) [] h nx := by
  obtain ⟨C0, hN0, hX0, hbl, hlo, hL, hl⟩ := X
  have C := C0.dr d0
  have hN : z_N (s.setDrawn d0) := z_N.moved (u := s) (U := s.setDrawn d0) (Vm.Alike.refl s.vm) hN0
  have hX : va_X b L xs (s.setDrawn d0) (s.setDrawn d0).heap := va_X.moved (u := s) (U := s.setDrawn d0) (Vm.Alike.refl s.vm) hX0
  have hbl2 : b < (s.setDrawn d0).heap.size := hbl
  have hb : b < lo := by omega
  obtain ⟨ck4, ck6, h19⟩ := I.ck
  obtain ⟨o, hM, hE, hO, both⟩ := both_hang I (xs (i + 1)) (xs (i + 2)) (xs (i + 3)) (xs (i + 4)) (xs (i + 5)) (xs (i + 6))
  refine z_aload_n (k := 3) (pc := 124) C dL_law_124 rfl ?_
  refine z_arg (pc := 125) (q0 := 4) (q4 := 0) (i := i) (j := 1) C hX hbl2 hb hL dL_law_125 dL_law_126 dL_law_128 dL_law_129 dL_law_130 rfl rfl rfl (by omega) ?_
  refine z_arg (pc := 131) (q0 := 4) (q4 := 0) (i := i) (j := 2) C hX hbl2 hb hL dL_law_131 dL_law_132 dL_law_134 dL_law_135 dL_law_136 rfl rfl rfl (by omega) ?_
  refine z_arg (pc := 137) (q0 := 4) (q4 := 0) (i := i) (j := 3) C hX hbl2 hb hL dL_law_137 dL_law_138 dL_law_140 dL_law_141 dL_law_142 rfl rfl rfl (by omega) ?_
  refine z_arg (pc := 143) (q0 := 4) (q4 := 0) (i := i) (j := 4) C hX hbl2 hb hL dL_law_143 dL_law_144 dL_law_146 dL_law_147 dL_law_148 rfl rfl rfl (by omega) ?_
  refine z_arg (pc := 149) (q0 := 4) (q4 := 0) (i := i) (j := 5) C hX hbl2 hb hL dL_law_149 dL_law_150 dL_law_152 dL_law_153 dL_law_154 rfl rfl rfl (by omega) ?_
  refine z_arg6 (pc := 155) (q0 := 4) (q4 := 0) (i := i) C hX hbl2 hb hL dL_law_155 dL_law_156 dL_law_158 dL_law_160 dL_law_161 rfl rfl (by omega) ?_
  refine z_aload_n (k := 1) (pc := 162) C dL_law_162 rfl ?_
  refine z_callH (pc := 163) (As := [.ref lo, .int (xs (i + 1)), .int (xs (i + 2)), .int (xs (i + 3)), .int (xs (i + 4)), .int (xs (i + 5)), .int (xs (i + 6)), .ref (lo + 18)]) (rest := []) (n := 8) (fr := 8) (lc := 156) (mc := 4) (ms := 40) C hN (h_hang l hl G lo t0 h nx lo (xs (i + 1)) (xs (i + 2)) (xs (i + 3)) (xs (i + 4)) (xs (i + 5)) (xs (i + 6)) (lo + 18) o hM ck4 hE hO) q_75 q_76 q_77 q_78 ⟨by decide +kernel, by decide +kernel, by decide +kernel⟩ ⟨Nat.le_of_ble_eq_true rfl, Nat.le_of_ble_eq_true rfl⟩ rfl (Nat.le_of_ble_eq_true rfl) dL_law_163 ⟨by omega, by omega⟩ _ rfl (fun v h1 n1 hR => ?_)
  obtain ⟨r, h5, n5, hM5, ck1, hth, hval, L5⟩ := both v h1 n1 hR
  refine z_istore (lv' := (5, .int v) :: lv5 lo b i) (pc := 166) C dL_law_166 (by decide) rfl ?_
  refine z_aload_n (k := 3) (pc := 168) C dL_law_168 rfl ?_
  refine z_arg (pc := 169) (q0 := 5) (q4 := 1) (i := i) (j := 1) C hX hbl2 hb hL dL_law_169 dL_law_170 dL_law_172 dL_law_173 dL_law_174 rfl rfl rfl (by omega) ?_
  refine z_arg (pc := 175) (q0 := 5) (q4 := 1) (i := i) (j := 2) C hX hbl2 hb hL dL_law_175 dL_law_176 dL_law_178 dL_law_179 dL_law_180 rfl rfl rfl (by omega) ?_
  refine z_arg (pc := 181) (q0 := 5) (q4 := 1) (i := i) (j := 3) C hX hbl2 hb hL dL_law_181 dL_law_182 dL_law_184 dL_law_185 dL_law_186 rfl rfl rfl (by omega) ?_
  refine z_arg (pc := 187) (q0 := 5) (q4 := 1) (i := i) (j := 4) C hX hbl2 hb hL dL_law_187 dL_law_188 dL_law_190 dL_law_191 dL_law_192 rfl rfl rfl (by omega) ?_
  refine z_arg (pc := 193) (q0 := 5) (q4 := 1) (i := i) (j := 5) C hX hbl2 hb hL dL_law_193 dL_law_194 dL_law_196 dL_law_197 dL_law_198 rfl rfl rfl (by omega) ?_
  refine z_arg6 (pc := 199) (q0 := 5) (q4 := 1) (i := i) C hX hbl2 hb hL dL_law_199 dL_law_200 dL_law_202 dL_law_204 dL_law_205 rfl rfl (by omega) ?_
  refine z_goN (kc := cells + 4 + 1) (ks := slots + 40 + 8) ([.int r]) (z_callV (pc := 206) (As := [.int (xs (i + 1)), .int (xs (i + 2)), .int (xs (i + 3)), .int (xs (i + 4)), .int (xs (i + 5)), .int (xs (i + 6))]) (rest := []) (n := 6) (ci := 6) C (c_X5_hang l hl G lo t0 h1 n1 (lo + 11) (xs (i + 1)) (xs (i + 2)) (xs (i + 3)) (xs (i + 4)) (xs (i + 5)) (xs (i + 6)) _ hM5) ck1 rfl q_213 q_214 q_215 q_5 q_216 ⟨rfl, by decide +kernel, by decide +kernel, by decide +kernel⟩ ⟨Nat.le_of_ble_eq_true rfl, Nat.le_of_ble_eq_true rfl⟩ rfl (Nat.le_of_ble_eq_true rfl) dL_law_206 ⟨by omega, by omega⟩) rfl (Nat.le_refl _) (Nat.le_refl _) ?_
  refine z_istore (lv' := (6, .int r) :: (5, .int v) :: lv5 lo b i) (pc := 209) C dL_law_209 (by decide) rfl ?_
  refine z_aload_n (k := 4) (pc := 211) C dL_law_211 rfl ?_
  refine z_goN (kc := cells + 4 + 1) (ks := slots + 40 + 8) ([.int v]) (z_callV (pc := 212) (As := []) (rest := []) (n := 0) (ci := 6) C (c_X5_thrown l hl G lo t0 h5 n5 (lo + 11) v (by simp only [M_X5_thrown, hth, Option.bind_some])) L5.ck.2.1 rfl q_230 q_231 q_232 q_5 q_233 ⟨rfl, by decide +kernel, by decide +kernel, by decide +kernel⟩ ⟨Nat.le_of_ble_eq_true rfl, Nat.le_of_ble_eq_true rfl⟩ rfl (Nat.le_of_ble_eq_true rfl) dL_law_212 ⟨by omega, by omega⟩) rfl (Nat.le_refl _) (Nat.le_refl _) ?_
  refine z_iload (k := 1) (pc := 215) C dL_law_215 rfl ?_
  refine z_icmp_eq_t (pc := 217) (tgt := 222) C dL_law_217 (by decide) rfl ?_
  refine z_iload (k := 1) (pc := 222) C dL_law_222 rfl ?_
  have fin : LW p l e s m below meth c G lo b d0 (cells + 4 + 1) (slots + 40 + 8) 239 ((6, .int r) :: (5, .int v) :: lv5 lo b i) [] h5 n5 := by
    refine z_goto (pc := 239) (tgt := 1189) C dL_law_239 (by decide) ?_
    refine z_wide (kc := cells + 100) (ks := slots + 1000) (by omega) (by omega) ?_
    exact z_sub [2, 3, 4, 5, 6] rfl (K d0 h5 n5 hd0 L5)
  by_cases hv : v = 0
  · obtain ⟨f, hf, hf0⟩ := hval hv
    refine z_if_ne_f (pc := 224) (tgt := 239) C dL_law_224 (by decide) hv ?_
    refine z_aload_n (k := 3) (pc := 227) C dL_law_227 rfl ?_
    refine z_iconst (v := 0) (pc := 228) C dL_law_228 (by decide) ?_
    refine z_laload (pc := 229) C hf vin_0 dL_law_229 ?_
    refine z_iload (k := 0) (pc := 230) C dL_law_230 rfl ?_
    refine z_i2l (pc := 232) C dL_law_232 ?_
    refine z_lcmp (pc := 233) C dL_law_233 ?_
    exact z_if_eq_t (pc := 234) (tgt := 239) C dL_law_234 (by decide) ((congrArg (fun z => lg_cmp z r.toInt64) hf0).trans (lgc_self _)) fin
  · exact z_if_ne_t (pc := 224) (tgt := 239) C dL_law_224 (by decide) hv fin
set_option maxHeartbeats 4000000 in
theorem law_roll (X : LCx p l s m meth c G lo t0 b L xs) (hd0 : s.drawn.sameBut d0 lw_cs) (I : LI t0 lo h nx) (hi : i + 7 ≤ L) (hc : cells + 100 ≤ room_1.cells) (hs : slots + 1000 ≤ room_1.slots) (K : LK p l e s m below meth c G lo t0 b i cells slots) : LW p l e s m below meth c G lo b d0 cells slots 242 (lv5 lo b i) [] h nx := by
  obtain ⟨C0, hN0, hX0, hbl, hlo, hL, hl⟩ := X
  have C := C0.dr d0
  have hN : z_N (s.setDrawn d0) := z_N.moved (u := s) (U := s.setDrawn d0) (Vm.Alike.refl s.vm) hN0
  have hX : va_X b L xs (s.setDrawn d0) (s.setDrawn d0).heap := va_X.moved (u := s) (U := s.setDrawn d0) (Vm.Alike.refl s.vm) hX0
  have hbl2 : b < (s.setDrawn d0).heap.size := hbl
  have hb : b < lo := by omega
  obtain ⟨ck4, ck6, h19⟩ := I.ck
  obtain ⟨o, hM, hE, hO, both⟩ := both_roll I (xs (i + 1))
  refine z_aload_n (k := 3) (pc := 242) C dL_law_242 rfl ?_
  refine z_arg (pc := 243) (q0 := 4) (q4 := 0) (i := i) (j := 1) C hX hbl2 hb hL dL_law_243 dL_law_244 dL_law_246 dL_law_247 dL_law_248 rfl rfl rfl (by omega) ?_
  refine z_aload_n (k := 1) (pc := 249) C dL_law_249 rfl ?_
  refine z_callH (pc := 250) (As := [.ref lo, .int (xs (i + 1)), .ref (lo + 18)]) (rest := []) (n := 3) (fr := 8) (lc := 133) (mc := 4) (ms := 40) C hN (h_roll l hl G lo t0 h nx lo (xs (i + 1)) (lo + 18) o hM ck4 hE hO) q_234 q_235 q_77 q_236 ⟨by decide +kernel, by decide +kernel, by decide +kernel⟩ ⟨Nat.le_of_ble_eq_true rfl, Nat.le_of_ble_eq_true rfl⟩ rfl (Nat.le_of_ble_eq_true rfl) dL_law_250 ⟨by omega, by omega⟩ _ rfl (fun v h1 n1 hR => ?_)
  obtain ⟨r, h5, hM5, ck1, hth, hval, L5⟩ := both v h1 n1 hR
  refine z_istore (lv' := (5, .int v) :: lv5 lo b i) (pc := 253) C dL_law_253 (by decide) rfl ?_
  refine z_aload_n (k := 3) (pc := 255) C dL_law_255 rfl ?_
  refine z_arg (pc := 256) (q0 := 5) (q4 := 1) (i := i) (j := 1) C hX hbl2 hb hL dL_law_256 dL_law_257 dL_law_259 dL_law_260 dL_law_261 rfl rfl rfl (by omega) ?_
  refine z_goN (kc := cells + 4 + 0) (ks := slots + 40 + 0) ([.int r]) (z_callV (pc := 262) (As := [.int (xs (i + 1))]) (rest := []) (n := 1) (ci := 6) C (c_X5_roll l hl G lo t0 h1 n1 (lo + 11) (xs (i + 1)) _ hM5) ck1 rfl q_248 q_249 q_250 q_5 q_251 ⟨rfl, by decide +kernel, by decide +kernel, by decide +kernel⟩ ⟨Nat.le_of_ble_eq_true rfl, Nat.le_of_ble_eq_true rfl⟩ rfl (Nat.le_of_ble_eq_true rfl) dL_law_262 ⟨by omega, by omega⟩) rfl (Nat.le_refl _) (Nat.le_refl _) ?_
  refine z_istore (lv' := (6, .int r) :: (5, .int v) :: lv5 lo b i) (pc := 265) C dL_law_265 (by decide) rfl ?_
  refine z_aload_n (k := 4) (pc := 267) C dL_law_267 rfl ?_
  refine z_goN (kc := cells + 4 + 0) (ks := slots + 40 + 0) ([.int v]) (z_callV (pc := 268) (As := []) (rest := []) (n := 0) (ci := 6) C (c_X5_thrown l hl G lo t0 h5 n1 (lo + 11) v (by simp only [M_X5_thrown, hth, Option.bind_some])) L5.ck.2.1 rfl q_230 q_231 q_232 q_5 q_233 ⟨rfl, by decide +kernel, by decide +kernel, by decide +kernel⟩ ⟨Nat.le_of_ble_eq_true rfl, Nat.le_of_ble_eq_true rfl⟩ rfl (Nat.le_of_ble_eq_true rfl) dL_law_268 ⟨by omega, by omega⟩) rfl (Nat.le_refl _) (Nat.le_refl _) ?_
  refine z_iload (k := 1) (pc := 271) C dL_law_271 rfl ?_
  refine z_icmp_eq_t (pc := 273) (tgt := 278) C dL_law_273 (by decide) rfl ?_
  refine z_iload (k := 1) (pc := 278) C dL_law_278 rfl ?_
  have fin : LW p l e s m below meth c G lo b d0 (cells + 4 + 0) (slots + 40 + 0) 302 ((6, .int r) :: (5, .int v) :: lv5 lo b i) [] h5 n1 := by
    refine z_goto (pc := 302) (tgt := 1189) C dL_law_302 (by decide) ?_
    refine z_wide (kc := cells + 100) (ks := slots + 1000) (by omega) (by omega) ?_
    exact z_sub [2, 3, 4, 5, 6] rfl (K d0 h5 n1 hd0 L5)
  by_cases hv : v = 0
  · obtain ⟨f, hf, hf0⟩ := hval hv
    refine z_if_ne_f (pc := 280) (tgt := 302) C dL_law_280 (by decide) hv ?_
    refine z_aload_n (k := 3) (pc := 283) C dL_law_283 rfl ?_
    refine z_iconst (v := 0) (pc := 284) C dL_law_284 (by decide) ?_
    refine z_laload (pc := 285) C hf vin_0 dL_law_285 ?_
    refine z_iload (k := 0) (pc := 286) C dL_law_286 rfl ?_
    by_cases hr : r = 0
    · refine z_if_eq_t (pc := 288) (tgt := 295) C dL_law_288 (by decide) hr ?_
      refine z_lconst (V := 0) (pc := 295) C dL_law_295 (by decide) ?_
      refine z_lcmp (pc := 296) C dL_law_296 ?_
      exact z_if_eq_t (pc := 297) (tgt := 302) C dL_law_297 (by decide) ((congrArg (fun z => lg_cmp z 0) (hf0.trans (if_pos hr))).trans (lgc_self _)) fin
    · refine z_if_eq_f (pc := 288) (tgt := 295) C dL_law_288 (by decide) hr ?_
      refine z_lconst (V := 1) (pc := 291) C dL_law_291 (by decide) ?_
      refine z_goto (pc := 292) (tgt := 296) C dL_law_292 (by decide) ?_
      refine z_lcmp (pc := 296) C dL_law_296 ?_
      exact z_if_eq_t (pc := 297) (tgt := 302) C dL_law_297 (by decide) ((congrArg (fun z => lg_cmp z 1) (hf0.trans (if_neg hr))).trans (lgc_self _)) fin
  · exact z_if_ne_t (pc := 280) (tgt := 302) C dL_law_280 (by decide) hv fin
set_option maxHeartbeats 4000000 in
theorem law_move (X : LCx p l s m meth c G lo t0 b L xs) (hd0 : s.drawn.sameBut d0 lw_cs) (I : LI t0 lo h nx) (hi : i + 7 ≤ L) (hc : cells + 100 ≤ room_1.cells) (hs : slots + 1000 ≤ room_1.slots) (K : LK p l e s m below meth c G lo t0 b i cells slots) : LW p l e s m below meth c G lo b d0 cells slots 305 (lv5 lo b i) [] h nx := by
  obtain ⟨C0, hN0, hX0, hbl, hlo, hL, hl⟩ := X
  have C := C0.dr d0
  have hN : z_N (s.setDrawn d0) := z_N.moved (u := s) (U := s.setDrawn d0) (Vm.Alike.refl s.vm) hN0
  have hX : va_X b L xs (s.setDrawn d0) (s.setDrawn d0).heap := va_X.moved (u := s) (U := s.setDrawn d0) (Vm.Alike.refl s.vm) hX0
  have hbl2 : b < (s.setDrawn d0).heap.size := hbl
  have hb : b < lo := by omega
  obtain ⟨ck4, ck6, h19⟩ := I.ck
  obtain ⟨o, hM, hE, hO, both⟩ := both_move I (xs (i + 1)) (xs (i + 2)) (xs (i + 3))
  refine z_aload_n (k := 3) (pc := 305) C dL_law_305 rfl ?_
  refine z_arg (pc := 306) (q0 := 4) (q4 := 0) (i := i) (j := 1) C hX hbl2 hb hL dL_law_306 dL_law_307 dL_law_309 dL_law_310 dL_law_311 rfl rfl rfl (by omega) ?_
  refine z_arg (pc := 312) (q0 := 4) (q4 := 0) (i := i) (j := 2) C hX hbl2 hb hL dL_law_312 dL_law_313 dL_law_315 dL_law_316 dL_law_317 rfl rfl rfl (by omega) ?_
  refine z_arg (pc := 318) (q0 := 4) (q4 := 0) (i := i) (j := 3) C hX hbl2 hb hL dL_law_318 dL_law_319 dL_law_321 dL_law_322 dL_law_323 rfl rfl rfl (by omega) ?_
  refine z_aload_n (k := 1) (pc := 324) C dL_law_324 rfl ?_
  refine z_callH (pc := 325) (As := [.ref lo, .int (xs (i + 1)), .int (xs (i + 2)), .int (xs (i + 3)), .ref (lo + 18)]) (rest := []) (n := 5) (fr := 8) (lc := 137) (mc := 4) (ms := 40) C hN (h_move l hl G lo t0 h nx lo (xs (i + 1)) (xs (i + 2)) (xs (i + 3)) (lo + 18) o hM ck4 hE hO) q_264 q_265 q_77 q_266 ⟨by decide +kernel, by decide +kernel, by decide +kernel⟩ ⟨Nat.le_of_ble_eq_true rfl, Nat.le_of_ble_eq_true rfl⟩ rfl (Nat.le_of_ble_eq_true rfl) dL_law_325 ⟨by omega, by omega⟩ _ rfl (fun v h1 n1 hR => ?_)
  obtain ⟨r, h5, n5, hM5, ck1, hth, hval, L5⟩ := both v h1 n1 hR
  refine z_istore (lv' := (5, .int v) :: lv5 lo b i) (pc := 328) C dL_law_328 (by decide) rfl ?_
  refine z_aload_n (k := 3) (pc := 330) C dL_law_330 rfl ?_
  refine z_arg (pc := 331) (q0 := 5) (q4 := 1) (i := i) (j := 1) C hX hbl2 hb hL dL_law_331 dL_law_332 dL_law_334 dL_law_335 dL_law_336 rfl rfl rfl (by omega) ?_
  refine z_arg (pc := 337) (q0 := 5) (q4 := 1) (i := i) (j := 2) C hX hbl2 hb hL dL_law_337 dL_law_338 dL_law_340 dL_law_341 dL_law_342 rfl rfl rfl (by omega) ?_
  refine z_arg (pc := 343) (q0 := 5) (q4 := 1) (i := i) (j := 3) C hX hbl2 hb hL dL_law_343 dL_law_344 dL_law_346 dL_law_347 dL_law_348 rfl rfl rfl (by omega) ?_
  refine z_goN (kc := cells + 4 + 2) (ks := slots + 40 + 52) ([.int r]) (z_callV (pc := 349) (As := [.int (xs (i + 1)), .int (xs (i + 2)), .int (xs (i + 3))]) (rest := []) (n := 3) (ci := 6) C (c_X5_move l hl G lo t0 h1 n1 (lo + 11) (xs (i + 1)) (xs (i + 2)) (xs (i + 3)) _ hM5) ck1 rfl q_283 q_284 q_285 q_5 q_286 ⟨rfl, by decide +kernel, by decide +kernel, by decide +kernel⟩ ⟨Nat.le_of_ble_eq_true rfl, Nat.le_of_ble_eq_true rfl⟩ rfl (Nat.le_of_ble_eq_true rfl) dL_law_349 ⟨by omega, by omega⟩) rfl (Nat.le_refl _) (Nat.le_refl _) ?_
  refine z_istore (lv' := (6, .int r) :: (5, .int v) :: lv5 lo b i) (pc := 352) C dL_law_352 (by decide) rfl ?_
  refine z_aload_n (k := 4) (pc := 354) C dL_law_354 rfl ?_
  refine z_goN (kc := cells + 4 + 2) (ks := slots + 40 + 52) ([.int v]) (z_callV (pc := 355) (As := []) (rest := []) (n := 0) (ci := 6) C (c_X5_thrown l hl G lo t0 h5 n5 (lo + 11) v (by simp only [M_X5_thrown, hth, Option.bind_some])) L5.ck.2.1 rfl q_230 q_231 q_232 q_5 q_233 ⟨rfl, by decide +kernel, by decide +kernel, by decide +kernel⟩ ⟨Nat.le_of_ble_eq_true rfl, Nat.le_of_ble_eq_true rfl⟩ rfl (Nat.le_of_ble_eq_true rfl) dL_law_355 ⟨by omega, by omega⟩) rfl (Nat.le_refl _) (Nat.le_refl _) ?_
  refine z_iload (k := 1) (pc := 358) C dL_law_358 rfl ?_
  refine z_icmp_eq_t (pc := 360) (tgt := 365) C dL_law_360 (by decide) rfl ?_
  refine z_iload (k := 1) (pc := 365) C dL_law_365 rfl ?_
  have fin : LW p l e s m below meth c G lo b d0 (cells + 4 + 2) (slots + 40 + 52) 382 ((6, .int r) :: (5, .int v) :: lv5 lo b i) [] h5 n5 := by
    refine z_goto (pc := 382) (tgt := 1189) C dL_law_382 (by decide) ?_
    refine z_wide (kc := cells + 100) (ks := slots + 1000) (by omega) (by omega) ?_
    exact z_sub [2, 3, 4, 5, 6] rfl (K d0 h5 n5 hd0 L5)
  by_cases hv : v = 0
  · obtain ⟨f, hf, hf0⟩ := hval hv
    refine z_if_ne_f (pc := 367) (tgt := 382) C dL_law_367 (by decide) hv ?_
    refine z_aload_n (k := 3) (pc := 370) C dL_law_370 rfl ?_
    refine z_iconst (v := 0) (pc := 371) C dL_law_371 (by decide) ?_
    refine z_laload (pc := 372) C hf vin_0 dL_law_372 ?_
    refine z_iload (k := 0) (pc := 373) C dL_law_373 rfl ?_
    refine z_i2l (pc := 375) C dL_law_375 ?_
    refine z_lcmp (pc := 376) C dL_law_376 ?_
    exact z_if_eq_t (pc := 377) (tgt := 382) C dL_law_377 (by decide) ((congrArg (fun z => lg_cmp z r.toInt64) hf0).trans (lgc_self _)) fin
  · exact z_if_ne_t (pc := 367) (tgt := 382) C dL_law_367 (by decide) hv fin
set_option maxHeartbeats 4000000 in
theorem law_take (X : LCx p l s m meth c G lo t0 b L xs) (hd0 : s.drawn.sameBut d0 lw_cs) (I : LI t0 lo h nx) (hi : i + 7 ≤ L) (hc : cells + 100 ≤ room_1.cells) (hs : slots + 1000 ≤ room_1.slots) (K : LK p l e s m below meth c G lo t0 b i cells slots) : LW p l e s m below meth c G lo b d0 cells slots 385 (lv5 lo b i) [] h nx := by
  obtain ⟨C0, hN0, hX0, hbl, hlo, hL, hl⟩ := X
  have C := C0.dr d0
  have hN : z_N (s.setDrawn d0) := z_N.moved (u := s) (U := s.setDrawn d0) (Vm.Alike.refl s.vm) hN0
  have hX : va_X b L xs (s.setDrawn d0) (s.setDrawn d0).heap := va_X.moved (u := s) (U := s.setDrawn d0) (Vm.Alike.refl s.vm) hX0
  have hbl2 : b < (s.setDrawn d0).heap.size := hbl
  have hb : b < lo := by omega
  obtain ⟨ck4, ck6, h19⟩ := I.ck
  obtain ⟨o, hM, hE, hO, both⟩ := both_take I (xs (i + 1))
  refine z_aload_n (k := 3) (pc := 385) C dL_law_385 rfl ?_
  refine z_arg (pc := 386) (q0 := 4) (q4 := 0) (i := i) (j := 1) C hX hbl2 hb hL dL_law_386 dL_law_387 dL_law_389 dL_law_390 dL_law_391 rfl rfl rfl (by omega) ?_
  refine z_aload_n (k := 1) (pc := 392) C dL_law_392 rfl ?_
  refine z_callH (pc := 393) (As := [.ref lo, .int (xs (i + 1)), .ref (lo + 18)]) (rest := []) (n := 3) (fr := 8) (lc := 148) (mc := 4) (ms := 40) C hN (h_take l hl G lo t0 h nx lo (xs (i + 1)) (lo + 18) o hM ck4 hE hO) q_347 q_348 q_77 q_349 ⟨by decide +kernel, by decide +kernel, by decide +kernel⟩ ⟨Nat.le_of_ble_eq_true rfl, Nat.le_of_ble_eq_true rfl⟩ rfl (Nat.le_of_ble_eq_true rfl) dL_law_393 ⟨by omega, by omega⟩ _ rfl (fun v h1 n1 hR => ?_)
  obtain ⟨r, h5, hM5, ck1, hth, hval, L5⟩ := both v h1 n1 hR
  refine z_istore (lv' := (5, .int v) :: lv5 lo b i) (pc := 396) C dL_law_396 (by decide) rfl ?_
  refine z_aload_n (k := 3) (pc := 398) C dL_law_398 rfl ?_
  refine z_arg (pc := 399) (q0 := 5) (q4 := 1) (i := i) (j := 1) C hX hbl2 hb hL dL_law_399 dL_law_400 dL_law_402 dL_law_403 dL_law_404 rfl rfl rfl (by omega) ?_
  refine z_goN (kc := cells + 4 + 0) (ks := slots + 40 + 0) ([.int r]) (z_callV (pc := 405) (As := [.int (xs (i + 1))]) (rest := []) (n := 1) (ci := 6) C (c_X5_take l hl G lo t0 h1 n1 (lo + 11) (xs (i + 1)) _ hM5) ck1 rfl q_367 q_368 q_369 q_5 q_370 ⟨rfl, by decide +kernel, by decide +kernel, by decide +kernel⟩ ⟨Nat.le_of_ble_eq_true rfl, Nat.le_of_ble_eq_true rfl⟩ rfl (Nat.le_of_ble_eq_true rfl) dL_law_405 ⟨by omega, by omega⟩) rfl (Nat.le_refl _) (Nat.le_refl _) ?_
  refine z_istore (lv' := (6, .int r) :: (5, .int v) :: lv5 lo b i) (pc := 408) C dL_law_408 (by decide) rfl ?_
  refine z_aload_n (k := 4) (pc := 410) C dL_law_410 rfl ?_
  refine z_goN (kc := cells + 4 + 0) (ks := slots + 40 + 0) ([.int v]) (z_callV (pc := 411) (As := []) (rest := []) (n := 0) (ci := 6) C (c_X5_thrown l hl G lo t0 h5 n1 (lo + 11) v (by simp only [M_X5_thrown, hth, Option.bind_some])) L5.ck.2.1 rfl q_230 q_231 q_232 q_5 q_233 ⟨rfl, by decide +kernel, by decide +kernel, by decide +kernel⟩ ⟨Nat.le_of_ble_eq_true rfl, Nat.le_of_ble_eq_true rfl⟩ rfl (Nat.le_of_ble_eq_true rfl) dL_law_411 ⟨by omega, by omega⟩) rfl (Nat.le_refl _) (Nat.le_refl _) ?_
  refine z_iload (k := 1) (pc := 414) C dL_law_414 rfl ?_
  refine z_icmp_eq_t (pc := 416) (tgt := 421) C dL_law_416 (by decide) rfl ?_
  refine z_iload (k := 1) (pc := 421) C dL_law_421 rfl ?_
  have fin : LW p l e s m below meth c G lo b d0 (cells + 4 + 0) (slots + 40 + 0) 438 ((6, .int r) :: (5, .int v) :: lv5 lo b i) [] h5 n1 := by
    refine z_goto (pc := 438) (tgt := 1189) C dL_law_438 (by decide) ?_
    refine z_wide (kc := cells + 100) (ks := slots + 1000) (by omega) (by omega) ?_
    exact z_sub [2, 3, 4, 5, 6] rfl (K d0 h5 n1 hd0 L5)
  by_cases hv : v = 0
  · obtain ⟨f, hf, hf0⟩ := hval hv
    refine z_if_ne_f (pc := 423) (tgt := 438) C dL_law_423 (by decide) hv ?_
    refine z_aload_n (k := 3) (pc := 426) C dL_law_426 rfl ?_
    refine z_iconst (v := 0) (pc := 427) C dL_law_427 (by decide) ?_
    refine z_laload (pc := 428) C hf vin_0 dL_law_428 ?_
    refine z_iload (k := 0) (pc := 429) C dL_law_429 rfl ?_
    refine z_i2l (pc := 431) C dL_law_431 ?_
    refine z_lcmp (pc := 432) C dL_law_432 ?_
    exact z_if_eq_t (pc := 433) (tgt := 438) C dL_law_433 (by decide) ((congrArg (fun z => lg_cmp z r.toInt64) hf0).trans (lgc_self _)) fin
  · exact z_if_ne_t (pc := 423) (tgt := 438) C dL_law_423 (by decide) hv fin
set_option maxHeartbeats 4000000 in
theorem law_stall (X : LCx p l s m meth c G lo t0 b L xs) (hd0 : s.drawn.sameBut d0 lw_cs) (I : LI t0 lo h nx) (hi : i + 7 ≤ L) (hc : cells + 100 ≤ room_1.cells) (hs : slots + 1000 ≤ room_1.slots) (K : LK p l e s m below meth c G lo t0 b i cells slots) : LW p l e s m below meth c G lo b d0 cells slots 441 (lv5 lo b i) [] h nx := by
  obtain ⟨C0, hN0, hX0, hbl, hlo, hL, hl⟩ := X
  have C := C0.dr d0
  have hN : z_N (s.setDrawn d0) := z_N.moved (u := s) (U := s.setDrawn d0) (Vm.Alike.refl s.vm) hN0
  have hX : va_X b L xs (s.setDrawn d0) (s.setDrawn d0).heap := va_X.moved (u := s) (U := s.setDrawn d0) (Vm.Alike.refl s.vm) hX0
  have hbl2 : b < (s.setDrawn d0).heap.size := hbl
  have hb : b < lo := by omega
  obtain ⟨ck4, ck6, h19⟩ := I.ck
  obtain ⟨o, hM, hE, hO, both⟩ := both_stall I (xs (i + 1)) (xs (i + 2))
  refine z_aload_n (k := 3) (pc := 441) C dL_law_441 rfl ?_
  refine z_arg (pc := 442) (q0 := 4) (q4 := 0) (i := i) (j := 1) C hX hbl2 hb hL dL_law_442 dL_law_443 dL_law_445 dL_law_446 dL_law_447 rfl rfl rfl (by omega) ?_
  refine z_arg (pc := 448) (q0 := 4) (q4 := 0) (i := i) (j := 2) C hX hbl2 hb hL dL_law_448 dL_law_449 dL_law_451 dL_law_452 dL_law_453 rfl rfl rfl (by omega) ?_
  refine z_aload_n (k := 1) (pc := 454) C dL_law_454 rfl ?_
  refine z_callH (pc := 455) (As := [.ref lo, .int (xs (i + 1)), .int (xs (i + 2)), .ref (lo + 18)]) (rest := []) (n := 4) (fr := 8) (lc := 133) (mc := 4) (ms := 40) C hN (h_stall l hl G lo t0 h nx lo (xs (i + 1)) (xs (i + 2)) (lo + 18) o hM ck4 hE hO) q_371 q_372 q_77 q_373 ⟨by decide +kernel, by decide +kernel, by decide +kernel⟩ ⟨Nat.le_of_ble_eq_true rfl, Nat.le_of_ble_eq_true rfl⟩ rfl (Nat.le_of_ble_eq_true rfl) dL_law_455 ⟨by omega, by omega⟩ _ rfl (fun v h1 n1 hR => ?_)
  obtain ⟨r, h5, hM5, ck1, hth, hval, L5⟩ := both v h1 n1 hR
  refine z_istore (lv' := (5, .int v) :: lv5 lo b i) (pc := 458) C dL_law_458 (by decide) rfl ?_
  refine z_aload_n (k := 3) (pc := 460) C dL_law_460 rfl ?_
  refine z_arg (pc := 461) (q0 := 5) (q4 := 1) (i := i) (j := 1) C hX hbl2 hb hL dL_law_461 dL_law_462 dL_law_464 dL_law_465 dL_law_466 rfl rfl rfl (by omega) ?_
  refine z_arg (pc := 467) (q0 := 5) (q4 := 1) (i := i) (j := 2) C hX hbl2 hb hL dL_law_467 dL_law_468 dL_law_470 dL_law_471 dL_law_472 rfl rfl rfl (by omega) ?_
  refine z_goN (kc := cells + 4 + 0) (ks := slots + 40 + 0) ([.int r]) (z_callV (pc := 473) (As := [.int (xs (i + 1)), .int (xs (i + 2))]) (rest := []) (n := 2) (ci := 6) C (c_X5_stall l hl G lo t0 h1 n1 (lo + 11) (xs (i + 1)) (xs (i + 2)) _ hM5) ck1 rfl q_406 q_407 q_408 q_5 q_409 ⟨rfl, by decide +kernel, by decide +kernel, by decide +kernel⟩ ⟨Nat.le_of_ble_eq_true rfl, Nat.le_of_ble_eq_true rfl⟩ rfl (Nat.le_of_ble_eq_true rfl) dL_law_473 ⟨by omega, by omega⟩) rfl (Nat.le_refl _) (Nat.le_refl _) ?_
  refine z_istore (lv' := (6, .int r) :: (5, .int v) :: lv5 lo b i) (pc := 476) C dL_law_476 (by decide) rfl ?_
  refine z_aload_n (k := 4) (pc := 478) C dL_law_478 rfl ?_
  refine z_goN (kc := cells + 4 + 0) (ks := slots + 40 + 0) ([.int v]) (z_callV (pc := 479) (As := []) (rest := []) (n := 0) (ci := 6) C (c_X5_thrown l hl G lo t0 h5 n1 (lo + 11) v (by simp only [M_X5_thrown, hth, Option.bind_some])) L5.ck.2.1 rfl q_230 q_231 q_232 q_5 q_233 ⟨rfl, by decide +kernel, by decide +kernel, by decide +kernel⟩ ⟨Nat.le_of_ble_eq_true rfl, Nat.le_of_ble_eq_true rfl⟩ rfl (Nat.le_of_ble_eq_true rfl) dL_law_479 ⟨by omega, by omega⟩) rfl (Nat.le_refl _) (Nat.le_refl _) ?_
  refine z_iload (k := 1) (pc := 482) C dL_law_482 rfl ?_
  refine z_icmp_eq_t (pc := 484) (tgt := 489) C dL_law_484 (by decide) rfl ?_
  refine z_iload (k := 1) (pc := 489) C dL_law_489 rfl ?_
  have fin : LW p l e s m below meth c G lo b d0 (cells + 4 + 0) (slots + 40 + 0) 506 ((6, .int r) :: (5, .int v) :: lv5 lo b i) [] h5 n1 := by
    refine z_goto (pc := 506) (tgt := 1189) C dL_law_506 (by decide) ?_
    refine z_wide (kc := cells + 100) (ks := slots + 1000) (by omega) (by omega) ?_
    exact z_sub [2, 3, 4, 5, 6] rfl (K d0 h5 n1 hd0 L5)
  by_cases hv : v = 0
  · obtain ⟨f, hf, hf0⟩ := hval hv
    refine z_if_ne_f (pc := 491) (tgt := 506) C dL_law_491 (by decide) hv ?_
    refine z_aload_n (k := 3) (pc := 494) C dL_law_494 rfl ?_
    refine z_iconst (v := 0) (pc := 495) C dL_law_495 (by decide) ?_
    refine z_laload (pc := 496) C hf vin_0 dL_law_496 ?_
    refine z_iload (k := 0) (pc := 497) C dL_law_497 rfl ?_
    refine z_i2l (pc := 499) C dL_law_499 ?_
    refine z_lcmp (pc := 500) C dL_law_500 ?_
    exact z_if_eq_t (pc := 501) (tgt := 506) C dL_law_501 (by decide) ((congrArg (fun z => lg_cmp z r.toInt64) hf0).trans (lgc_self _)) fin
  · exact z_if_ne_t (pc := 491) (tgt := 506) C dL_law_491 (by decide) hv fin
set_option maxHeartbeats 4000000 in
theorem law_rain (X : LCx p l s m meth c G lo t0 b L xs) (hd0 : s.drawn.sameBut d0 lw_cs) (I : LI t0 lo h nx) (hi : i + 7 ≤ L) (hc : cells + 100 ≤ room_1.cells) (hs : slots + 1000 ≤ room_1.slots) (K : LK p l e s m below meth c G lo t0 b i cells slots) : LW p l e s m below meth c G lo b d0 cells slots 509 (lv5 lo b i) [] h nx := by
  obtain ⟨C0, hN0, hX0, hbl, hlo, hL, hl⟩ := X
  have C := C0.dr d0
  have hN : z_N (s.setDrawn d0) := z_N.moved (u := s) (U := s.setDrawn d0) (Vm.Alike.refl s.vm) hN0
  have hX : va_X b L xs (s.setDrawn d0) (s.setDrawn d0).heap := va_X.moved (u := s) (U := s.setDrawn d0) (Vm.Alike.refl s.vm) hX0
  have hbl2 : b < (s.setDrawn d0).heap.size := hbl
  have hb : b < lo := by omega
  obtain ⟨ck4, ck6, h19⟩ := I.ck
  obtain ⟨o, hM, hE, hO, both⟩ := both_rain I (xs (i + 1))
  refine z_aload_n (k := 3) (pc := 509) C dL_law_509 rfl ?_
  refine z_arg (pc := 510) (q0 := 4) (q4 := 0) (i := i) (j := 1) C hX hbl2 hb hL dL_law_510 dL_law_511 dL_law_513 dL_law_514 dL_law_515 rfl rfl rfl (by omega) ?_
  refine z_aload_n (k := 1) (pc := 516) C dL_law_516 rfl ?_
  refine z_callH (pc := 517) (As := [.ref lo, .int (xs (i + 1)), .ref (lo + 18)]) (rest := []) (n := 3) (fr := 10) (lc := 212) (mc := 4) (ms := 40) C hN (h_rain l hl G lo t0 h nx lo (xs (i + 1)) (lo + 18) o hM ck4 hE hO) q_413 q_414 q_77 q_415 ⟨by decide +kernel, by decide +kernel, by decide +kernel⟩ ⟨Nat.le_of_ble_eq_true rfl, Nat.le_of_ble_eq_true rfl⟩ rfl (Nat.le_of_ble_eq_true rfl) dL_law_517 ⟨by omega, by omega⟩ _ rfl (fun v h1 n1 hR => ?_)
  obtain ⟨r, h5, hM5, ck1, hth, hval, L5⟩ := both v h1 n1 hR
  refine z_istore (lv' := (5, .int v) :: lv5 lo b i) (pc := 520) C dL_law_520 (by decide) rfl ?_
  refine z_aload_n (k := 3) (pc := 522) C dL_law_522 rfl ?_
  refine z_arg (pc := 523) (q0 := 5) (q4 := 1) (i := i) (j := 1) C hX hbl2 hb hL dL_law_523 dL_law_524 dL_law_526 dL_law_527 dL_law_528 rfl rfl rfl (by omega) ?_
  refine z_goN (kc := cells + 4 + 0) (ks := slots + 40 + 0) ([.int r]) (z_callV (pc := 529) (As := [.int (xs (i + 1))]) (rest := []) (n := 1) (ci := 6) C (c_X5_rain l hl G lo t0 h1 n1 (lo + 11) (xs (i + 1)) _ hM5) ck1 rfl q_485 q_486 q_487 q_5 q_488 ⟨rfl, by decide +kernel, by decide +kernel, by decide +kernel⟩ ⟨Nat.le_of_ble_eq_true rfl, Nat.le_of_ble_eq_true rfl⟩ rfl (Nat.le_of_ble_eq_true rfl) dL_law_529 ⟨by omega, by omega⟩) rfl (Nat.le_refl _) (Nat.le_refl _) ?_
  refine z_istore (lv' := (6, .int r) :: (5, .int v) :: lv5 lo b i) (pc := 532) C dL_law_532 (by decide) rfl ?_
  refine z_aload_n (k := 4) (pc := 534) C dL_law_534 rfl ?_
  refine z_goN (kc := cells + 4 + 0) (ks := slots + 40 + 0) ([.int v]) (z_callV (pc := 535) (As := []) (rest := []) (n := 0) (ci := 6) C (c_X5_thrown l hl G lo t0 h5 n1 (lo + 11) v (by simp only [M_X5_thrown, hth, Option.bind_some])) L5.ck.2.1 rfl q_230 q_231 q_232 q_5 q_233 ⟨rfl, by decide +kernel, by decide +kernel, by decide +kernel⟩ ⟨Nat.le_of_ble_eq_true rfl, Nat.le_of_ble_eq_true rfl⟩ rfl (Nat.le_of_ble_eq_true rfl) dL_law_535 ⟨by omega, by omega⟩) rfl (Nat.le_refl _) (Nat.le_refl _) ?_
  refine z_iload (k := 1) (pc := 538) C dL_law_538 rfl ?_
  refine z_icmp_eq_t (pc := 540) (tgt := 545) C dL_law_540 (by decide) rfl ?_
  refine z_iload (k := 1) (pc := 545) C dL_law_545 rfl ?_
  have fin : LW p l e s m below meth c G lo b d0 (cells + 4 + 0) (slots + 40 + 0) 562 ((6, .int r) :: (5, .int v) :: lv5 lo b i) [] h5 n1 := by
    refine z_goto (pc := 562) (tgt := 1189) C dL_law_562 (by decide) ?_
    refine z_wide (kc := cells + 100) (ks := slots + 1000) (by omega) (by omega) ?_
    exact z_sub [2, 3, 4, 5, 6] rfl (K d0 h5 n1 hd0 L5)
  by_cases hv : v = 0
  · obtain ⟨f, hf, hf0⟩ := hval hv
    refine z_if_ne_f (pc := 547) (tgt := 562) C dL_law_547 (by decide) hv ?_
    refine z_aload_n (k := 3) (pc := 550) C dL_law_550 rfl ?_
    refine z_iconst (v := 0) (pc := 551) C dL_law_551 (by decide) ?_
    refine z_laload (pc := 552) C hf vin_0 dL_law_552 ?_
    refine z_iload (k := 0) (pc := 553) C dL_law_553 rfl ?_
    refine z_i2l (pc := 555) C dL_law_555 ?_
    refine z_lcmp (pc := 556) C dL_law_556 ?_
    exact z_if_eq_t (pc := 557) (tgt := 562) C dL_law_557 (by decide) ((congrArg (fun z => lg_cmp z r.toInt64) hf0).trans (lgc_self _)) fin
  · exact z_if_ne_t (pc := 547) (tgt := 562) C dL_law_547 (by decide) hv fin
set_option maxHeartbeats 4000000 in
theorem law_about (X : LCx p l s m meth c G lo t0 b L xs) (hd0 : s.drawn.sameBut d0 lw_cs) (I : LI t0 lo h nx) (hi : i + 7 ≤ L) (hc : cells + 100 ≤ room_1.cells) (hs : slots + 1000 ≤ room_1.slots) (K : LK p l e s m below meth c G lo t0 b i cells slots) : LW p l e s m below meth c G lo b d0 cells slots 565 (lv5 lo b i) [] h nx := by
  obtain ⟨C0, hN0, hX0, hbl, hlo, hL, hl⟩ := X
  have C := C0.dr d0
  have hN : z_N (s.setDrawn d0) := z_N.moved (u := s) (U := s.setDrawn d0) (Vm.Alike.refl s.vm) hN0
  have hX : va_X b L xs (s.setDrawn d0) (s.setDrawn d0).heap := va_X.moved (u := s) (U := s.setDrawn d0) (Vm.Alike.refl s.vm) hX0
  have hbl2 : b < (s.setDrawn d0).heap.size := hbl
  have hb : b < lo := by omega
  obtain ⟨ck4, ck6, h19⟩ := I.ck
  obtain ⟨o, hM, hE, hO, both⟩ := both_about I (xs (i + 1)) (xs (i + 2))
  refine z_aload_n (k := 3) (pc := 565) C dL_law_565 rfl ?_
  refine z_arg (pc := 566) (q0 := 4) (q4 := 0) (i := i) (j := 1) C hX hbl2 hb hL dL_law_566 dL_law_567 dL_law_569 dL_law_570 dL_law_571 rfl rfl rfl (by omega) ?_
  refine z_arg (pc := 572) (q0 := 4) (q4 := 0) (i := i) (j := 2) C hX hbl2 hb hL dL_law_572 dL_law_573 dL_law_575 dL_law_576 dL_law_577 rfl rfl rfl (by omega) ?_
  refine z_aload_n (k := 1) (pc := 578) C dL_law_578 rfl ?_
  refine z_callH (pc := 579) (As := [.ref lo, .int (xs (i + 1)), .int (xs (i + 2)), .ref (lo + 18)]) (rest := []) (n := 4) (fr := 8) (lc := 134) (mc := 4) (ms := 40) C hN (h_about l hl G lo t0 h nx lo (xs (i + 1)) (xs (i + 2)) (lo + 18) o hM ck4 hE hO) q_513 q_514 q_77 q_515 ⟨by decide +kernel, by decide +kernel, by decide +kernel⟩ ⟨Nat.le_of_ble_eq_true rfl, Nat.le_of_ble_eq_true rfl⟩ rfl (Nat.le_of_ble_eq_true rfl) dL_law_579 ⟨by omega, by omega⟩ _ rfl (fun v h1 n1 hR => ?_)
  obtain ⟨r, h5, hM5, ck1, hth, hval, L5⟩ := both v h1 n1 hR
  refine z_istore (lv' := (5, .int v) :: lv5 lo b i) (pc := 582) C dL_law_582 (by decide) rfl ?_
  refine z_aload_n (k := 3) (pc := 584) C dL_law_584 rfl ?_
  refine z_arg (pc := 585) (q0 := 5) (q4 := 1) (i := i) (j := 1) C hX hbl2 hb hL dL_law_585 dL_law_586 dL_law_588 dL_law_589 dL_law_590 rfl rfl rfl (by omega) ?_
  refine z_arg (pc := 591) (q0 := 5) (q4 := 1) (i := i) (j := 2) C hX hbl2 hb hL dL_law_591 dL_law_592 dL_law_594 dL_law_595 dL_law_596 rfl rfl rfl (by omega) ?_
  refine z_goN (kc := cells + 4 + 0) (ks := slots + 40 + 0) ([.int r]) (z_callV (pc := 597) (As := [.int (xs (i + 1)), .int (xs (i + 2))]) (rest := []) (n := 2) (ci := 6) C (c_X5_about l hl G lo t0 h1 n1 (lo + 11) (xs (i + 1)) (xs (i + 2)) _ hM5) ck1 rfl q_533 q_534 q_535 q_5 q_536 ⟨rfl, by decide +kernel, by decide +kernel, by decide +kernel⟩ ⟨Nat.le_of_ble_eq_true rfl, Nat.le_of_ble_eq_true rfl⟩ rfl (Nat.le_of_ble_eq_true rfl) dL_law_597 ⟨by omega, by omega⟩) rfl (Nat.le_refl _) (Nat.le_refl _) ?_
  refine z_istore (lv' := (6, .int r) :: (5, .int v) :: lv5 lo b i) (pc := 600) C dL_law_600 (by decide) rfl ?_
  refine z_aload_n (k := 4) (pc := 602) C dL_law_602 rfl ?_
  refine z_goN (kc := cells + 4 + 0) (ks := slots + 40 + 0) ([.int v]) (z_callV (pc := 603) (As := []) (rest := []) (n := 0) (ci := 6) C (c_X5_thrown l hl G lo t0 h5 n1 (lo + 11) v (by simp only [M_X5_thrown, hth, Option.bind_some])) L5.ck.2.1 rfl q_230 q_231 q_232 q_5 q_233 ⟨rfl, by decide +kernel, by decide +kernel, by decide +kernel⟩ ⟨Nat.le_of_ble_eq_true rfl, Nat.le_of_ble_eq_true rfl⟩ rfl (Nat.le_of_ble_eq_true rfl) dL_law_603 ⟨by omega, by omega⟩) rfl (Nat.le_refl _) (Nat.le_refl _) ?_
  refine z_iload (k := 1) (pc := 606) C dL_law_606 rfl ?_
  refine z_icmp_eq_t (pc := 608) (tgt := 613) C dL_law_608 (by decide) rfl ?_
  refine z_iload (k := 1) (pc := 613) C dL_law_613 rfl ?_
  have fin : LW p l e s m below meth c G lo b d0 (cells + 4 + 0) (slots + 40 + 0) 630 ((6, .int r) :: (5, .int v) :: lv5 lo b i) [] h5 n1 := by
    refine z_goto (pc := 630) (tgt := 1189) C dL_law_630 (by decide) ?_
    refine z_wide (kc := cells + 100) (ks := slots + 1000) (by omega) (by omega) ?_
    exact z_sub [2, 3, 4, 5, 6] rfl (K d0 h5 n1 hd0 L5)
  by_cases hv : v = 0
  · obtain ⟨f, hf, hf0⟩ := hval hv
    refine z_if_ne_f (pc := 615) (tgt := 630) C dL_law_615 (by decide) hv ?_
    refine z_aload_n (k := 3) (pc := 618) C dL_law_618 rfl ?_
    refine z_iconst (v := 0) (pc := 619) C dL_law_619 (by decide) ?_
    refine z_laload (pc := 620) C hf vin_0 dL_law_620 ?_
    refine z_iload (k := 0) (pc := 621) C dL_law_621 rfl ?_
    refine z_i2l (pc := 623) C dL_law_623 ?_
    refine z_lcmp (pc := 624) C dL_law_624 ?_
    exact z_if_eq_t (pc := 625) (tgt := 630) C dL_law_625 (by decide) ((congrArg (fun z => lg_cmp z r.toInt64) hf0).trans (lgc_self _)) fin
  · exact z_if_ne_t (pc := 615) (tgt := 630) C dL_law_615 (by decide) hv fin
set_option maxHeartbeats 4000000 in
theorem law_cell (X : LCx p l s m meth c G lo t0 b L xs) (hd0 : s.drawn.sameBut d0 lw_cs) (I : LI t0 lo h nx) (hi : i + 7 ≤ L) (hc : cells + 100 ≤ room_1.cells) (hs : slots + 1000 ≤ room_1.slots) (K : LK p l e s m below meth c G lo t0 b i cells slots) : LW p l e s m below meth c G lo b d0 cells slots 633 (lv5 lo b i) [] h nx := by
  obtain ⟨C0, hN0, hX0, hbl, hlo, hL, hl⟩ := X
  have C := C0.dr d0
  have hN : z_N (s.setDrawn d0) := z_N.moved (u := s) (U := s.setDrawn d0) (Vm.Alike.refl s.vm) hN0
  have hX : va_X b L xs (s.setDrawn d0) (s.setDrawn d0).heap := va_X.moved (u := s) (U := s.setDrawn d0) (Vm.Alike.refl s.vm) hX0
  have hbl2 : b < (s.setDrawn d0).heap.size := hbl
  have hb : b < lo := by omega
  obtain ⟨ck4, ck6, h19⟩ := I.ck
  obtain ⟨o, hM, hE, hO, both⟩ := both_cell I (xs (i + 1)) (xs (i + 2)) (xs (i + 3))
  refine z_aload_n (k := 3) (pc := 633) C dL_law_633 rfl ?_
  refine z_arg (pc := 634) (q0 := 4) (q4 := 0) (i := i) (j := 1) C hX hbl2 hb hL dL_law_634 dL_law_635 dL_law_637 dL_law_638 dL_law_639 rfl rfl rfl (by omega) ?_
  refine z_arg (pc := 640) (q0 := 4) (q4 := 0) (i := i) (j := 2) C hX hbl2 hb hL dL_law_640 dL_law_641 dL_law_643 dL_law_644 dL_law_645 rfl rfl rfl (by omega) ?_
  refine z_arg (pc := 646) (q0 := 4) (q4 := 0) (i := i) (j := 3) C hX hbl2 hb hL dL_law_646 dL_law_647 dL_law_649 dL_law_650 dL_law_651 rfl rfl rfl (by omega) ?_
  refine z_aload_n (k := 1) (pc := 652) C dL_law_652 rfl ?_
  refine z_callH (pc := 653) (As := [.ref lo, .int (xs (i + 1)), .int (xs (i + 2)), .int (xs (i + 3)), .ref (lo + 18)]) (rest := []) (n := 5) (fr := 8) (lc := 134) (mc := 4) (ms := 40) C hN (h_cell l hl G lo t0 h nx lo (xs (i + 1)) (xs (i + 2)) (xs (i + 3)) (lo + 18) o hM ck4 hE hO) q_545 q_546 q_77 q_547 ⟨by decide +kernel, by decide +kernel, by decide +kernel⟩ ⟨Nat.le_of_ble_eq_true rfl, Nat.le_of_ble_eq_true rfl⟩ rfl (Nat.le_of_ble_eq_true rfl) dL_law_653 ⟨by omega, by omega⟩ _ rfl (fun v h1 n1 hR => ?_)
  obtain ⟨r, h5, hM5, ck1, hth, hval, L5⟩ := both v h1 n1 hR
  refine z_istore (lv' := (5, .int v) :: lv5 lo b i) (pc := 656) C dL_law_656 (by decide) rfl ?_
  refine z_aload_n (k := 3) (pc := 658) C dL_law_658 rfl ?_
  refine z_arg (pc := 659) (q0 := 5) (q4 := 1) (i := i) (j := 1) C hX hbl2 hb hL dL_law_659 dL_law_660 dL_law_662 dL_law_663 dL_law_664 rfl rfl rfl (by omega) ?_
  refine z_arg (pc := 665) (q0 := 5) (q4 := 1) (i := i) (j := 2) C hX hbl2 hb hL dL_law_665 dL_law_666 dL_law_668 dL_law_669 dL_law_670 rfl rfl rfl (by omega) ?_
  refine z_arg (pc := 671) (q0 := 5) (q4 := 1) (i := i) (j := 3) C hX hbl2 hb hL dL_law_671 dL_law_672 dL_law_674 dL_law_675 dL_law_676 rfl rfl rfl (by omega) ?_
  refine z_goN (kc := cells + 4 + 0) (ks := slots + 40 + 0) ([.int r]) (z_callV (pc := 677) (As := [.int (xs (i + 1)), .int (xs (i + 2)), .int (xs (i + 3))]) (rest := []) (n := 3) (ci := 6) C (c_X5_cell l hl G lo t0 h1 n1 (lo + 11) (xs (i + 1)) (xs (i + 2)) (xs (i + 3)) _ hM5) ck1 rfl q_554 q_555 q_556 q_5 q_557 ⟨rfl, by decide +kernel, by decide +kernel, by decide +kernel⟩ ⟨Nat.le_of_ble_eq_true rfl, Nat.le_of_ble_eq_true rfl⟩ rfl (Nat.le_of_ble_eq_true rfl) dL_law_677 ⟨by omega, by omega⟩) rfl (Nat.le_refl _) (Nat.le_refl _) ?_
  refine z_istore (lv' := (6, .int r) :: (5, .int v) :: lv5 lo b i) (pc := 680) C dL_law_680 (by decide) rfl ?_
  refine z_aload_n (k := 4) (pc := 682) C dL_law_682 rfl ?_
  refine z_goN (kc := cells + 4 + 0) (ks := slots + 40 + 0) ([.int v]) (z_callV (pc := 683) (As := []) (rest := []) (n := 0) (ci := 6) C (c_X5_thrown l hl G lo t0 h5 n1 (lo + 11) v (by simp only [M_X5_thrown, hth, Option.bind_some])) L5.ck.2.1 rfl q_230 q_231 q_232 q_5 q_233 ⟨rfl, by decide +kernel, by decide +kernel, by decide +kernel⟩ ⟨Nat.le_of_ble_eq_true rfl, Nat.le_of_ble_eq_true rfl⟩ rfl (Nat.le_of_ble_eq_true rfl) dL_law_683 ⟨by omega, by omega⟩) rfl (Nat.le_refl _) (Nat.le_refl _) ?_
  refine z_iload (k := 1) (pc := 686) C dL_law_686 rfl ?_
  refine z_icmp_eq_t (pc := 688) (tgt := 693) C dL_law_688 (by decide) rfl ?_
  refine z_iload (k := 1) (pc := 693) C dL_law_693 rfl ?_
  have fin : LW p l e s m below meth c G lo b d0 (cells + 4 + 0) (slots + 40 + 0) 710 ((6, .int r) :: (5, .int v) :: lv5 lo b i) [] h5 n1 := by
    refine z_goto (pc := 710) (tgt := 1189) C dL_law_710 (by decide) ?_
    refine z_wide (kc := cells + 100) (ks := slots + 1000) (by omega) (by omega) ?_
    exact z_sub [2, 3, 4, 5, 6] rfl (K d0 h5 n1 hd0 L5)
  by_cases hv : v = 0
  · obtain ⟨f, hf, hf0⟩ := hval hv
    refine z_if_ne_f (pc := 695) (tgt := 710) C dL_law_695 (by decide) hv ?_
    refine z_aload_n (k := 3) (pc := 698) C dL_law_698 rfl ?_
    refine z_iconst (v := 0) (pc := 699) C dL_law_699 (by decide) ?_
    refine z_laload (pc := 700) C hf vin_0 dL_law_700 ?_
    refine z_iload (k := 0) (pc := 701) C dL_law_701 rfl ?_
    refine z_i2l (pc := 703) C dL_law_703 ?_
    refine z_lcmp (pc := 704) C dL_law_704 ?_
    exact z_if_eq_t (pc := 705) (tgt := 710) C dL_law_705 (by decide) ((congrArg (fun z => lg_cmp z r.toInt64) hf0).trans (lgc_self _)) fin
  · exact z_if_ne_t (pc := 695) (tgt := 710) C dL_law_695 (by decide) hv fin
set_option maxHeartbeats 4000000 in
theorem law_cord (X : LCx p l s m meth c G lo t0 b L xs) (hd0 : s.drawn.sameBut d0 lw_cs) (I : LI t0 lo h nx) (hi : i + 7 ≤ L) (hc : cells + 100 ≤ room_1.cells) (hs : slots + 1000 ≤ room_1.slots) (K : LK p l e s m below meth c G lo t0 b i cells slots) : LW p l e s m below meth c G lo b d0 cells slots 713 (lv5 lo b i) [] h nx := by
  obtain ⟨C0, hN0, hX0, hbl, hlo, hL, hl⟩ := X
  have C := C0.dr d0
  have hN : z_N (s.setDrawn d0) := z_N.moved (u := s) (U := s.setDrawn d0) (Vm.Alike.refl s.vm) hN0
  have hX : va_X b L xs (s.setDrawn d0) (s.setDrawn d0).heap := va_X.moved (u := s) (U := s.setDrawn d0) (Vm.Alike.refl s.vm) hX0
  have hbl2 : b < (s.setDrawn d0).heap.size := hbl
  have hb : b < lo := by omega
  obtain ⟨ck4, ck6, h19⟩ := I.ck
  obtain ⟨o, hM, hE, hO, both⟩ := both_cord I (xs (i + 1)) (xs (i + 2))
  refine z_aload_n (k := 3) (pc := 713) C dL_law_713 rfl ?_
  refine z_arg (pc := 714) (q0 := 4) (q4 := 0) (i := i) (j := 1) C hX hbl2 hb hL dL_law_714 dL_law_715 dL_law_717 dL_law_718 dL_law_719 rfl rfl rfl (by omega) ?_
  refine z_arg (pc := 720) (q0 := 4) (q4 := 0) (i := i) (j := 2) C hX hbl2 hb hL dL_law_720 dL_law_721 dL_law_723 dL_law_724 dL_law_725 rfl rfl rfl (by omega) ?_
  refine z_aload_n (k := 1) (pc := 726) C dL_law_726 rfl ?_
  refine z_callH (pc := 727) (As := [.ref lo, .int (xs (i + 1)), .int (xs (i + 2)), .ref (lo + 18)]) (rest := []) (n := 4) (fr := 8) (lc := 133) (mc := 4) (ms := 40) C hN (h_cord l hl G lo t0 h nx lo (xs (i + 1)) (xs (i + 2)) (lo + 18) o hM ck4 hE hO) q_562 q_563 q_77 q_564 ⟨by decide +kernel, by decide +kernel, by decide +kernel⟩ ⟨Nat.le_of_ble_eq_true rfl, Nat.le_of_ble_eq_true rfl⟩ rfl (Nat.le_of_ble_eq_true rfl) dL_law_727 ⟨by omega, by omega⟩ _ rfl (fun v h1 n1 hR => ?_)
  obtain ⟨r, h5, hM5, ck1, hth, hval, L5⟩ := both v h1 n1 hR
  refine z_istore (lv' := (5, .int v) :: lv5 lo b i) (pc := 730) C dL_law_730 (by decide) rfl ?_
  refine z_aload_n (k := 3) (pc := 732) C dL_law_732 rfl ?_
  refine z_arg (pc := 733) (q0 := 5) (q4 := 1) (i := i) (j := 1) C hX hbl2 hb hL dL_law_733 dL_law_734 dL_law_736 dL_law_737 dL_law_738 rfl rfl rfl (by omega) ?_
  refine z_arg (pc := 739) (q0 := 5) (q4 := 1) (i := i) (j := 2) C hX hbl2 hb hL dL_law_739 dL_law_740 dL_law_742 dL_law_743 dL_law_744 rfl rfl rfl (by omega) ?_
  refine z_goN (kc := cells + 4 + 0) (ks := slots + 40 + 0) ([.int r]) (z_callV (pc := 745) (As := [.int (xs (i + 1)), .int (xs (i + 2))]) (rest := []) (n := 2) (ci := 6) C (c_X5_cord l hl G lo t0 h1 n1 (lo + 11) (xs (i + 1)) (xs (i + 2)) _ hM5) ck1 rfl q_586 q_587 q_588 q_5 q_589 ⟨rfl, by decide +kernel, by decide +kernel, by decide +kernel⟩ ⟨Nat.le_of_ble_eq_true rfl, Nat.le_of_ble_eq_true rfl⟩ rfl (Nat.le_of_ble_eq_true rfl) dL_law_745 ⟨by omega, by omega⟩) rfl (Nat.le_refl _) (Nat.le_refl _) ?_
  refine z_istore (lv' := (6, .int r) :: (5, .int v) :: lv5 lo b i) (pc := 748) C dL_law_748 (by decide) rfl ?_
  refine z_aload_n (k := 4) (pc := 750) C dL_law_750 rfl ?_
  refine z_goN (kc := cells + 4 + 0) (ks := slots + 40 + 0) ([.int v]) (z_callV (pc := 751) (As := []) (rest := []) (n := 0) (ci := 6) C (c_X5_thrown l hl G lo t0 h5 n1 (lo + 11) v (by simp only [M_X5_thrown, hth, Option.bind_some])) L5.ck.2.1 rfl q_230 q_231 q_232 q_5 q_233 ⟨rfl, by decide +kernel, by decide +kernel, by decide +kernel⟩ ⟨Nat.le_of_ble_eq_true rfl, Nat.le_of_ble_eq_true rfl⟩ rfl (Nat.le_of_ble_eq_true rfl) dL_law_751 ⟨by omega, by omega⟩) rfl (Nat.le_refl _) (Nat.le_refl _) ?_
  refine z_iload (k := 1) (pc := 754) C dL_law_754 rfl ?_
  refine z_icmp_eq_t (pc := 756) (tgt := 761) C dL_law_756 (by decide) rfl ?_
  refine z_iload (k := 1) (pc := 761) C dL_law_761 rfl ?_
  have fin : LW p l e s m below meth c G lo b d0 (cells + 4 + 0) (slots + 40 + 0) 778 ((6, .int r) :: (5, .int v) :: lv5 lo b i) [] h5 n1 := by
    refine z_goto (pc := 778) (tgt := 1189) C dL_law_778 (by decide) ?_
    refine z_wide (kc := cells + 100) (ks := slots + 1000) (by omega) (by omega) ?_
    exact z_sub [2, 3, 4, 5, 6] rfl (K d0 h5 n1 hd0 L5)
  by_cases hv : v = 0
  · obtain ⟨f, hf, hf0⟩ := hval hv
    refine z_if_ne_f (pc := 763) (tgt := 778) C dL_law_763 (by decide) hv ?_
    refine z_aload_n (k := 3) (pc := 766) C dL_law_766 rfl ?_
    refine z_iconst (v := 0) (pc := 767) C dL_law_767 (by decide) ?_
    refine z_laload (pc := 768) C hf vin_0 dL_law_768 ?_
    refine z_iload (k := 0) (pc := 769) C dL_law_769 rfl ?_
    refine z_i2l (pc := 771) C dL_law_771 ?_
    refine z_lcmp (pc := 772) C dL_law_772 ?_
    exact z_if_eq_t (pc := 773) (tgt := 778) C dL_law_773 (by decide) ((congrArg (fun z => lg_cmp z r.toInt64) hf0).trans (lgc_self _)) fin
  · exact z_if_ne_t (pc := 763) (tgt := 778) C dL_law_763 (by decide) hv fin
set_option maxHeartbeats 4000000 in
theorem law_told (X : LCx p l s m meth c G lo t0 b L xs) (hd0 : s.drawn.sameBut d0 lw_cs) (I : LI t0 lo h nx) (hi : i + 7 ≤ L) (hc : cells + 100 ≤ room_1.cells) (hs : slots + 1000 ≤ room_1.slots) (K : LK p l e s m below meth c G lo t0 b i cells slots) : LW p l e s m below meth c G lo b d0 cells slots 781 (lv5 lo b i) [] h nx := by
  obtain ⟨C0, hN0, hX0, hbl, hlo, hL, hl⟩ := X
  have C := C0.dr d0
  have hN : z_N (s.setDrawn d0) := z_N.moved (u := s) (U := s.setDrawn d0) (Vm.Alike.refl s.vm) hN0
  have hX : va_X b L xs (s.setDrawn d0) (s.setDrawn d0).heap := va_X.moved (u := s) (U := s.setDrawn d0) (Vm.Alike.refl s.vm) hX0
  have hbl2 : b < (s.setDrawn d0).heap.size := hbl
  have hb : b < lo := by omega
  obtain ⟨ck4, ck6, h19⟩ := I.ck
  obtain ⟨o, hM, hE, hO, both⟩ := both_told I (xs (i + 1)) (xs (i + 2))
  refine z_aload_n (k := 3) (pc := 781) C dL_law_781 rfl ?_
  refine z_arg (pc := 782) (q0 := 4) (q4 := 0) (i := i) (j := 1) C hX hbl2 hb hL dL_law_782 dL_law_783 dL_law_785 dL_law_786 dL_law_787 rfl rfl rfl (by omega) ?_
  refine z_arg (pc := 788) (q0 := 4) (q4 := 0) (i := i) (j := 2) C hX hbl2 hb hL dL_law_788 dL_law_789 dL_law_791 dL_law_792 dL_law_793 rfl rfl rfl (by omega) ?_
  refine z_aload_n (k := 1) (pc := 794) C dL_law_794 rfl ?_
  refine z_callH (pc := 795) (As := [.ref lo, .int (xs (i + 1)), .int (xs (i + 2)), .ref (lo + 18)]) (rest := []) (n := 4) (fr := 8) (lc := 134) (mc := 4) (ms := 40) C hN (h_told l hl G lo t0 h nx lo (xs (i + 1)) (xs (i + 2)) (lo + 18) o hM ck4 hE hO) q_602 q_603 q_77 q_604 ⟨by decide +kernel, by decide +kernel, by decide +kernel⟩ ⟨Nat.le_of_ble_eq_true rfl, Nat.le_of_ble_eq_true rfl⟩ rfl (Nat.le_of_ble_eq_true rfl) dL_law_795 ⟨by omega, by omega⟩ _ rfl (fun v h1 n1 hR => ?_)
  obtain ⟨r, h5, hM5, ck1, hth, hval, L5⟩ := both v h1 n1 hR
  refine z_istore (lv' := (5, .int v) :: lv5 lo b i) (pc := 798) C dL_law_798 (by decide) rfl ?_
  refine z_aload_n (k := 3) (pc := 800) C dL_law_800 rfl ?_
  refine z_arg (pc := 801) (q0 := 5) (q4 := 1) (i := i) (j := 1) C hX hbl2 hb hL dL_law_801 dL_law_802 dL_law_804 dL_law_805 dL_law_806 rfl rfl rfl (by omega) ?_
  refine z_arg (pc := 807) (q0 := 5) (q4 := 1) (i := i) (j := 2) C hX hbl2 hb hL dL_law_807 dL_law_808 dL_law_810 dL_law_811 dL_law_812 rfl rfl rfl (by omega) ?_
  refine z_goN (kc := cells + 4 + 0) (ks := slots + 40 + 0) ([.int r]) (z_callV (pc := 813) (As := [.int (xs (i + 1)), .int (xs (i + 2))]) (rest := []) (n := 2) (ci := 6) C (c_X5_told l hl G lo t0 h1 n1 (lo + 11) (xs (i + 1)) (xs (i + 2)) _ hM5) ck1 rfl q_618 q_619 q_620 q_5 q_621 ⟨rfl, by decide +kernel, by decide +kernel, by decide +kernel⟩ ⟨Nat.le_of_ble_eq_true rfl, Nat.le_of_ble_eq_true rfl⟩ rfl (Nat.le_of_ble_eq_true rfl) dL_law_813 ⟨by omega, by omega⟩) rfl (Nat.le_refl _) (Nat.le_refl _) ?_
  refine z_istore (lv' := (6, .int r) :: (5, .int v) :: lv5 lo b i) (pc := 816) C dL_law_816 (by decide) rfl ?_
  refine z_aload_n (k := 4) (pc := 818) C dL_law_818 rfl ?_
  refine z_goN (kc := cells + 4 + 0) (ks := slots + 40 + 0) ([.int v]) (z_callV (pc := 819) (As := []) (rest := []) (n := 0) (ci := 6) C (c_X5_thrown l hl G lo t0 h5 n1 (lo + 11) v (by simp only [M_X5_thrown, hth, Option.bind_some])) L5.ck.2.1 rfl q_230 q_231 q_232 q_5 q_233 ⟨rfl, by decide +kernel, by decide +kernel, by decide +kernel⟩ ⟨Nat.le_of_ble_eq_true rfl, Nat.le_of_ble_eq_true rfl⟩ rfl (Nat.le_of_ble_eq_true rfl) dL_law_819 ⟨by omega, by omega⟩) rfl (Nat.le_refl _) (Nat.le_refl _) ?_
  refine z_iload (k := 1) (pc := 822) C dL_law_822 rfl ?_
  refine z_icmp_eq_t (pc := 824) (tgt := 829) C dL_law_824 (by decide) rfl ?_
  refine z_iload (k := 1) (pc := 829) C dL_law_829 rfl ?_
  have fin : LW p l e s m below meth c G lo b d0 (cells + 4 + 0) (slots + 40 + 0) 846 ((6, .int r) :: (5, .int v) :: lv5 lo b i) [] h5 n1 := by
    refine z_goto (pc := 846) (tgt := 1189) C dL_law_846 (by decide) ?_
    refine z_wide (kc := cells + 100) (ks := slots + 1000) (by omega) (by omega) ?_
    exact z_sub [2, 3, 4, 5, 6] rfl (K d0 h5 n1 hd0 L5)
  by_cases hv : v = 0
  · obtain ⟨f, hf, hf0⟩ := hval hv
    refine z_if_ne_f (pc := 831) (tgt := 846) C dL_law_831 (by decide) hv ?_
    refine z_aload_n (k := 3) (pc := 834) C dL_law_834 rfl ?_
    refine z_iconst (v := 0) (pc := 835) C dL_law_835 (by decide) ?_
    refine z_laload (pc := 836) C hf vin_0 dL_law_836 ?_
    refine z_iload (k := 0) (pc := 837) C dL_law_837 rfl ?_
    refine z_i2l (pc := 839) C dL_law_839 ?_
    refine z_lcmp (pc := 840) C dL_law_840 ?_
    exact z_if_eq_t (pc := 841) (tgt := 846) C dL_law_841 (by decide) ((congrArg (fun z => lg_cmp z r.toInt64) hf0).trans (lgc_self _)) fin
  · exact z_if_ne_t (pc := 831) (tgt := 846) C dL_law_831 (by decide) hv fin
set_option maxHeartbeats 4000000 in
theorem law_share (X : LCx p l s m meth c G lo t0 b L xs) (hd0 : s.drawn.sameBut d0 lw_cs) (I : LI t0 lo h nx) (hi : i + 7 ≤ L) (hc : cells + 100 ≤ room_1.cells) (hs : slots + 1000 ≤ room_1.slots) (K : LK p l e s m below meth c G lo t0 b i cells slots) : LW p l e s m below meth c G lo b d0 cells slots 849 (lv5 lo b i) [] h nx := by
  obtain ⟨C0, hN0, hX0, hbl, hlo, hL, hl⟩ := X
  have C := C0.dr d0
  have hN : z_N (s.setDrawn d0) := z_N.moved (u := s) (U := s.setDrawn d0) (Vm.Alike.refl s.vm) hN0
  have hX : va_X b L xs (s.setDrawn d0) (s.setDrawn d0).heap := va_X.moved (u := s) (U := s.setDrawn d0) (Vm.Alike.refl s.vm) hX0
  have hbl2 : b < (s.setDrawn d0).heap.size := hbl
  have hb : b < lo := by omega
  obtain ⟨ck4, ck6, h19⟩ := I.ck
  obtain ⟨o, hM, hE, hO, both⟩ := both_share I (xs (i + 1)) (xs (i + 2))
  refine z_aload_n (k := 3) (pc := 849) C dL_law_849 rfl ?_
  refine z_arg (pc := 850) (q0 := 4) (q4 := 0) (i := i) (j := 1) C hX hbl2 hb hL dL_law_850 dL_law_851 dL_law_853 dL_law_854 dL_law_855 rfl rfl rfl (by omega) ?_
  refine z_arg (pc := 856) (q0 := 4) (q4 := 0) (i := i) (j := 2) C hX hbl2 hb hL dL_law_856 dL_law_857 dL_law_859 dL_law_860 dL_law_861 rfl rfl rfl (by omega) ?_
  refine z_aload_n (k := 1) (pc := 862) C dL_law_862 rfl ?_
  refine z_callH (pc := 863) (As := [.ref lo, .int (xs (i + 1)), .int (xs (i + 2)), .ref (lo + 18)]) (rest := []) (n := 4) (fr := 8) (lc := 137) (mc := 4) (ms := 40) C hN (h_share l hl G lo t0 h nx lo (xs (i + 1)) (xs (i + 2)) (lo + 18) o hM ck4 hE hO) q_626 q_627 q_77 q_628 ⟨by decide +kernel, by decide +kernel, by decide +kernel⟩ ⟨Nat.le_of_ble_eq_true rfl, Nat.le_of_ble_eq_true rfl⟩ rfl (Nat.le_of_ble_eq_true rfl) dL_law_863 ⟨by omega, by omega⟩ _ rfl (fun v h1 n1 hR => ?_)
  obtain ⟨r, h5, hM5, ck1, hth, hval, L5⟩ := both v h1 n1 hR
  refine z_istore (lv' := (5, .int v) :: lv5 lo b i) (pc := 866) C dL_law_866 (by decide) rfl ?_
  refine z_aload_n (k := 3) (pc := 868) C dL_law_868 rfl ?_
  refine z_arg (pc := 869) (q0 := 5) (q4 := 1) (i := i) (j := 1) C hX hbl2 hb hL dL_law_869 dL_law_870 dL_law_872 dL_law_873 dL_law_874 rfl rfl rfl (by omega) ?_
  refine z_arg (pc := 875) (q0 := 5) (q4 := 1) (i := i) (j := 2) C hX hbl2 hb hL dL_law_875 dL_law_876 dL_law_878 dL_law_879 dL_law_880 rfl rfl rfl (by omega) ?_
  refine z_goN (kc := cells + 4 + 0) (ks := slots + 40 + 0) ([.int r]) (z_callV (pc := 881) (As := [.int (xs (i + 1)), .int (xs (i + 2))]) (rest := []) (n := 2) (ci := 6) C (c_X5_share l hl G lo t0 h1 n1 (lo + 11) (xs (i + 1)) (xs (i + 2)) _ hM5) ck1 rfl q_635 q_636 q_637 q_5 q_638 ⟨rfl, by decide +kernel, by decide +kernel, by decide +kernel⟩ ⟨Nat.le_of_ble_eq_true rfl, Nat.le_of_ble_eq_true rfl⟩ rfl (Nat.le_of_ble_eq_true rfl) dL_law_881 ⟨by omega, by omega⟩) rfl (Nat.le_refl _) (Nat.le_refl _) ?_
  refine z_istore (lv' := (6, .int r) :: (5, .int v) :: lv5 lo b i) (pc := 884) C dL_law_884 (by decide) rfl ?_
  refine z_aload_n (k := 4) (pc := 886) C dL_law_886 rfl ?_
  refine z_goN (kc := cells + 4 + 0) (ks := slots + 40 + 0) ([.int v]) (z_callV (pc := 887) (As := []) (rest := []) (n := 0) (ci := 6) C (c_X5_thrown l hl G lo t0 h5 n1 (lo + 11) v (by simp only [M_X5_thrown, hth, Option.bind_some])) L5.ck.2.1 rfl q_230 q_231 q_232 q_5 q_233 ⟨rfl, by decide +kernel, by decide +kernel, by decide +kernel⟩ ⟨Nat.le_of_ble_eq_true rfl, Nat.le_of_ble_eq_true rfl⟩ rfl (Nat.le_of_ble_eq_true rfl) dL_law_887 ⟨by omega, by omega⟩) rfl (Nat.le_refl _) (Nat.le_refl _) ?_
  refine z_iload (k := 1) (pc := 890) C dL_law_890 rfl ?_
  refine z_icmp_eq_t (pc := 892) (tgt := 897) C dL_law_892 (by decide) rfl ?_
  refine z_iload (k := 1) (pc := 897) C dL_law_897 rfl ?_
  have fin : LW p l e s m below meth c G lo b d0 (cells + 4 + 0) (slots + 40 + 0) 914 ((6, .int r) :: (5, .int v) :: lv5 lo b i) [] h5 n1 := by
    refine z_goto (pc := 914) (tgt := 1189) C dL_law_914 (by decide) ?_
    refine z_wide (kc := cells + 100) (ks := slots + 1000) (by omega) (by omega) ?_
    exact z_sub [2, 3, 4, 5, 6] rfl (K d0 h5 n1 hd0 L5)
  by_cases hv : v = 0
  · obtain ⟨f, hf, hf0⟩ := hval hv
    refine z_if_ne_f (pc := 899) (tgt := 914) C dL_law_899 (by decide) hv ?_
    refine z_aload_n (k := 3) (pc := 902) C dL_law_902 rfl ?_
    refine z_iconst (v := 0) (pc := 903) C dL_law_903 (by decide) ?_
    refine z_laload (pc := 904) C hf vin_0 dL_law_904 ?_
    refine z_iload (k := 0) (pc := 905) C dL_law_905 rfl ?_
    refine z_i2l (pc := 907) C dL_law_907 ?_
    refine z_lcmp (pc := 908) C dL_law_908 ?_
    exact z_if_eq_t (pc := 909) (tgt := 914) C dL_law_909 (by decide) ((congrArg (fun z => lg_cmp z r.toInt64) hf0).trans (lgc_self _)) fin
  · exact z_if_ne_t (pc := 899) (tgt := 914) C dL_law_899 (by decide) hv fin
set_option maxHeartbeats 4000000 in
theorem law_count (X : LCx p l s m meth c G lo t0 b L xs) (hd0 : s.drawn.sameBut d0 lw_cs) (I : LI t0 lo h nx) (hi : i + 7 ≤ L) (hc : cells + 100 ≤ room_1.cells) (hs : slots + 1000 ≤ room_1.slots) (K : LK p l e s m below meth c G lo t0 b i cells slots) : LW p l e s m below meth c G lo b d0 cells slots 917 (lv5 lo b i) [] h nx := by
  obtain ⟨C0, hN0, hX0, hbl, hlo, hL, hl⟩ := X
  have C := C0.dr d0
  have hN : z_N (s.setDrawn d0) := z_N.moved (u := s) (U := s.setDrawn d0) (Vm.Alike.refl s.vm) hN0
  have hX : va_X b L xs (s.setDrawn d0) (s.setDrawn d0).heap := va_X.moved (u := s) (U := s.setDrawn d0) (Vm.Alike.refl s.vm) hX0
  have hbl2 : b < (s.setDrawn d0).heap.size := hbl
  have hb : b < lo := by omega
  obtain ⟨ck4, ck6, h19⟩ := I.ck
  obtain ⟨o, hM, hE, hO, both⟩ := both_count I (xs (i + 1))
  refine z_aload_n (k := 3) (pc := 917) C dL_law_917 rfl ?_
  refine z_arg (pc := 918) (q0 := 4) (q4 := 0) (i := i) (j := 1) C hX hbl2 hb hL dL_law_918 dL_law_919 dL_law_921 dL_law_922 dL_law_923 rfl rfl rfl (by omega) ?_
  refine z_aload_n (k := 1) (pc := 924) C dL_law_924 rfl ?_
  refine z_callH (pc := 925) (As := [.ref lo, .int (xs (i + 1)), .ref (lo + 18)]) (rest := []) (n := 3) (fr := 8) (lc := 133) (mc := 4) (ms := 40) C hN (h_count l hl G lo t0 h nx lo (xs (i + 1)) (lo + 18) o hM ck4 hE hO) q_639 q_640 q_77 q_641 ⟨by decide +kernel, by decide +kernel, by decide +kernel⟩ ⟨Nat.le_of_ble_eq_true rfl, Nat.le_of_ble_eq_true rfl⟩ rfl (Nat.le_of_ble_eq_true rfl) dL_law_925 ⟨by omega, by omega⟩ _ rfl (fun v h1 n1 hR => ?_)
  obtain ⟨r, h5, n5, hM5, ck1, hth, hval, L5⟩ := both v h1 n1 hR
  refine z_istore (lv' := (5, .int v) :: lv5 lo b i) (pc := 928) C dL_law_928 (by decide) rfl ?_
  refine z_aload_n (k := 3) (pc := 930) C dL_law_930 rfl ?_
  refine z_arg (pc := 931) (q0 := 5) (q4 := 1) (i := i) (j := 1) C hX hbl2 hb hL dL_law_931 dL_law_932 dL_law_934 dL_law_935 dL_law_936 rfl rfl rfl (by omega) ?_
  refine z_goN (kc := cells + 4 + 2) (ks := slots + 40 + 52) ([.int r]) (z_callV (pc := 937) (As := [.int (xs (i + 1))]) (rest := []) (n := 1) (ci := 6) C (c_X5_count l hl G lo t0 h1 n1 (lo + 11) (xs (i + 1)) _ hM5) ck1 rfl q_679 q_680 q_681 q_5 q_682 ⟨rfl, by decide +kernel, by decide +kernel, by decide +kernel⟩ ⟨Nat.le_of_ble_eq_true rfl, Nat.le_of_ble_eq_true rfl⟩ rfl (Nat.le_of_ble_eq_true rfl) dL_law_937 ⟨by omega, by omega⟩) rfl (Nat.le_refl _) (Nat.le_refl _) ?_
  refine z_istore (lv' := (6, .int r) :: (5, .int v) :: lv5 lo b i) (pc := 940) C dL_law_940 (by decide) rfl ?_
  refine z_aload_n (k := 4) (pc := 942) C dL_law_942 rfl ?_
  refine z_goN (kc := cells + 4 + 2) (ks := slots + 40 + 52) ([.int v]) (z_callV (pc := 943) (As := []) (rest := []) (n := 0) (ci := 6) C (c_X5_thrown l hl G lo t0 h5 n5 (lo + 11) v (by simp only [M_X5_thrown, hth, Option.bind_some])) L5.ck.2.1 rfl q_230 q_231 q_232 q_5 q_233 ⟨rfl, by decide +kernel, by decide +kernel, by decide +kernel⟩ ⟨Nat.le_of_ble_eq_true rfl, Nat.le_of_ble_eq_true rfl⟩ rfl (Nat.le_of_ble_eq_true rfl) dL_law_943 ⟨by omega, by omega⟩) rfl (Nat.le_refl _) (Nat.le_refl _) ?_
  refine z_iload (k := 1) (pc := 946) C dL_law_946 rfl ?_
  refine z_icmp_eq_t (pc := 948) (tgt := 953) C dL_law_948 (by decide) rfl ?_
  refine z_iload (k := 1) (pc := 953) C dL_law_953 rfl ?_
  have fin : LW p l e s m below meth c G lo b d0 (cells + 4 + 2) (slots + 40 + 52) 970 ((6, .int r) :: (5, .int v) :: lv5 lo b i) [] h5 n5 := by
    refine z_goto (pc := 970) (tgt := 1189) C dL_law_970 (by decide) ?_
    refine z_wide (kc := cells + 100) (ks := slots + 1000) (by omega) (by omega) ?_
    exact z_sub [2, 3, 4, 5, 6] rfl (K d0 h5 n5 hd0 L5)
  by_cases hv : v = 0
  · obtain ⟨f, hf, hf0⟩ := hval hv
    refine z_if_ne_f (pc := 955) (tgt := 970) C dL_law_955 (by decide) hv ?_
    refine z_aload_n (k := 3) (pc := 958) C dL_law_958 rfl ?_
    refine z_iconst (v := 0) (pc := 959) C dL_law_959 (by decide) ?_
    refine z_laload (pc := 960) C hf vin_0 dL_law_960 ?_
    refine z_iload (k := 0) (pc := 961) C dL_law_961 rfl ?_
    refine z_i2l (pc := 963) C dL_law_963 ?_
    refine z_lcmp (pc := 964) C dL_law_964 ?_
    exact z_if_eq_t (pc := 965) (tgt := 970) C dL_law_965 (by decide) ((congrArg (fun z => lg_cmp z r.toInt64) hf0).trans (lgc_self _)) fin
  · exact z_if_ne_t (pc := 955) (tgt := 970) C dL_law_955 (by decide) hv fin
set_option maxHeartbeats 4000000 in
theorem law_would (X : LCx p l s m meth c G lo t0 b L xs) (hd0 : s.drawn.sameBut d0 lw_cs) (I : LI t0 lo h nx) (hi : i + 7 ≤ L) (hc : cells + 100 ≤ room_1.cells) (hs : slots + 1000 ≤ room_1.slots) (K : LK p l e s m below meth c G lo t0 b i cells slots) : LW p l e s m below meth c G lo b d0 cells slots 973 (lv5 lo b i) [] h nx := by
  obtain ⟨C0, hN0, hX0, hbl, hlo, hL, hl⟩ := X
  have C := C0.dr d0
  have hN : z_N (s.setDrawn d0) := z_N.moved (u := s) (U := s.setDrawn d0) (Vm.Alike.refl s.vm) hN0
  have hX : va_X b L xs (s.setDrawn d0) (s.setDrawn d0).heap := va_X.moved (u := s) (U := s.setDrawn d0) (Vm.Alike.refl s.vm) hX0
  have hbl2 : b < (s.setDrawn d0).heap.size := hbl
  have hb : b < lo := by omega
  obtain ⟨ck4, ck6, h19⟩ := I.ck
  obtain ⟨o, hM, hE, hO, both⟩ := both_would I (xs (i + 1)) (xs (i + 2))
  refine z_aload_n (k := 3) (pc := 973) C dL_law_973 rfl ?_
  refine z_arg (pc := 974) (q0 := 4) (q4 := 0) (i := i) (j := 1) C hX hbl2 hb hL dL_law_974 dL_law_975 dL_law_977 dL_law_978 dL_law_979 rfl rfl rfl (by omega) ?_
  refine z_arg (pc := 980) (q0 := 4) (q4 := 0) (i := i) (j := 2) C hX hbl2 hb hL dL_law_980 dL_law_981 dL_law_983 dL_law_984 dL_law_985 rfl rfl rfl (by omega) ?_
  refine z_aload_n (k := 1) (pc := 986) C dL_law_986 rfl ?_
  refine z_callH (pc := 987) (As := [.ref lo, .int (xs (i + 1)), .int (xs (i + 2)), .ref (lo + 18)]) (rest := []) (n := 4) (fr := 10) (lc := 212) (mc := 4) (ms := 40) C hN (h_would l hl G lo t0 h nx lo (xs (i + 1)) (xs (i + 2)) (lo + 18) o hM ck4 hE hO) q_683 q_684 q_77 q_685 ⟨by decide +kernel, by decide +kernel, by decide +kernel⟩ ⟨Nat.le_of_ble_eq_true rfl, Nat.le_of_ble_eq_true rfl⟩ rfl (Nat.le_of_ble_eq_true rfl) dL_law_987 ⟨by omega, by omega⟩ _ rfl (fun v h1 n1 hR => ?_)
  obtain ⟨r, h5, hM5, ck1, hth, hval, L5⟩ := both v h1 n1 hR
  refine z_istore (lv' := (5, .int v) :: lv5 lo b i) (pc := 990) C dL_law_990 (by decide) rfl ?_
  refine z_aload_n (k := 3) (pc := 992) C dL_law_992 rfl ?_
  refine z_arg (pc := 993) (q0 := 5) (q4 := 1) (i := i) (j := 1) C hX hbl2 hb hL dL_law_993 dL_law_994 dL_law_996 dL_law_997 dL_law_998 rfl rfl rfl (by omega) ?_
  refine z_arg (pc := 999) (q0 := 5) (q4 := 1) (i := i) (j := 2) C hX hbl2 hb hL dL_law_999 dL_law_1000 dL_law_1002 dL_law_1003 dL_law_1004 rfl rfl rfl (by omega) ?_
  refine z_goN (kc := cells + 4 + 0) (ks := slots + 40 + 0) ([.int r]) (z_callV (pc := 1005) (As := [.int (xs (i + 1)), .int (xs (i + 2))]) (rest := []) (n := 2) (ci := 6) C (c_X5_would l hl G lo t0 h1 n1 (lo + 11) (xs (i + 1)) (xs (i + 2)) _ hM5) ck1 rfl q_690 q_691 q_692 q_5 q_693 ⟨rfl, by decide +kernel, by decide +kernel, by decide +kernel⟩ ⟨Nat.le_of_ble_eq_true rfl, Nat.le_of_ble_eq_true rfl⟩ rfl (Nat.le_of_ble_eq_true rfl) dL_law_1005 ⟨by omega, by omega⟩) rfl (Nat.le_refl _) (Nat.le_refl _) ?_
  refine z_istore (lv' := (6, .int r) :: (5, .int v) :: lv5 lo b i) (pc := 1008) C dL_law_1008 (by decide) rfl ?_
  refine z_aload_n (k := 4) (pc := 1010) C dL_law_1010 rfl ?_
  refine z_goN (kc := cells + 4 + 0) (ks := slots + 40 + 0) ([.int v]) (z_callV (pc := 1011) (As := []) (rest := []) (n := 0) (ci := 6) C (c_X5_thrown l hl G lo t0 h5 n1 (lo + 11) v (by simp only [M_X5_thrown, hth, Option.bind_some])) L5.ck.2.1 rfl q_230 q_231 q_232 q_5 q_233 ⟨rfl, by decide +kernel, by decide +kernel, by decide +kernel⟩ ⟨Nat.le_of_ble_eq_true rfl, Nat.le_of_ble_eq_true rfl⟩ rfl (Nat.le_of_ble_eq_true rfl) dL_law_1011 ⟨by omega, by omega⟩) rfl (Nat.le_refl _) (Nat.le_refl _) ?_
  refine z_iload (k := 1) (pc := 1014) C dL_law_1014 rfl ?_
  refine z_icmp_eq_t (pc := 1016) (tgt := 1021) C dL_law_1016 (by decide) rfl ?_
  refine z_iload (k := 1) (pc := 1021) C dL_law_1021 rfl ?_
  have fin : LW p l e s m below meth c G lo b d0 (cells + 4 + 0) (slots + 40 + 0) 1038 ((6, .int r) :: (5, .int v) :: lv5 lo b i) [] h5 n1 := by
    refine z_goto (pc := 1038) (tgt := 1189) C dL_law_1038 (by decide) ?_
    refine z_wide (kc := cells + 100) (ks := slots + 1000) (by omega) (by omega) ?_
    exact z_sub [2, 3, 4, 5, 6] rfl (K d0 h5 n1 hd0 L5)
  by_cases hv : v = 0
  · obtain ⟨f, hf, hf0⟩ := hval hv
    refine z_if_ne_f (pc := 1023) (tgt := 1038) C dL_law_1023 (by decide) hv ?_
    refine z_aload_n (k := 3) (pc := 1026) C dL_law_1026 rfl ?_
    refine z_iconst (v := 0) (pc := 1027) C dL_law_1027 (by decide) ?_
    refine z_laload (pc := 1028) C hf vin_0 dL_law_1028 ?_
    refine z_iload (k := 0) (pc := 1029) C dL_law_1029 rfl ?_
    refine z_i2l (pc := 1031) C dL_law_1031 ?_
    refine z_lcmp (pc := 1032) C dL_law_1032 ?_
    exact z_if_eq_t (pc := 1033) (tgt := 1038) C dL_law_1033 (by decide) ((congrArg (fun z => lg_cmp z r.toInt64) hf0).trans (lgc_self _)) fin
  · exact z_if_ne_t (pc := 1023) (tgt := 1038) C dL_law_1023 (by decide) hv fin
set_option maxHeartbeats 4000000 in
theorem law_best (X : LCx p l s m meth c G lo t0 b L xs) (hd0 : s.drawn.sameBut d0 lw_cs) (I : LI t0 lo h nx) (hi : i + 7 ≤ L) (hc : cells + 100 ≤ room_1.cells) (hs : slots + 1000 ≤ room_1.slots) (K : LK p l e s m below meth c G lo t0 b i cells slots) : LW p l e s m below meth c G lo b d0 cells slots 1041 (lv5 lo b i) [] h nx := by
  obtain ⟨C0, hN0, hX0, hbl, hlo, hL, hl⟩ := X
  have C := C0.dr d0
  have hN : z_N (s.setDrawn d0) := z_N.moved (u := s) (U := s.setDrawn d0) (Vm.Alike.refl s.vm) hN0
  have hX : va_X b L xs (s.setDrawn d0) (s.setDrawn d0).heap := va_X.moved (u := s) (U := s.setDrawn d0) (Vm.Alike.refl s.vm) hX0
  have hbl2 : b < (s.setDrawn d0).heap.size := hbl
  have hb : b < lo := by omega
  obtain ⟨ck4, ck6, h19⟩ := I.ck
  obtain ⟨o, hM, hE, hO, both⟩ := both_best I (xs (i + 1)) (xs (i + 2)) (xs (i + 3))
  refine z_aload_n (k := 3) (pc := 1041) C dL_law_1041 rfl ?_
  refine z_arg (pc := 1042) (q0 := 4) (q4 := 0) (i := i) (j := 1) C hX hbl2 hb hL dL_law_1042 dL_law_1043 dL_law_1045 dL_law_1046 dL_law_1047 rfl rfl rfl (by omega) ?_
  refine z_arg (pc := 1048) (q0 := 4) (q4 := 0) (i := i) (j := 2) C hX hbl2 hb hL dL_law_1048 dL_law_1049 dL_law_1051 dL_law_1052 dL_law_1053 rfl rfl rfl (by omega) ?_
  refine z_arg (pc := 1054) (q0 := 4) (q4 := 0) (i := i) (j := 3) C hX hbl2 hb hL dL_law_1054 dL_law_1055 dL_law_1057 dL_law_1058 dL_law_1059 rfl rfl rfl (by omega) ?_
  refine z_aload_n (k := 1) (pc := 1060) C dL_law_1060 rfl ?_
  refine z_callH (pc := 1061) (As := [.ref lo, .int (xs (i + 1)), .int (xs (i + 2)), .int (xs (i + 3)), .ref (lo + 18)]) (rest := []) (n := 5) (fr := 8) (lc := 140) (mc := 4) (ms := 40) C hN (h_best l hl G lo t0 h nx lo (xs (i + 1)) (xs (i + 2)) (xs (i + 3)) (lo + 18) o hM ck4 hE hO) q_694 q_695 q_77 q_696 ⟨by decide +kernel, by decide +kernel, by decide +kernel⟩ ⟨Nat.le_of_ble_eq_true rfl, Nat.le_of_ble_eq_true rfl⟩ rfl (Nat.le_of_ble_eq_true rfl) dL_law_1061 ⟨by omega, by omega⟩ _ rfl (fun v h1 n1 hR => ?_)
  obtain ⟨r, h5, n5, hM5, ck1, hth, hval, L5⟩ := both v h1 n1 hR
  refine z_istore (lv' := (5, .int v) :: lv5 lo b i) (pc := 1064) C dL_law_1064 (by decide) rfl ?_
  refine z_aload_n (k := 3) (pc := 1066) C dL_law_1066 rfl ?_
  refine z_arg (pc := 1067) (q0 := 5) (q4 := 1) (i := i) (j := 1) C hX hbl2 hb hL dL_law_1067 dL_law_1068 dL_law_1070 dL_law_1071 dL_law_1072 rfl rfl rfl (by omega) ?_
  refine z_arg (pc := 1073) (q0 := 5) (q4 := 1) (i := i) (j := 2) C hX hbl2 hb hL dL_law_1073 dL_law_1074 dL_law_1076 dL_law_1077 dL_law_1078 rfl rfl rfl (by omega) ?_
  refine z_arg (pc := 1079) (q0 := 5) (q4 := 1) (i := i) (j := 3) C hX hbl2 hb hL dL_law_1079 dL_law_1080 dL_law_1082 dL_law_1083 dL_law_1084 rfl rfl rfl (by omega) ?_
  refine z_goN (kc := cells + 4 + 2) (ks := slots + 40 + 27) ([.int r]) (z_callV (pc := 1085) (As := [.int (xs (i + 1)), .int (xs (i + 2)), .int (xs (i + 3))]) (rest := []) (n := 3) (ci := 6) C (c_X5_best l hl G lo t0 h1 n1 (lo + 11) (xs (i + 1)) (xs (i + 2)) (xs (i + 3)) _ hM5) ck1 rfl q_705 q_706 q_707 q_5 q_708 ⟨rfl, by decide +kernel, by decide +kernel, by decide +kernel⟩ ⟨Nat.le_of_ble_eq_true rfl, Nat.le_of_ble_eq_true rfl⟩ rfl (Nat.le_of_ble_eq_true rfl) dL_law_1085 ⟨by omega, by omega⟩) rfl (Nat.le_refl _) (Nat.le_refl _) ?_
  refine z_istore (lv' := (6, .int r) :: (5, .int v) :: lv5 lo b i) (pc := 1088) C dL_law_1088 (by decide) rfl ?_
  refine z_aload_n (k := 4) (pc := 1090) C dL_law_1090 rfl ?_
  refine z_goN (kc := cells + 4 + 2) (ks := slots + 40 + 27) ([.int v]) (z_callV (pc := 1091) (As := []) (rest := []) (n := 0) (ci := 6) C (c_X5_thrown l hl G lo t0 h5 n5 (lo + 11) v (by simp only [M_X5_thrown, hth, Option.bind_some])) L5.ck.2.1 rfl q_230 q_231 q_232 q_5 q_233 ⟨rfl, by decide +kernel, by decide +kernel, by decide +kernel⟩ ⟨Nat.le_of_ble_eq_true rfl, Nat.le_of_ble_eq_true rfl⟩ rfl (Nat.le_of_ble_eq_true rfl) dL_law_1091 ⟨by omega, by omega⟩) rfl (Nat.le_refl _) (Nat.le_refl _) ?_
  refine z_iload (k := 1) (pc := 1094) C dL_law_1094 rfl ?_
  refine z_icmp_eq_t (pc := 1096) (tgt := 1101) C dL_law_1096 (by decide) rfl ?_
  refine z_iload (k := 1) (pc := 1101) C dL_law_1101 rfl ?_
  have fin : LW p l e s m below meth c G lo b d0 (cells + 4 + 2) (slots + 40 + 27) 1118 ((6, .int r) :: (5, .int v) :: lv5 lo b i) [] h5 n5 := by
    refine z_goto (pc := 1118) (tgt := 1189) C dL_law_1118 (by decide) ?_
    refine z_wide (kc := cells + 100) (ks := slots + 1000) (by omega) (by omega) ?_
    exact z_sub [2, 3, 4, 5, 6] rfl (K d0 h5 n5 hd0 L5)
  by_cases hv : v = 0
  · obtain ⟨f, hf, hf0⟩ := hval hv
    refine z_if_ne_f (pc := 1103) (tgt := 1118) C dL_law_1103 (by decide) hv ?_
    refine z_aload_n (k := 3) (pc := 1106) C dL_law_1106 rfl ?_
    refine z_iconst (v := 0) (pc := 1107) C dL_law_1107 (by decide) ?_
    refine z_laload (pc := 1108) C hf vin_0 dL_law_1108 ?_
    refine z_iload (k := 0) (pc := 1109) C dL_law_1109 rfl ?_
    refine z_i2l (pc := 1111) C dL_law_1111 ?_
    refine z_lcmp (pc := 1112) C dL_law_1112 ?_
    exact z_if_eq_t (pc := 1113) (tgt := 1118) C dL_law_1113 (by decide) ((congrArg (fun z => lg_cmp z r.toInt64) hf0).trans (lgc_self _)) fin
  · exact z_if_ne_t (pc := 1103) (tgt := 1118) C dL_law_1103 (by decide) hv fin
set_option maxHeartbeats 4000000 in
theorem law_advise (X : LCx p l s m meth c G lo t0 b L xs) (hd0 : s.drawn.sameBut d0 lw_cs) (I : LI t0 lo h nx) (hi : i + 7 ≤ L) (hc : cells + 100 ≤ room_1.cells) (hs : slots + 1000 ≤ room_1.slots) (K : LK p l e s m below meth c G lo t0 b i cells slots) : LW p l e s m below meth c G lo b d0 cells slots 1121 (lv5 lo b i) [] h nx := by
  obtain ⟨C0, hN0, hX0, hbl, hlo, hL, hl⟩ := X
  have C := C0.dr d0
  have hN : z_N (s.setDrawn d0) := z_N.moved (u := s) (U := s.setDrawn d0) (Vm.Alike.refl s.vm) hN0
  have hX : va_X b L xs (s.setDrawn d0) (s.setDrawn d0).heap := va_X.moved (u := s) (U := s.setDrawn d0) (Vm.Alike.refl s.vm) hX0
  have hbl2 : b < (s.setDrawn d0).heap.size := hbl
  have hb : b < lo := by omega
  obtain ⟨ck4, ck6, h19⟩ := I.ck
  obtain ⟨th, n, A, D, sn, S, B, G2, hr, ro, IC1, IM1, f0, ho⟩ := I
  have e1 := c_advise IC1
  obtain ⟨h5, e5, J5, fr5⟩ := m_advise (nx := nx) IM1
  obtain ⟨L5, -⟩ := LI_step IC1 fr5 J5 ho (Nat.le_refl _)
  refine z_aload_n (k := 3) (pc := 1121) C dL_law_1121 rfl ?_
  refine z_goN (kc := cells) (ks := slots) ([.int (zi (adS A n n).1)]) (z_callV (pc := 1122) (As := []) (rest := []) (n := 0) (ci := 5) C (c_X4_advise l hl G lo t0 h nx lo _ e1) ck4 rfl q_709 q_710 q_711 q_2 q_712 ⟨rfl, by decide +kernel, by decide +kernel, by decide +kernel⟩ ⟨Nat.le_of_ble_eq_true rfl, Nat.le_of_ble_eq_true rfl⟩ rfl (Nat.le_of_ble_eq_true rfl) dL_law_1122 ⟨by omega, by omega⟩) rfl (Nat.le_refl _) (Nat.le_refl _) ?_
  refine z_aload_n (k := 2) (pc := 1125) C dL_law_1125 rfl ?_
  refine z_goN (kc := cells) (ks := slots) ([.int (zi (adS A n n).1), .int (zi (adS A n n).1)]) (z_callV (pc := 1126) (As := []) (rest := [.int (zi (adS A n n).1)]) (n := 0) (ci := 6) C (c_X5_advise l hl G lo t0 h nx (lo + 11) _ e5) ck6 rfl q_713 q_714 q_715 q_5 q_716 ⟨rfl, by decide +kernel, by decide +kernel, by decide +kernel⟩ ⟨Nat.le_of_ble_eq_true rfl, Nat.le_of_ble_eq_true rfl⟩ rfl (Nat.le_of_ble_eq_true rfl) dL_law_1126 ⟨by omega, by omega⟩) rfl (Nat.le_refl _) (Nat.le_refl _) ?_
  refine z_icmp_eq_t (pc := 1129) (tgt := 1189) C dL_law_1129 (by decide) rfl ?_
  exact z_wide (kc := cells + 100) (ks := slots + 1000) (by omega) (by omega) (K d0 h5 nx hd0 L5)
set_option maxHeartbeats 4000000 in
theorem law_mean (X : LCx p l s m meth c G lo t0 b L xs) (hd0 : s.drawn.sameBut d0 lw_cs) (I : LI t0 lo h nx) (hi : i + 7 ≤ L) (hc : cells + 100 ≤ room_1.cells) (hs : slots + 1000 ≤ room_1.slots) (K : LK p l e s m below meth c G lo t0 b i cells slots) : LW p l e s m below meth c G lo b d0 cells slots 1134 (lv5 lo b i) [] h nx := by
  obtain ⟨C0, hN0, hX0, hbl, hlo, hL, hl⟩ := X
  have C := C0.dr d0
  have hN : z_N (s.setDrawn d0) := z_N.moved (u := s) (U := s.setDrawn d0) (Vm.Alike.refl s.vm) hN0
  have hX : va_X b L xs (s.setDrawn d0) (s.setDrawn d0).heap := va_X.moved (u := s) (U := s.setDrawn d0) (Vm.Alike.refl s.vm) hX0
  have hbl2 : b < (s.setDrawn d0).heap.size := hbl
  have hb : b < lo := by omega
  obtain ⟨ck4, ck6, h19⟩ := I.ck
  obtain ⟨th, n, A, D, sn, S, B, G2, hr, ro, IC1, IM1, f0, ho⟩ := I
  obtain ⟨L5, -⟩ := LI_step IC1 (frM_hT (t := 0) (n := n) (sn := sn) (hr := hr) (ro := ro)) (IM1.hT 0) ho (Nat.le_refl _)
  refine z_aload_n (k := 3) (pc := 1134) C dL_law_1134 rfl ?_
  refine z_callD (pc := 1135) (As := []) (rest := []) (n := 0) (ci := 5) C hd0 (c_X4_mean l hl G IC1) ck4 rfl q_717 q_718 q_719 q_2 q_720 ⟨rfl, by decide +kernel, by decide +kernel, by decide +kernel⟩ ⟨Nat.le_of_ble_eq_true rfl, Nat.le_of_ble_eq_true rfl⟩ rfl (Nat.le_of_ble_eq_true rfl) dL_law_1135 ⟨by omega, by omega⟩ _ rfl (fun r1 d1 al1 hd1 => ?_)
  have C1 := C0.dr d1
  refine z_dstore (lv' := (5, .double r1) :: lv5 lo b i) (pc := 1138) C1 dL_law_1138 (by decide) rfl ?_
  refine z_aload_n (k := 3) (pc := 1140) C1 dL_law_1140 rfl ?_
  refine z_callD (pc := 1141) (As := []) (rest := []) (n := 0) (ci := 6) C1 hd1 (c_X5_mean l hl G IM1) ck6 rfl q_721 q_722 q_723 q_5 q_724 ⟨rfl, by decide +kernel, by decide +kernel, by decide +kernel⟩ ⟨Nat.le_of_ble_eq_true rfl, Nat.le_of_ble_eq_true rfl⟩ rfl (Nat.le_of_ble_eq_true rfl) dL_law_1141 ⟨by omega, by omega⟩ _ rfl (fun r2 d2 al2 hd2 => ?_)
  have C2 := C0.dr d2
  refine z_dstore (lv' := (7, .double r2) :: (5, .double r1) :: lv5 lo b i) (pc := 1144) C2 dL_law_1144 (by decide) rfl ?_
  have fin : LW p l e s m below meth c G lo b d2 cells slots 1172 ((7, .double r2) :: (5, .double r1) :: lv5 lo b i) [] (hT h (lo + 11) 0 n sn hr ro) nx := by
    refine z_goto (pc := 1172) (tgt := 1189) C2 dL_law_1172 (by decide) ?_
    refine z_wide (kc := cells + 100) (ks := slots + 1000) (by omega) (by omega) ?_
    exact z_sub [2, 3, 4, 5, 6] rfl (K d2 _ nx hd2 L5)
  refine z_dload (k := 1) (pc := 1146) C2 dL_law_1146 rfl ?_
  refine z_dload (k := 0) (pc := 1148) C2 dL_law_1148 rfl ?_
  refine z_dcmp (pc := 1150) C2 dL_law_1150 ?_
  rcases mean_cmp al1 al2 with hz | ⟨hz1, hz2⟩
  · exact z_if_eq_t (pc := 1151) (tgt := 1172) C2 dL_law_1151 (by decide) hz fin
  · by_cases hz : Op.cmpValue (FP.dcmp r1 r2) .l = 0
    · exact z_if_eq_t (pc := 1151) (tgt := 1172) C2 dL_law_1151 (by decide) hz fin
    · refine z_if_eq_f (pc := 1151) (tgt := 1172) C2 dL_law_1151 (by decide) hz ?_
      refine z_dload (k := 1) (pc := 1154) C2 dL_law_1154 rfl ?_
      refine z_dload (k := 1) (pc := 1156) C2 dL_law_1156 rfl ?_
      refine z_dcmp (pc := 1158) C2 dL_law_1158 ?_
      refine z_if_eq_f (pc := 1159) (tgt := 1170) C2 dL_law_1159 (by decide) hz1 ?_
      refine z_dload (k := 0) (pc := 1162) C2 dL_law_1162 rfl ?_
      refine z_dload (k := 0) (pc := 1164) C2 dL_law_1164 rfl ?_
      refine z_dcmp (pc := 1166) C2 dL_law_1166 ?_
      exact z_if_ne_t (pc := 1167) (tgt := 1172) C2 dL_law_1167 (by decide) hz2 fin
set_option maxHeartbeats 4000000 in
theorem law_digest (X : LCx p l s m meth c G lo t0 b L xs) (hd0 : s.drawn.sameBut d0 lw_cs) (I : LI t0 lo h nx) (hi : i + 7 ≤ L) (hc : cells + 100 ≤ room_1.cells) (hs : slots + 1000 ≤ room_1.slots) (K : LK p l e s m below meth c G lo t0 b i cells slots) : LW p l e s m below meth c G lo b d0 cells slots 1175 (lv5 lo b i) [] h nx := by
  obtain ⟨C0, hN0, hX0, hbl, hlo, hL, hl⟩ := X
  have C := C0.dr d0
  have hN : z_N (s.setDrawn d0) := z_N.moved (u := s) (U := s.setDrawn d0) (Vm.Alike.refl s.vm) hN0
  have hX : va_X b L xs (s.setDrawn d0) (s.setDrawn d0).heap := va_X.moved (u := s) (U := s.setDrawn d0) (Vm.Alike.refl s.vm) hX0
  have hbl2 : b < (s.setDrawn d0).heap.size := hbl
  have hb : b < lo := by omega
  obtain ⟨ck4, ck6, h19⟩ := I.ck
  obtain ⟨th, n, A, D, sn, S, B, G2, hr, ro, IC1, IM1, f0, ho⟩ := I
  obtain ⟨h1, e1, I1, fr1⟩ := c_digest IC1
  have J1 := IM1.fr (h' := h1) (fun q q1 q2 => fr1 q q1 (by omega))
  obtain ⟨h5, n5, e5, hn5, J5, fr5⟩ := m_digest (nx := nx) (by omega) J1
  obtain ⟨L5, -⟩ := LI_step I1 fr5 J5 ((fr1 _ (by omega) (by omega)).trans ho) hn5
  refine z_aload_n (k := 3) (pc := 1175) C dL_law_1175 rfl ?_
  refine z_goN (kc := cells) (ks := slots) ([.long (digS A n D S B sn G2 hr ro)]) (z_callV (pc := 1176) (As := []) (rest := []) (n := 0) (ci := 5) C (c_X4_digest l hl G lo t0 h nx lo _ e1) ck4 rfl q_725 q_726 q_727 q_2 q_728 ⟨rfl, by decide +kernel, by decide +kernel, by decide +kernel⟩ ⟨Nat.le_of_ble_eq_true rfl, Nat.le_of_ble_eq_true rfl⟩ rfl (Nat.le_of_ble_eq_true rfl) dL_law_1176 ⟨by omega, by omega⟩) rfl (Nat.le_refl _) (Nat.le_refl _) ?_
  refine z_aload_n (k := 2) (pc := 1179) C dL_law_1179 rfl ?_
  refine z_goN (kc := cells + 22) (ks := slots + 572) ([.long (digS A n D S B sn G2 hr ro), .long (digS A n D S B sn G2 hr ro)]) (z_callV (pc := 1180) (As := []) (rest := [.long (digS A n D S B sn G2 hr ro)]) (n := 0) (ci := 6) C (c_X5_digest l hl G lo t0 h1 nx (lo + 11) _ e5) (ck_of J1.1) rfl q_740 q_741 q_742 q_5 q_743 ⟨rfl, by decide +kernel, by decide +kernel, by decide +kernel⟩ ⟨Nat.le_of_ble_eq_true rfl, Nat.le_of_ble_eq_true rfl⟩ rfl (Nat.le_of_ble_eq_true rfl) dL_law_1180 ⟨by omega, by omega⟩) rfl (Nat.le_refl _) (Nat.le_refl _) ?_
  refine z_lcmp (pc := 1183) C dL_law_1183 ?_
  refine z_if_eq_t (pc := 1184) (tgt := 1189) C dL_law_1184 (by decide) (lgc_self _) ?_
  exact z_wide (kc := cells + 100) (ks := slots + 1000) (by omega) (by omega) (K d0 h5 n5 hd0 L5)
end CASES
