/-! each operation, by both (laid by gen_both.py) -/
section BOTH
variable {t0 lo : Nat} {h : zH} {nx : Nat}
theorem both_hang (L : LI t0 lo h nx) (x1 x2 x3 x4 x5 x6 : Int32) : ∃ o : String ⊕ (Int32 × zH × Nat), M_X4_hang h nx t0 lo x1 x2 x3 x4 x5 x6 = some o ∧ (∀ E, o = .inl E → E = sIA ∨ E = sIO ∨ E = sIS) ∧ (∀ z, o = .inr z → ∃ f, z.2.1 (lo + 18) = some (zL 1 f)) ∧
    ∀ v h1 n1, hRel h nx (lo + 18) (z_eo h o (fun z : Int32 × zH × Nat => (some (.int z.1), z.2.1, z.2.2))) vI (fun E => if E = sIA then 1 else if E = sIO then 2 else 3) v h1 n1 → ∃ r h5 n5, M_X5_hang h1 n1 (lo + 11) x1 x2 x3 x4 x5 x6 = some (r, h5, n5) ∧ z_ck h1 (lo + 11) 6 = some () ∧ z_gI h5 (lo + 11) 6 0 = some v ∧ (v = 0 → ∃ f, h5 (lo + 18) = some (zL 1 f) ∧ f 0 = vI (.int r)) ∧ LI t0 lo h5 n5 := by
  obtain ⟨th, n, A, D, sn, S, B, G, hr, ro, I, J, f0, ho⟩ := L
  have h19 := I.nx19
  obtain ⟨a1, rfl, b1⟩ := zi_ex x1
  obtain ⟨a2, rfl, b2⟩ := zi_ex x2
  obtain ⟨a3, rfl, b3⟩ := zi_ex x3
  obtain ⟨a4, rfl, b4⟩ := zi_ex x4
  obtain ⟨a5, rfl, b5⟩ := zi_ex x5
  obtain ⟨a6, rfl, b6⟩ := zi_ex x6
  by_cases g1 : okH a3 a4 a5 a6
  · by_cases g2 : 0 ≤ a1 ∧ a1 ≤ 24 - a3 ∧ 0 ≤ a2 ∧ a2 ≤ 24 - a4
    · by_cases g3 : n < 10
      · have _ := g3
        obtain ⟨h', nx', e1, hnx, I', fr⟩ := (((c_hang I b1 b2 b3 b4 b5 b6).2 g1).2 g2).2 g3
        refine ⟨_, e1, fun E q => (by cases q), fun z q => (by cases q; exact ⟨f0, (fr _ (by omega) (by omega)).trans ho⟩), fun v h1 n1 hR => ?_⟩
        rcases hR with ⟨w, h2, n2, f, q1, rfl, rfl, q4, rfl⟩ | ⟨E, h2, q1, -⟩
        · cases q1
          obtain ⟨I1, J1⟩ := LI_out f I' fr J
          obtain ⟨h5, n5, e5, hn5, J5, fr5⟩ := (((m_hang (nx := nx') (by omega) J1 b1 b2 b3 b4 b5 b6).2 g1).2 g2).2 g3
          obtain ⟨L1, L2⟩ := LI_step I1 fr5 J5 (up_at ..) (hn5)
          exact ⟨_, h5, _, e5, ck_of J1.1, gI_of J5.1 (k := 0) rfl, fun _ => ⟨f, L2, q4⟩, L1⟩
        · cases q1
      · have g4 : n = 10 := by have := J.2.1.1; omega
        refine ⟨_, (((c_hang I b1 b2 b3 b4 b5 b6).2 g1).2 g2).1 g4, fun E q => (by cases q; exact .inr (.inr (rfl))), fun z q => (by cases q), fun v h1 n1 hR => ?_⟩
        rcases hR with ⟨w, h2, n2, f, q1, -⟩ | ⟨E, h2, q1, hv, rfl, hn⟩
        · cases q1
        · cases q1
          obtain ⟨h5, e5, J5, fr5⟩ := (((m_hang (nx := n1) (by omega) J b1 b2 b3 b4 b5 b6).2 g1).2 g2).1 g4
          have hv2 : v = 3 := hv.trans (by decide)
          obtain ⟨L1, L2⟩ := LI_step (I.fr (fun _ _ => rfl) hn) fr5 J5 ho (Nat.le_refl _)
          exact ⟨_, h5, _, e5, ck_of J.1, (gI_of J5.1 (k := 0) rfl).trans (congrArg some hv2.symm), fun q => absurd (hv2.symm.trans q) (by decide), L1⟩
    · have _ := g2
      refine ⟨_, ((c_hang I b1 b2 b3 b4 b5 b6).2 g1).1 g2, fun E q => (by cases q; exact .inr (.inl rfl)), fun z q => (by cases q), fun v h1 n1 hR => ?_⟩
      rcases hR with ⟨w, h2, n2, f, q1, -⟩ | ⟨E, h2, q1, hv, rfl, hn⟩
      · cases q1
      · cases q1
        obtain ⟨h5, e5, J5, fr5⟩ := ((m_hang (nx := n1) (by omega) J b1 b2 b3 b4 b5 b6).2 g1).1 g2
        have hv2 : v = 2 := hv.trans (by decide)
        obtain ⟨L1, L2⟩ := LI_step (I.fr (fun _ _ => rfl) hn) fr5 J5 ho (Nat.le_refl _)
        exact ⟨_, h5, _, e5, ck_of J.1, (gI_of J5.1 (k := 0) rfl).trans (congrArg some hv2.symm), fun q => absurd (hv2.symm.trans q) (by decide), L1⟩
  · have _ := g1
    refine ⟨_, (c_hang I b1 b2 b3 b4 b5 b6).1 g1, fun E q => (by cases q; exact .inl rfl), fun z q => (by cases q), fun v h1 n1 hR => ?_⟩
    rcases hR with ⟨w, h2, n2, f, q1, -⟩ | ⟨E, h2, q1, hv, rfl, hn⟩
    · cases q1
    · cases q1
      obtain ⟨h5, e5, J5, fr5⟩ := (m_hang (nx := n1) (by omega) J b1 b2 b3 b4 b5 b6).1 g1
      have hv2 : v = 1 := hv.trans (by decide)
      obtain ⟨L1, L2⟩ := LI_step (I.fr (fun _ _ => rfl) hn) fr5 J5 ho (Nat.le_refl _)
      exact ⟨_, h5, _, e5, ck_of J.1, (gI_of J5.1 (k := 0) rfl).trans (congrArg some hv2.symm), fun q => absurd (hv2.symm.trans q) (by decide), L1⟩
theorem both_roll (L : LI t0 lo h nx) (x1 : Int32) : ∃ o : String ⊕ (Int32 × zH), M_X4_roll h lo x1 = some o ∧ (∀ E, o = .inl E → E = sIO) ∧ (∀ z, o = .inr z → ∃ f, z.2 (lo + 18) = some (zL 1 f)) ∧
    ∀ v h1 n1, hRel h nx (lo + 18) (z_eo h o (fun z : Int32 × zH => (some (.int z.1), z.2, nx))) vZ (fun E => 1) v h1 n1 → ∃ r h5, M_X5_roll h1 (lo + 11) x1 = some (r, h5) ∧ z_ck h1 (lo + 11) 6 = some () ∧ z_gI h5 (lo + 11) 6 0 = some v ∧ (v = 0 → ∃ f, h5 (lo + 18) = some (zL 1 f) ∧ f 0 = vZ (.int r)) ∧ LI t0 lo h5 n1 := by
  obtain ⟨th, n, A, D, sn, S, B, G, hr, ro, I, J, f0, ho⟩ := L
  have h19 := I.nx19
  obtain ⟨a1, rfl, b1⟩ := zi_ex x1
  by_cases g : 0 ≤ a1 ∧ a1 < n
  · have _ := g
    obtain ⟨h', e1, I', fr⟩ := (c_roll I b1).1 g
    refine ⟨_, e1, fun E q => (by cases q), fun z q => (by cases q; exact ⟨f0, (fr _ (by omega) (by omega)).trans ho⟩), fun v h1 n1 hR => ?_⟩
    rcases hR with ⟨w, h2, n2, f, q1, rfl, rfl, q4, rfl⟩ | ⟨E, h2, q1, -⟩
    · cases q1
      obtain ⟨I1, J1⟩ := LI_out f I' fr J
      obtain ⟨h5, e5, J5, fr5⟩ := (m_roll (nx := _) J1 b1).1 g
      obtain ⟨L1, L2⟩ := LI_step I1 fr5 J5 (up_at ..) (Nat.le_refl _)
      exact ⟨_, h5, e5, ck_of J1.1, gI_of J5.1 (k := 0) rfl, fun _ => ⟨f, L2, q4⟩, L1⟩
    · cases q1
  · have _ := g
    refine ⟨_, (c_roll I b1).2 g, fun E q => (by cases q; rfl), fun z q => (by cases q), fun v h1 n1 hR => ?_⟩
    rcases hR with ⟨w, h2, n2, f, q1, -⟩ | ⟨E, h2, q1, hv, rfl, hn⟩
    · cases q1
    · cases q1
      obtain ⟨h5, e5, J5, fr5⟩ := (m_roll (nx := n1) J b1).2 g
      have hv2 : v = 1 := hv.trans (by decide)
      obtain ⟨L1, L2⟩ := LI_step (I.fr (fun _ _ => rfl) hn) fr5 J5 ho (Nat.le_refl _)
      exact ⟨_, h5, e5, ck_of J.1, (gI_of J5.1 (k := 0) rfl).trans (congrArg some hv2.symm), fun q => absurd (hv2.symm.trans q) (by decide), L1⟩
theorem both_move (L : LI t0 lo h nx) (x1 x2 x3 : Int32) : ∃ o : String ⊕ (Int32 × zH), M_X4_move h lo x1 x2 x3 = some o ∧ (∀ E, o = .inl E → E = sIO) ∧ (∀ z, o = .inr z → ∃ f, z.2 (lo + 18) = some (zL 1 f)) ∧
    ∀ v h1 n1, hRel h nx (lo + 18) (z_eo h o (fun z : Int32 × zH => (some (.int z.1), z.2, nx))) vI (fun E => 1) v h1 n1 → ∃ r h5 n5, M_X5_move h1 n1 (lo + 11) x1 x2 x3 = some (r, h5, n5) ∧ z_ck h1 (lo + 11) 6 = some () ∧ z_gI h5 (lo + 11) 6 0 = some v ∧ (v = 0 → ∃ f, h5 (lo + 18) = some (zL 1 f) ∧ f 0 = vI (.int r)) ∧ LI t0 lo h5 n5 := by
  obtain ⟨th, n, A, D, sn, S, B, G, hr, ro, I, J, f0, ho⟩ := L
  have h19 := I.nx19
  obtain ⟨a1, rfl, b1⟩ := zi_ex x1
  obtain ⟨a2, rfl, b2⟩ := zi_ex x2
  obtain ⟨a3, rfl, b3⟩ := zi_ex x3
  by_cases g : (0 ≤ a1 ∧ a1 < n) ∧ 0 ≤ a2 ∧ a2 ≤ 24 - A a1.toNat 2 ∧ 0 ≤ a3 ∧ a3 ≤ 24 - A a1.toNat 3
  · have _ := g
    obtain ⟨h', e1, I', fr⟩ := (c_move I b1 b2 b3).1 g
    refine ⟨_, e1, fun E q => (by cases q), fun z q => (by cases q; exact ⟨f0, (fr _ (by omega) (by omega)).trans ho⟩), fun v h1 n1 hR => ?_⟩
    rcases hR with ⟨w, h2, n2, f, q1, rfl, rfl, q4, rfl⟩ | ⟨E, h2, q1, -⟩
    · cases q1
      obtain ⟨I1, J1⟩ := LI_out f I' fr J
      obtain ⟨h5, e5, J5, fr5⟩ := (m_move (nx := _) J1 b1 b2 b3).1 g
      obtain ⟨L1, L2⟩ := LI_step I1 fr5 J5 (up_at ..) (Nat.le_refl _)
      exact ⟨_, h5, _, e5, ck_of J1.1, gI_of J5.1 (k := 0) rfl, fun _ => ⟨f, L2, q4⟩, L1⟩
    · cases q1
  · have _ := g
    refine ⟨_, (c_move I b1 b2 b3).2 g, fun E q => (by cases q; rfl), fun z q => (by cases q), fun v h1 n1 hR => ?_⟩
    rcases hR with ⟨w, h2, n2, f, q1, -⟩ | ⟨E, h2, q1, hv, rfl, hn⟩
    · cases q1
    · cases q1
      obtain ⟨h5, e5, J5, fr5⟩ := (m_move (nx := n1) J b1 b2 b3).2 g
      have hv2 : v = 1 := hv.trans (by decide)
      obtain ⟨L1, L2⟩ := LI_step (I.fr (fun _ _ => rfl) hn) fr5 J5 ho (Nat.le_refl _)
      exact ⟨_, h5, _, e5, ck_of J.1, (gI_of J5.1 (k := 0) rfl).trans (congrArg some hv2.symm), fun q => absurd (hv2.symm.trans q) (by decide), L1⟩
theorem both_take (L : LI t0 lo h nx) (x1 : Int32) : ∃ o : String ⊕ (Int32 × zH), M_X4_take h lo x1 = some o ∧ (∀ E, o = .inl E → E = sIO) ∧ (∀ z, o = .inr z → ∃ f, z.2 (lo + 18) = some (zL 1 f)) ∧
    ∀ v h1 n1, hRel h nx (lo + 18) (z_eo h o (fun z : Int32 × zH => (some (.int z.1), z.2, nx))) vI (fun E => 1) v h1 n1 → ∃ r h5, M_X5_take h1 (lo + 11) x1 = some (r, h5) ∧ z_ck h1 (lo + 11) 6 = some () ∧ z_gI h5 (lo + 11) 6 0 = some v ∧ (v = 0 → ∃ f, h5 (lo + 18) = some (zL 1 f) ∧ f 0 = vI (.int r)) ∧ LI t0 lo h5 n1 := by
  obtain ⟨th, n, A, D, sn, S, B, G, hr, ro, I, J, f0, ho⟩ := L
  have h19 := I.nx19
  obtain ⟨a1, rfl, b1⟩ := zi_ex x1
  by_cases g : 0 ≤ a1 ∧ a1 < n
  · have _ := g
    obtain ⟨h', e1, I', fr⟩ := (c_take I b1).1 g
    refine ⟨_, e1, fun E q => (by cases q), fun z q => (by cases q; exact ⟨f0, (fr _ (by omega) (by omega)).trans ho⟩), fun v h1 n1 hR => ?_⟩
    rcases hR with ⟨w, h2, n2, f, q1, rfl, rfl, q4, rfl⟩ | ⟨E, h2, q1, -⟩
    · cases q1
      obtain ⟨I1, J1⟩ := LI_out f I' fr J
      obtain ⟨h5, e5, J5, fr5⟩ := (m_take (nx := _) J1 b1).1 g
      obtain ⟨L1, L2⟩ := LI_step I1 fr5 J5 (up_at ..) (Nat.le_refl _)
      exact ⟨_, h5, e5, ck_of J1.1, gI_of J5.1 (k := 0) rfl, fun _ => ⟨f, L2, q4⟩, L1⟩
    · cases q1
  · have _ := g
    refine ⟨_, (c_take I b1).2 g, fun E q => (by cases q; rfl), fun z q => (by cases q), fun v h1 n1 hR => ?_⟩
    rcases hR with ⟨w, h2, n2, f, q1, -⟩ | ⟨E, h2, q1, hv, rfl, hn⟩
    · cases q1
    · cases q1
      obtain ⟨h5, e5, J5, fr5⟩ := (m_take (nx := n1) J b1).2 g
      have hv2 : v = 1 := hv.trans (by decide)
      obtain ⟨L1, L2⟩ := LI_step (I.fr (fun _ _ => rfl) hn) fr5 J5 ho (Nat.le_refl _)
      exact ⟨_, h5, e5, ck_of J.1, (gI_of J5.1 (k := 0) rfl).trans (congrArg some hv2.symm), fun q => absurd (hv2.symm.trans q) (by decide), L1⟩
theorem both_stall (L : LI t0 lo h nx) (x1 x2 : Int32) : ∃ o : String ⊕ (Int32 × zH × Nat), M_X4_stall h nx t0 lo x1 x2 = some o ∧ (∀ E, o = .inl E → E = sIO ∨ E = sIS) ∧ (∀ z, o = .inr z → ∃ f, z.2.1 (lo + 18) = some (zL 1 f)) ∧
    ∀ v h1 n1, hRel h nx (lo + 18) (z_eo h o (fun z : Int32 × zH × Nat => (some (.int z.1), z.2.1, z.2.2))) vI (fun E => if E = sIO then 1 else 2) v h1 n1 → ∃ r h5, M_X5_stall h1 (lo + 11) x1 x2 = some (r, h5) ∧ z_ck h1 (lo + 11) 6 = some () ∧ z_gI h5 (lo + 11) 6 0 = some v ∧ (v = 0 → ∃ f, h5 (lo + 18) = some (zL 1 f) ∧ f 0 = vI (.int r)) ∧ LI t0 lo h5 n1 := by
  obtain ⟨th, n, A, D, sn, S, B, G, hr, ro, I, J, f0, ho⟩ := L
  have h19 := I.nx19
  obtain ⟨a1, rfl, b1⟩ := zi_ex x1
  obtain ⟨a2, rfl, b2⟩ := zi_ex x2
  by_cases g1 : 0 ≤ a1 ∧ a1 < 24 ∧ 0 ≤ a2 ∧ a2 < 24
  · by_cases g2 : sn < 8 ∧ hsS S a1 a2 sn = false
    · have _ := g2
      obtain ⟨h', nx', e1, hnx, I', fr⟩ := ((c_stall I b1 b2).2 g1).2 g2
      refine ⟨_, e1, fun E q => (by cases q), fun z q => (by cases q; exact ⟨f0, (fr _ (by omega) (by omega)).trans ho⟩), fun v h1 n1 hR => ?_⟩
      rcases hR with ⟨w, h2, n2, f, q1, rfl, rfl, q4, rfl⟩ | ⟨E, h2, q1, -⟩
      · cases q1
        obtain ⟨I1, J1⟩ := LI_out f I' fr J
        obtain ⟨h5, e5, J5, fr5⟩ := ((m_stall (nx := _) J1 b1 b2).2 g1).2 g2
        obtain ⟨L1, L2⟩ := LI_step I1 fr5 J5 (up_at ..) (Nat.le_refl _)
        exact ⟨_, h5, e5, ck_of J1.1, gI_of J5.1 (k := 0) rfl, fun _ => ⟨f, L2, q4⟩, L1⟩
      · cases q1
    · have _ := g2
      refine ⟨_, ((c_stall I b1 b2).2 g1).1 g2, fun E q => (by cases q; exact .inr (rfl)), fun z q => (by cases q), fun v h1 n1 hR => ?_⟩
      rcases hR with ⟨w, h2, n2, f, q1, -⟩ | ⟨E, h2, q1, hv, rfl, hn⟩
      · cases q1
      · cases q1
        obtain ⟨h5, e5, J5, fr5⟩ := ((m_stall (nx := n1) J b1 b2).2 g1).1 g2
        have hv2 : v = 2 := hv.trans (by decide)
        obtain ⟨L1, L2⟩ := LI_step (I.fr (fun _ _ => rfl) hn) fr5 J5 ho (Nat.le_refl _)
        exact ⟨_, h5, e5, ck_of J.1, (gI_of J5.1 (k := 0) rfl).trans (congrArg some hv2.symm), fun q => absurd (hv2.symm.trans q) (by decide), L1⟩
  · have _ := g1
    refine ⟨_, (c_stall I b1 b2).1 g1, fun E q => (by cases q; exact .inl rfl), fun z q => (by cases q), fun v h1 n1 hR => ?_⟩
    rcases hR with ⟨w, h2, n2, f, q1, -⟩ | ⟨E, h2, q1, hv, rfl, hn⟩
    · cases q1
    · cases q1
      obtain ⟨h5, e5, J5, fr5⟩ := (m_stall (nx := n1) J b1 b2).1 g1
      have hv2 : v = 1 := hv.trans (by decide)
      obtain ⟨L1, L2⟩ := LI_step (I.fr (fun _ _ => rfl) hn) fr5 J5 ho (Nat.le_refl _)
      exact ⟨_, h5, e5, ck_of J.1, (gI_of J5.1 (k := 0) rfl).trans (congrArg some hv2.symm), fun q => absurd (hv2.symm.trans q) (by decide), L1⟩
theorem both_rain (L : LI t0 lo h nx) (x1 : Int32) : ∃ o : String ⊕ (Int32 × zH), M_X4_rain h lo x1 = some o ∧ (∀ E, o = .inl E → E = sIA) ∧ (∀ z, o = .inr z → ∃ f, z.2 (lo + 18) = some (zL 1 f)) ∧
    ∀ v h1 n1, hRel h nx (lo + 18) (z_eo h o (fun z : Int32 × zH => (some (.int z.1), z.2, nx))) vI (fun E => 1) v h1 n1 → ∃ r h5, M_X5_rain h1 (lo + 11) x1 = some (r, h5) ∧ z_ck h1 (lo + 11) 6 = some () ∧ z_gI h5 (lo + 11) 6 0 = some v ∧ (v = 0 → ∃ f, h5 (lo + 18) = some (zL 1 f) ∧ f 0 = vI (.int r)) ∧ LI t0 lo h5 n1 := by
  obtain ⟨th, n, A, D, sn, S, B, G, hr, ro, I, J, f0, ho⟩ := L
  have h19 := I.nx19
  obtain ⟨a1, rfl, b1⟩ := zi_ex x1
  by_cases g : 1 ≤ a1 ∧ a1 ≤ 20
  · have _ := g
    obtain ⟨h', e1, I', fr⟩ := (c_rain I b1).1 g
    refine ⟨_, e1, fun E q => (by cases q), fun z q => (by cases q; exact ⟨f0, (fr _ (by omega) (by omega)).trans ho⟩), fun v h1 n1 hR => ?_⟩
    rcases hR with ⟨w, h2, n2, f, q1, rfl, rfl, q4, rfl⟩ | ⟨E, h2, q1, -⟩
    · cases q1
      obtain ⟨I1, J1⟩ := LI_out f I' fr J
      obtain ⟨h5, e5, J5, fr5⟩ := (m_rain (nx := _) J1 b1).1 g
      obtain ⟨L1, L2⟩ := LI_step I1 fr5 J5 (up_at ..) (Nat.le_refl _)
      exact ⟨_, h5, e5, ck_of J1.1, gI_of J5.1 (k := 0) rfl, fun _ => ⟨f, L2, q4⟩, L1⟩
    · cases q1
  · have _ := g
    refine ⟨_, (c_rain I b1).2 g, fun E q => (by cases q; rfl), fun z q => (by cases q), fun v h1 n1 hR => ?_⟩
    rcases hR with ⟨w, h2, n2, f, q1, -⟩ | ⟨E, h2, q1, hv, rfl, hn⟩
    · cases q1
    · cases q1
      obtain ⟨h5, e5, J5, fr5⟩ := (m_rain (nx := n1) J b1).2 g
      have hv2 : v = 1 := hv.trans (by decide)
      obtain ⟨L1, L2⟩ := LI_step (I.fr (fun _ _ => rfl) hn) fr5 J5 ho (Nat.le_refl _)
      exact ⟨_, h5, e5, ck_of J.1, (gI_of J5.1 (k := 0) rfl).trans (congrArg some hv2.symm), fun q => absurd (hv2.symm.trans q) (by decide), L1⟩
theorem both_about (L : LI t0 lo h nx) (x1 x2 : Int32) : ∃ o : String ⊕ (Int32), M_X4_about h lo x1 x2 = some o ∧ (∀ E, o = .inl E → E = sIO) ∧ (∀ z, o = .inr z → ∃ f, h (lo + 18) = some (zL 1 f)) ∧
    ∀ v h1 n1, hRel h nx (lo + 18) (z_eo h o (fun z : Int32 => (some (.int z), h, nx))) vI (fun E => 1) v h1 n1 → ∃ r h5, M_X5_about h1 (lo + 11) x1 x2 = some (r, h5) ∧ z_ck h1 (lo + 11) 6 = some () ∧ z_gI h5 (lo + 11) 6 0 = some v ∧ (v = 0 → ∃ f, h5 (lo + 18) = some (zL 1 f) ∧ f 0 = vI (.int r)) ∧ LI t0 lo h5 n1 := by
  obtain ⟨th, n, A, D, sn, S, B, G, hr, ro, I, J, f0, ho⟩ := L
  have h19 := I.nx19
  obtain ⟨a1, rfl, b1⟩ := zi_ex x1
  obtain ⟨a2, rfl, b2⟩ := zi_ex x2
  by_cases g : (0 ≤ a1 ∧ a1 < n) ∧ 0 ≤ a2 ∧ a2 ≤ 8
  · have _ := g
    have e1 := (c_about I b1 b2).1 g
    refine ⟨_, e1, fun E q => (by cases q), fun z q => ⟨f0, ho⟩, fun v h1 n1 hR => ?_⟩
    rcases hR with ⟨w, h2, n2, f, q1, rfl, rfl, q4, rfl⟩ | ⟨E, h2, q1, -⟩
    · cases q1
      obtain ⟨I1, J1⟩ := LI_out f I frC_rf J
      obtain ⟨h5, e5, J5, fr5⟩ := (m_about (nx := _) J1 b1 b2).1 g
      obtain ⟨L1, L2⟩ := LI_step I1 fr5 J5 (up_at ..) (Nat.le_refl _)
      exact ⟨_, h5, e5, ck_of J1.1, gI_of J5.1 (k := 0) rfl, fun _ => ⟨f, L2, q4⟩, L1⟩
    · cases q1
  · have _ := g
    refine ⟨_, (c_about I b1 b2).2 g, fun E q => (by cases q; rfl), fun z q => (by cases q), fun v h1 n1 hR => ?_⟩
    rcases hR with ⟨w, h2, n2, f, q1, -⟩ | ⟨E, h2, q1, hv, rfl, hn⟩
    · cases q1
    · cases q1
      obtain ⟨h5, e5, J5, fr5⟩ := (m_about (nx := n1) J b1 b2).2 g
      have hv2 : v = 1 := hv.trans (by decide)
      obtain ⟨L1, L2⟩ := LI_step (I.fr (fun _ _ => rfl) hn) fr5 J5 ho (Nat.le_refl _)
      exact ⟨_, h5, e5, ck_of J.1, (gI_of J5.1 (k := 0) rfl).trans (congrArg some hv2.symm), fun q => absurd (hv2.symm.trans q) (by decide), L1⟩
theorem both_cell (L : LI t0 lo h nx) (x1 x2 x3 : Int32) : ∃ o : String ⊕ (Int32), M_X4_cell h lo x1 x2 x3 = some o ∧ (∀ E, o = .inl E → E = sIO) ∧ (∀ z, o = .inr z → ∃ f, h (lo + 18) = some (zL 1 f)) ∧
    ∀ v h1 n1, hRel h nx (lo + 18) (z_eo h o (fun z : Int32 => (some (.int z), h, nx))) vI (fun E => 1) v h1 n1 → ∃ r h5, M_X5_cell h1 (lo + 11) x1 x2 x3 = some (r, h5) ∧ z_ck h1 (lo + 11) 6 = some () ∧ z_gI h5 (lo + 11) 6 0 = some v ∧ (v = 0 → ∃ f, h5 (lo + 18) = some (zL 1 f) ∧ f 0 = vI (.int r)) ∧ LI t0 lo h5 n1 := by
  obtain ⟨th, n, A, D, sn, S, B, G, hr, ro, I, J, f0, ho⟩ := L
  have h19 := I.nx19
  obtain ⟨a1, rfl, b1⟩ := zi_ex x1
  obtain ⟨a2, rfl, b2⟩ := zi_ex x2
  obtain ⟨a3, rfl, b3⟩ := zi_ex x3
  by_cases g : (0 ≤ a1 ∧ a1 < 24 ∧ 0 ≤ a2 ∧ a2 < 24) ∧ 0 ≤ a3 ∧ a3 ≤ 2
  · have _ := g
    have e1 := (c_cell I b1 b2 b3).1 g
    refine ⟨_, e1, fun E q => (by cases q), fun z q => ⟨f0, ho⟩, fun v h1 n1 hR => ?_⟩
    rcases hR with ⟨w, h2, n2, f, q1, rfl, rfl, q4, rfl⟩ | ⟨E, h2, q1, -⟩
    · cases q1
      obtain ⟨I1, J1⟩ := LI_out f I frC_rf J
      obtain ⟨h5, e5, J5, fr5⟩ := (m_cell (nx := _) J1 b1 b2 b3).1 g
      obtain ⟨L1, L2⟩ := LI_step I1 fr5 J5 (up_at ..) (Nat.le_refl _)
      exact ⟨_, h5, e5, ck_of J1.1, gI_of J5.1 (k := 0) rfl, fun _ => ⟨f, L2, q4⟩, L1⟩
    · cases q1
  · have _ := g
    refine ⟨_, (c_cell I b1 b2 b3).2 g, fun E q => (by cases q; rfl), fun z q => (by cases q), fun v h1 n1 hR => ?_⟩
    rcases hR with ⟨w, h2, n2, f, q1, -⟩ | ⟨E, h2, q1, hv, rfl, hn⟩
    · cases q1
    · cases q1
      obtain ⟨h5, e5, J5, fr5⟩ := (m_cell (nx := n1) J b1 b2 b3).2 g
      have hv2 : v = 1 := hv.trans (by decide)
      obtain ⟨L1, L2⟩ := LI_step (I.fr (fun _ _ => rfl) hn) fr5 J5 ho (Nat.le_refl _)
      exact ⟨_, h5, e5, ck_of J.1, (gI_of J5.1 (k := 0) rfl).trans (congrArg some hv2.symm), fun q => absurd (hv2.symm.trans q) (by decide), L1⟩
theorem both_cord (L : LI t0 lo h nx) (x1 x2 : Int32) : ∃ o : String ⊕ (Int32), M_X4_cord h lo x1 x2 = some o ∧ (∀ E, o = .inl E → E = sIO) ∧ (∀ z, o = .inr z → ∃ f, h (lo + 18) = some (zL 1 f)) ∧
    ∀ v h1 n1, hRel h nx (lo + 18) (z_eo h o (fun z : Int32 => (some (.int z), h, nx))) vI (fun E => 1) v h1 n1 → ∃ r h5, M_X5_cord h1 (lo + 11) x1 x2 = some (r, h5) ∧ z_ck h1 (lo + 11) 6 = some () ∧ z_gI h5 (lo + 11) 6 0 = some v ∧ (v = 0 → ∃ f, h5 (lo + 18) = some (zL 1 f) ∧ f 0 = vI (.int r)) ∧ LI t0 lo h5 n1 := by
  obtain ⟨th, n, A, D, sn, S, B, G, hr, ro, I, J, f0, ho⟩ := L
  have h19 := I.nx19
  obtain ⟨a1, rfl, b1⟩ := zi_ex x1
  obtain ⟨a2, rfl, b2⟩ := zi_ex x2
  by_cases g : 0 ≤ a1 ∧ a1 < 24 ∧ 0 ≤ a2 ∧ a2 ≤ 3
  · have _ := g
    have e1 := (c_cord I b1 b2).1 g
    refine ⟨_, e1, fun E q => (by cases q), fun z q => ⟨f0, ho⟩, fun v h1 n1 hR => ?_⟩
    rcases hR with ⟨w, h2, n2, f, q1, rfl, rfl, q4, rfl⟩ | ⟨E, h2, q1, -⟩
    · cases q1
      obtain ⟨I1, J1⟩ := LI_out f I frC_rf J
      obtain ⟨h5, e5, J5, fr5⟩ := (m_cord (nx := _) J1 b1 b2).1 g
      obtain ⟨L1, L2⟩ := LI_step I1 fr5 J5 (up_at ..) (Nat.le_refl _)
      exact ⟨_, h5, e5, ck_of J1.1, gI_of J5.1 (k := 0) rfl, fun _ => ⟨f, L2, q4⟩, L1⟩
    · cases q1
  · have _ := g
    refine ⟨_, (c_cord I b1 b2).2 g, fun E q => (by cases q; rfl), fun z q => (by cases q), fun v h1 n1 hR => ?_⟩
    rcases hR with ⟨w, h2, n2, f, q1, -⟩ | ⟨E, h2, q1, hv, rfl, hn⟩
    · cases q1
    · cases q1
      obtain ⟨h5, e5, J5, fr5⟩ := (m_cord (nx := n1) J b1 b2).2 g
      have hv2 : v = 1 := hv.trans (by decide)
      obtain ⟨L1, L2⟩ := LI_step (I.fr (fun _ _ => rfl) hn) fr5 J5 ho (Nat.le_refl _)
      exact ⟨_, h5, e5, ck_of J.1, (gI_of J5.1 (k := 0) rfl).trans (congrArg some hv2.symm), fun q => absurd (hv2.symm.trans q) (by decide), L1⟩
theorem both_told (L : LI t0 lo h nx) (x1 x2 : Int32) : ∃ o : String ⊕ (Int32), M_X4_told h lo x1 x2 = some o ∧ (∀ E, o = .inl E → E = sIO) ∧ (∀ z, o = .inr z → ∃ f, h (lo + 18) = some (zL 1 f)) ∧
    ∀ v h1 n1, hRel h nx (lo + 18) (z_eo h o (fun z : Int32 => (some (.int z), h, nx))) vI (fun E => 1) v h1 n1 → ∃ r h5, M_X5_told h1 (lo + 11) x1 x2 = some (r, h5) ∧ z_ck h1 (lo + 11) 6 = some () ∧ z_gI h5 (lo + 11) 6 0 = some v ∧ (v = 0 → ∃ f, h5 (lo + 18) = some (zL 1 f) ∧ f 0 = vI (.int r)) ∧ LI t0 lo h5 n1 := by
  obtain ⟨th, n, A, D, sn, S, B, G, hr, ro, I, J, f0, ho⟩ := L
  have h19 := I.nx19
  obtain ⟨a1, rfl, b1⟩ := zi_ex x1
  obtain ⟨a2, rfl, b2⟩ := zi_ex x2
  by_cases g : (0 ≤ a1 ∧ a1 < sn) ∧ 0 ≤ a2 ∧ a2 ≤ 3
  · have _ := g
    have e1 := (c_told I b1 b2).1 g
    refine ⟨_, e1, fun E q => (by cases q), fun z q => ⟨f0, ho⟩, fun v h1 n1 hR => ?_⟩
    rcases hR with ⟨w, h2, n2, f, q1, rfl, rfl, q4, rfl⟩ | ⟨E, h2, q1, -⟩
    · cases q1
      obtain ⟨I1, J1⟩ := LI_out f I frC_rf J
      obtain ⟨h5, e5, J5, fr5⟩ := (m_told (nx := _) J1 b1 b2).1 g
      obtain ⟨L1, L2⟩ := LI_step I1 fr5 J5 (up_at ..) (Nat.le_refl _)
      exact ⟨_, h5, e5, ck_of J1.1, gI_of J5.1 (k := 0) rfl, fun _ => ⟨f, L2, q4⟩, L1⟩
    · cases q1
  · have _ := g
    refine ⟨_, (c_told I b1 b2).2 g, fun E q => (by cases q; rfl), fun z q => (by cases q), fun v h1 n1 hR => ?_⟩
    rcases hR with ⟨w, h2, n2, f, q1, -⟩ | ⟨E, h2, q1, hv, rfl, hn⟩
    · cases q1
    · cases q1
      obtain ⟨h5, e5, J5, fr5⟩ := (m_told (nx := n1) J b1 b2).2 g
      have hv2 : v = 1 := hv.trans (by decide)
      obtain ⟨L1, L2⟩ := LI_step (I.fr (fun _ _ => rfl) hn) fr5 J5 ho (Nat.le_refl _)
      exact ⟨_, h5, e5, ck_of J.1, (gI_of J5.1 (k := 0) rfl).trans (congrArg some hv2.symm), fun q => absurd (hv2.symm.trans q) (by decide), L1⟩
theorem both_share (L : LI t0 lo h nx) (x1 x2 : Int32) : ∃ o : String ⊕ (Int32), M_X4_share h lo x1 x2 = some o ∧ (∀ E, o = .inl E → E = sIO) ∧ (∀ z, o = .inr z → ∃ f, h (lo + 18) = some (zL 1 f)) ∧
    ∀ v h1 n1, hRel h nx (lo + 18) (z_eo h o (fun z : Int32 => (some (.int z), h, nx))) vI (fun E => 1) v h1 n1 → ∃ r h5, M_X5_share h1 (lo + 11) x1 x2 = some (r, h5) ∧ z_ck h1 (lo + 11) 6 = some () ∧ z_gI h5 (lo + 11) 6 0 = some v ∧ (v = 0 → ∃ f, h5 (lo + 18) = some (zL 1 f) ∧ f 0 = vI (.int r)) ∧ LI t0 lo h5 n1 := by
  obtain ⟨th, n, A, D, sn, S, B, G, hr, ro, I, J, f0, ho⟩ := L
  have h19 := I.nx19
  obtain ⟨a1, rfl, b1⟩ := zi_ex x1
  obtain ⟨a2, rfl, b2⟩ := zi_ex x2
  by_cases g : (0 ≤ a1 ∧ a1 < n) ∧ 0 ≤ a2 ∧ a2 < n
  · have _ := g
    have e1 := (c_share I b1 b2).1 g
    refine ⟨_, e1, fun E q => (by cases q), fun z q => ⟨f0, ho⟩, fun v h1 n1 hR => ?_⟩
    rcases hR with ⟨w, h2, n2, f, q1, rfl, rfl, q4, rfl⟩ | ⟨E, h2, q1, -⟩
    · cases q1
      obtain ⟨I1, J1⟩ := LI_out f I frC_rf J
      obtain ⟨h5, e5, J5, fr5⟩ := (m_share (nx := _) J1 b1 b2).1 g
      obtain ⟨L1, L2⟩ := LI_step I1 fr5 J5 (up_at ..) (Nat.le_refl _)
      exact ⟨_, h5, e5, ck_of J1.1, gI_of J5.1 (k := 0) rfl, fun _ => ⟨f, L2, q4⟩, L1⟩
    · cases q1
  · have _ := g
    refine ⟨_, (c_share I b1 b2).2 g, fun E q => (by cases q; rfl), fun z q => (by cases q), fun v h1 n1 hR => ?_⟩
    rcases hR with ⟨w, h2, n2, f, q1, -⟩ | ⟨E, h2, q1, hv, rfl, hn⟩
    · cases q1
    · cases q1
      obtain ⟨h5, e5, J5, fr5⟩ := (m_share (nx := n1) J b1 b2).2 g
      have hv2 : v = 1 := hv.trans (by decide)
      obtain ⟨L1, L2⟩ := LI_step (I.fr (fun _ _ => rfl) hn) fr5 J5 ho (Nat.le_refl _)
      exact ⟨_, h5, e5, ck_of J.1, (gI_of J5.1 (k := 0) rfl).trans (congrArg some hv2.symm), fun q => absurd (hv2.symm.trans q) (by decide), L1⟩
theorem both_count (L : LI t0 lo h nx) (x1 : Int32) : ∃ o : String ⊕ (Int32 × zH), M_X4_count h lo x1 = some o ∧ (∀ E, o = .inl E → E = sIO) ∧ (∀ z, o = .inr z → ∃ f, z.2 (lo + 18) = some (zL 1 f)) ∧
    ∀ v h1 n1, hRel h nx (lo + 18) (z_eo h o (fun z : Int32 × zH => (some (.int z.1), z.2, nx))) vI (fun E => 1) v h1 n1 → ∃ r h5 n5, M_X5_count h1 n1 (lo + 11) x1 = some (r, h5, n5) ∧ z_ck h1 (lo + 11) 6 = some () ∧ z_gI h5 (lo + 11) 6 0 = some v ∧ (v = 0 → ∃ f, h5 (lo + 18) = some (zL 1 f) ∧ f 0 = vI (.int r)) ∧ LI t0 lo h5 n5 := by
  obtain ⟨th, n, A, D, sn, S, B, G, hr, ro, I, J, f0, ho⟩ := L
  have h19 := I.nx19
  obtain ⟨a1, rfl, b1⟩ := zi_ex x1
  by_cases g : 0 ≤ a1 ∧ a1 ≤ 10
  · have _ := g
    obtain ⟨h', e1, I', fr⟩ := (c_count I b1).1 g
    refine ⟨_, e1, fun E q => (by cases q), fun z q => (by cases q; exact ⟨f0, (fr _ (by omega) (by omega)).trans ho⟩), fun v h1 n1 hR => ?_⟩
    rcases hR with ⟨w, h2, n2, f, q1, rfl, rfl, q4, rfl⟩ | ⟨E, h2, q1, -⟩
    · cases q1
      obtain ⟨I1, J1⟩ := LI_out f I' fr J
      obtain ⟨h5, n5, e5, hn5, J5, fr5⟩ := (m_count (nx := nx) (by omega) J1 b1).1 g
      obtain ⟨L1, L2⟩ := LI_step I1 fr5 J5 (up_at ..) (hn5)
      exact ⟨_, h5, _, e5, ck_of J1.1, gI_of J5.1 (k := 0) rfl, fun _ => ⟨f, L2, q4⟩, L1⟩
    · cases q1
  · have _ := g
    refine ⟨_, (c_count I b1).2 g, fun E q => (by cases q; rfl), fun z q => (by cases q), fun v h1 n1 hR => ?_⟩
    rcases hR with ⟨w, h2, n2, f, q1, -⟩ | ⟨E, h2, q1, hv, rfl, hn⟩
    · cases q1
    · cases q1
      obtain ⟨h5, e5, J5, fr5⟩ := (m_count (nx := n1) (by omega) J b1).2 g
      have hv2 : v = 1 := hv.trans (by decide)
      obtain ⟨L1, L2⟩ := LI_step (I.fr (fun _ _ => rfl) hn) fr5 J5 ho (Nat.le_refl _)
      exact ⟨_, h5, _, e5, ck_of J.1, (gI_of J5.1 (k := 0) rfl).trans (congrArg some hv2.symm), fun q => absurd (hv2.symm.trans q) (by decide), L1⟩
theorem both_would (L : LI t0 lo h nx) (x1 x2 : Int32) : ∃ o : String ⊕ (Int32 × zH), M_X4_would h lo x1 x2 = some o ∧ (∀ E, o = .inl E → E = sIO ∨ E = sIA) ∧ (∀ z, o = .inr z → ∃ f, z.2 (lo + 18) = some (zL 1 f)) ∧
    ∀ v h1 n1, hRel h nx (lo + 18) (z_eo h o (fun z : Int32 × zH => (some (.int z.1), z.2, nx))) vI (fun E => if E = sIO then 1 else 2) v h1 n1 → ∃ r h5, M_X5_would h1 (lo + 11) x1 x2 = some (r, h5) ∧ z_ck h1 (lo + 11) 6 = some () ∧ z_gI h5 (lo + 11) 6 0 = some v ∧ (v = 0 → ∃ f, h5 (lo + 18) = some (zL 1 f) ∧ f 0 = vI (.int r)) ∧ LI t0 lo h5 n1 := by
  obtain ⟨th, n, A, D, sn, S, B, G, hr, ro, I, J, f0, ho⟩ := L
  have h19 := I.nx19
  obtain ⟨a1, rfl, b1⟩ := zi_ex x1
  obtain ⟨a2, rfl, b2⟩ := zi_ex x2
  by_cases g1 : 0 ≤ a1 ∧ a1 < sn
  · by_cases g2 : 1 ≤ a2 ∧ a2 ≤ 20
    · have _ := g2
      obtain ⟨h', e1, I', fr⟩ := (c_would I b1 b2).1 ⟨g1, g2⟩
      refine ⟨_, e1, fun E q => (by cases q), fun z q => (by cases q; exact ⟨f0, (fr _ (by omega) (by omega)).trans ho⟩), fun v h1 n1 hR => ?_⟩
      rcases hR with ⟨w, h2, n2, f, q1, rfl, rfl, q4, rfl⟩ | ⟨E, h2, q1, -⟩
      · cases q1
        obtain ⟨I1, J1⟩ := LI_out f I' fr J
        obtain ⟨h5, e5, J5, fr5⟩ := (m_would (nx := _) J1 b1 b2).1 ⟨g1, g2⟩
        obtain ⟨L1, L2⟩ := LI_step I1 fr5 J5 (up_at ..) (Nat.le_refl _)
        exact ⟨_, h5, e5, ck_of J1.1, gI_of J5.1 (k := 0) rfl, fun _ => ⟨f, L2, q4⟩, L1⟩
      · cases q1
    · have _ := g2
      refine ⟨_, (c_would I b1 b2).2.2 ⟨g1, g2⟩, fun E q => (by cases q; exact .inr (rfl)), fun z q => (by cases q), fun v h1 n1 hR => ?_⟩
      rcases hR with ⟨w, h2, n2, f, q1, -⟩ | ⟨E, h2, q1, hv, rfl, hn⟩
      · cases q1
      · cases q1
        obtain ⟨h5, e5, J5, fr5⟩ := (m_would (nx := n1) J b1 b2).2.2 ⟨g1, g2⟩
        have hv2 : v = 2 := hv.trans (by decide)
        obtain ⟨L1, L2⟩ := LI_step (I.fr (fun _ _ => rfl) hn) fr5 J5 ho (Nat.le_refl _)
        exact ⟨_, h5, e5, ck_of J.1, (gI_of J5.1 (k := 0) rfl).trans (congrArg some hv2.symm), fun q => absurd (hv2.symm.trans q) (by decide), L1⟩
  · have _ := g1
    refine ⟨_, (c_would I b1 b2).2.1 g1, fun E q => (by cases q; exact .inl rfl), fun z q => (by cases q), fun v h1 n1 hR => ?_⟩
    rcases hR with ⟨w, h2, n2, f, q1, -⟩ | ⟨E, h2, q1, hv, rfl, hn⟩
    · cases q1
    · cases q1
      obtain ⟨h5, e5, J5, fr5⟩ := (m_would (nx := n1) J b1 b2).2.1 g1
      have hv2 : v = 1 := hv.trans (by decide)
      obtain ⟨L1, L2⟩ := LI_step (I.fr (fun _ _ => rfl) hn) fr5 J5 ho (Nat.le_refl _)
      exact ⟨_, h5, e5, ck_of J.1, (gI_of J5.1 (k := 0) rfl).trans (congrArg some hv2.symm), fun q => absurd (hv2.symm.trans q) (by decide), L1⟩
theorem both_best (L : LI t0 lo h nx) (x1 x2 x3 : Int32) : ∃ o : String ⊕ (Int32), M_X4_best h lo x1 x2 x3 = some o ∧ (∀ E, o = .inl E → E = sIA ∨ E = sIO) ∧ (∀ z, o = .inr z → ∃ f, h (lo + 18) = some (zL 1 f)) ∧
    ∀ v h1 n1, hRel h nx (lo + 18) (z_eo h o (fun z : Int32 => (some (.int z), h, nx))) vI (fun E => if E = sIA then 1 else 2) v h1 n1 → ∃ r h5 n5, M_X5_best h1 n1 (lo + 11) x1 x2 x3 = some (r, h5, n5) ∧ z_ck h1 (lo + 11) 6 = some () ∧ z_gI h5 (lo + 11) 6 0 = some v ∧ (v = 0 → ∃ f, h5 (lo + 18) = some (zL 1 f) ∧ f 0 = vI (.int r)) ∧ LI t0 lo h5 n5 := by
  obtain ⟨th, n, A, D, sn, S, B, G, hr, ro, I, J, f0, ho⟩ := L
  have h19 := I.nx19
  obtain ⟨a1, rfl, b1⟩ := zi_ex x1
  obtain ⟨a2, rfl, b2⟩ := zi_ex x2
  obtain ⟨a3, rfl, b3⟩ := zi_ex x3
  by_cases g1 : 1 ≤ a1 ∧ a1 ≤ 24 ∧ 1 ≤ a2 ∧ a2 ≤ 24
  · by_cases g2 : 0 ≤ a3 ∧ a3 ≤ 2
    · have _ := g2
      have e1 := (c_best I b1 b2 b3).1 ⟨g1, g2⟩
      refine ⟨_, e1, fun E q => (by cases q), fun z q => ⟨f0, ho⟩, fun v h1 n1 hR => ?_⟩
      rcases hR with ⟨w, h2, n2, f, q1, rfl, rfl, q4, rfl⟩ | ⟨E, h2, q1, -⟩
      · cases q1
        obtain ⟨I1, J1⟩ := LI_out f I frC_rf J
        obtain ⟨h5, n5, e5, hn5, J5, fr5⟩ := (m_best (nx := nx) (by omega) J1 b1 b2 b3).1 ⟨g1, g2⟩
        obtain ⟨L1, L2⟩ := LI_step I1 fr5 J5 (up_at ..) (hn5)
        exact ⟨_, h5, _, e5, ck_of J1.1, gI_of J5.1 (k := 0) rfl, fun _ => ⟨f, L2, q4⟩, L1⟩
      · cases q1
    · have _ := g2
      refine ⟨_, (c_best I b1 b2 b3).2.2 ⟨g1, g2⟩, fun E q => (by cases q; exact .inr (rfl)), fun z q => (by cases q), fun v h1 n1 hR => ?_⟩
      rcases hR with ⟨w, h2, n2, f, q1, -⟩ | ⟨E, h2, q1, hv, rfl, hn⟩
      · cases q1
      · cases q1
        obtain ⟨h5, e5, J5, fr5⟩ := (m_best (nx := n1) (by omega) J b1 b2 b3).2.2 ⟨g1, g2⟩
        have hv2 : v = 2 := hv.trans (by decide)
        obtain ⟨L1, L2⟩ := LI_step (I.fr (fun _ _ => rfl) hn) fr5 J5 ho (Nat.le_refl _)
        exact ⟨_, h5, _, e5, ck_of J.1, (gI_of J5.1 (k := 0) rfl).trans (congrArg some hv2.symm), fun q => absurd (hv2.symm.trans q) (by decide), L1⟩
  · have _ := g1
    refine ⟨_, (c_best I b1 b2 b3).2.1 g1, fun E q => (by cases q; exact .inl rfl), fun z q => (by cases q), fun v h1 n1 hR => ?_⟩
    rcases hR with ⟨w, h2, n2, f, q1, -⟩ | ⟨E, h2, q1, hv, rfl, hn⟩
    · cases q1
    · cases q1
      obtain ⟨h5, e5, J5, fr5⟩ := (m_best (nx := n1) (by omega) J b1 b2 b3).2.1 g1
      have hv2 : v = 1 := hv.trans (by decide)
      obtain ⟨L1, L2⟩ := LI_step (I.fr (fun _ _ => rfl) hn) fr5 J5 ho (Nat.le_refl _)
      exact ⟨_, h5, _, e5, ck_of J.1, (gI_of J5.1 (k := 0) rfl).trans (congrArg some hv2.symm), fun q => absurd (hv2.symm.trans q) (by decide), L1⟩
end BOTH
