/-! advise -/
theorem tot_b1_bd (f : Nat → Nat → Bool) : 0 ≤ tot (fun x y => b1 (f x y)) ∧ tot (fun x y => b1 (f x y)) ≤ 576 := by
  have h := sm_bd (n := 24) (f := fun x => sm 24 fun y => b1 (f x y)) (B := 24) fun x _ => by
    have := sm_b1_bd 24 (f x)
    omega
  exact ⟨h.1, Int.le_trans h.2 (by decide)⟩
def adS (A : Nat → Nat → Int) (n : Nat) : Nat → Int × Int
  | 0 => (-1, 577)
  | k + 1 => if A k 6 = 1 ∧ ownS A n k < (adS A n k).2 then ((k : Int), ownS A n k) else adS A n k
theorem adS_of (A : Nat → Nat → Int) (n k : Nat) : ((adS A n k).1 = -1 ∧ (adS A n k).2 = 577) ∨ ∃ i : Nat, i < k ∧ (adS A n k).1 = i ∧ (adS A n k).2 = ownS A n i := by
  induction k with
  | zero => exact .inl ⟨rfl, rfl⟩
  | succ k ih =>
    rw [adS]
    split
    · exact .inr ⟨k, by omega, rfl, rfl⟩
    · rcases ih with h | ⟨i, h1, h2⟩
      · exact .inl h
      · exact .inr ⟨i, by omega, h2⟩
theorem adS_bd (A : Nat → Nat → Int) (n k : Nat) : -1 ≤ (adS A n k).1 ∧ (adS A n k).1 < k ∧ 0 ≤ (adS A n k).2 ∧ (adS A n k).2 ≤ 577 := by
  rcases adS_of A n k with h | ⟨i, h1, h2, h3⟩
  · omega
  · have := tot_b1_bd fun x y => cv (A i) x y && decide (lay A n x y = 1)
    unfold ownS at h3
    omega
theorem p_X4advise {h : zH} {x c s sl g : Nat} {hr gd go qd mc : Int32} {ea n : Nat} {P : Nat → Nat} {A : Nat → Nat → Int} {D : Nat → Int32} (kx : kX h x c s sl g hr gd go) (k : kW h c qd mc ea n P A D) (hl : kLy h c n A) :
    M_X4_advise h x = some (zi (adS A n n).1) := by
  have hn := k.2.1.2.1
  unfold M_X4_advise
  refine wl3_st (fun j => zi (adS A n j).1) (fun j => zi (adS A n j).2) (fun j => zi (j : Int)) n n_m1 n_577 n_0 ?_ ?_ 700 (by omega)
  · intro rec j hj
    have hp := (k.2.2 j hj).1
    have o := (k.2.2 j hj).2
    unfold okA at o
    have hb := adS_bd A n j
    have hw : 0 ≤ ownS A n j ∧ ownS A n j ≤ 576 := tot_b1_bd _
    have h6 : (zi (A j 6) = 0) = (A j 6 = 0) := zi_eq (b := 0) (by omega) (by omega) (by omega) (by omega)
    simp (disch := omega) only [gR_of kx (k := 0) rfl, ck_of k.1, p_size k.1 k.2.1, Option.bind_some, zi_le, p_numbered k.1 k.2.1 (fun i hi => (k.2.2 i hi).1) (x := j) ⟨by omega, by omega⟩, z_tn]
    rw [if_neg (by omega), if_pos (by omega)]
    simp (disch := omega) only [Option.bind_some, Int.toNat_natCast, gI_of hp (k := 6) rfl, h6, p_only k hl hj, jn2, zi_le, n_1, zi_add, Int.natCast_add, Int.natCast_one, adS]
    by_cases h1 : A j 6 = 0
    · rw [if_pos h1, if_neg (by omega)]
    · rw [if_neg h1]
      by_cases h2 : ownS A n j < (adS A n j).2
      · rw [if_neg (by omega), if_pos ⟨by omega, h2⟩]
      · rw [if_pos (by omega), if_neg (fun h => h2 h.2)]
  · intro rec
    simp (disch := omega) only [gR_of kx (k := 0) rfl, ck_of k.1, p_size k.1 k.2.1, Option.bind_some, zi_le]
    rw [if_pos (by omega)]
/-! told -/
def okS2 (S : Nat → Nat → Int) (sn : Nat) : Prop := ∀ i, i < sn → 0 ≤ S i 0 ∧ S i 0 < 24 ∧ 0 ≤ S i 1 ∧ S i 1 < 24
def kSt (h : zH) (sl : Nat) (mc : Int32) (ea sn : Nat) (Q : Nat → Nat) (S : Nat → Nat → Int) (B : Nat → Int32) : Prop :=
  kL h sl mc ea sn Q ∧ ∀ i, i < sn → h (Q i) = some (zO 4 [.int (zi (S i 0)), .int (zi (S i 1)), .int (B i)])
def gotS (G : Nat → Nat → Int32) (S : Nat → Nat → Int) (B : Nat → Int32) (i : Nat) : Int32 := G (S i 0).toNat (S i 1).toNat - B i
def toldS (A : Nat → Nat → Int) (n : Nat) (G : Nat → Nat → Int32) (S : Nat → Nat → Int) (B : Nat → Int32) (i : Nat) (w : Int) : Int32 :=
  if w = 0 then zi (S i 0) else if w = 1 then zi (S i 1) else if w = 2 then gotS G S B i else zi (lay A n (S i 0) (S i 1))
theorem p_numStall {h : zH} {x c s sl g : Nat} {hr gd go mc : Int32} {ea sn : Nat} {Q : Nat → Nat} {S : Nat → Nat → Int} {B : Nat → Int32} (kx : kX h x c s sl g hr gd go) (kt : kSt h sl mc ea sn Q S B) {a : Int} (ha : -2147483648 ≤ a ∧ a < 2147483648) :
    M_X4_numberedStall h x (zi a) = if 0 ≤ a ∧ a < sn then some (.inr (Q a.toNat)) else some (.inl sIO) := by
  have hn := kt.1.2.1
  simp (disch := omega) only [M_X4_numberedStall, gR_of kx (k := 2) rfl, Option.bind_some, ck_of kt.1.1, p_lsize kt.1, n_0, zi_lt, zi_le, zi_eq]
  by_cases h1 : a < 0
  · rw [if_pos h1, if_neg (by omega)]
  rw [if_neg h1]
  by_cases h2 : a < sn
  · obtain ⟨i, rfl⟩ : ∃ i : Nat, a = i := ⟨a.toNat, by omega⟩
    rw [if_pos h2, if_pos (by omega), p_get kt.1 (by omega), Option.bind_some, ck_of (kt.2 i (by omega))]
    rfl
  · rw [if_neg h2, if_neg (by omega)]
theorem p_gotBy {h : zH} {x c s sl g : Nat} {hr gd go mc : Int32} {ea sn : Nat} {Q : Nat → Nat} {S : Nat → Nat → Int} {B : Nat → Int32} {G : Nat → Nat → Int32} (kx : kX h x c s sl g hr gd go) (kt : kSt h sl mc ea sn Q S B) (kg : kG h g G) (os : okS2 S sn) {i : Nat} (hi : i < sn) :
    M_X4_gotBy h x (Q i) = some (gotS G S B i) := by
  have hp := kt.2 i hi
  have o := os i hi
  simp only [M_X4_gotBy, gI_of hp (k := 0) rfl, gI_of hp (k := 1) rfl, gI_of hp (k := 2) rfl, ck_of kx, Option.bind_some, p_ground kx kg (a := S i 0) (b := S i 1) (by omega)]
  rfl
theorem p_X4told {h : zH} {x c s sl g : Nat} {hr gd go qd mc mc' : Int32} {ea ea' n sn : Nat} {P Q : Nat → Nat} {A : Nat → Nat → Int} {D : Nat → Int32} {G : Nat → Nat → Int32} {S : Nat → Nat → Int} {B : Nat → Int32} (kx : kX h x c s sl g hr gd go) (k : kW h c qd mc ea n P A D) (hl : kLy h c n A) (kg : kG h g G) (kt : kSt h sl mc' ea' sn Q S B) (os : okS2 S sn)
    {a w : Int} (ha : -2147483648 ≤ a ∧ a < 2147483648) (hw : -2147483648 ≤ w ∧ w < 2147483648) :
    M_X4_told h x (zi a) (zi w) = some (if (0 ≤ a ∧ a < sn) ∧ 0 ≤ w ∧ w ≤ 3 then .inr (toldS A n G S B a.toNat w) else .inl sIO) := by
  have ho : ∀ i, i < n → okA (A i) := fun i hi => (k.2.2 i hi).2
  simp only [M_X4_told, ck_of kx, Option.bind_some, p_numStall kx kt ha, z_tb]
  by_cases h1 : 0 ≤ a ∧ a < sn
  · obtain ⟨i, rfl⟩ : ∃ i : Nat, a = i := ⟨a.toNat, by omega⟩
    rw [if_pos h1]
    have hi : i < sn := by omega
    have hp := kt.2 i hi
    have o := os i hi
    simp only [Option.bind_some, Int.toNat_natCast, n_0, n_1, n_2, n_3, p_what hw (l := 3) (by omega), zi_q hw 0 (by omega), zi_q hw 1 (by omega), zi_q hw 2 (by omega), gI_of hp (k := 0) rfl, gI_of hp (k := 1) rfl, gR_of kx (k := 0) rfl, ck_of k.1, p_gotBy kx kt kg os hi, p_at k.1 hl (x := S i 0) (y := S i 1) (by omega) (by omega) ho]
    by_cases h2 : 0 ≤ w ∧ w ≤ 3
    · rw [if_pos h2, if_pos (c := _ ∧ 0 ≤ w ∧ w ≤ 3) ⟨h1, h2⟩]
      simp only
      unfold toldS
      by_cases q0 : w = 0
      · rw [if_pos q0, if_pos q0]
      by_cases q1 : w = 1
      · rw [if_neg q0, if_neg q0, if_pos q1, if_pos q1]
      by_cases q2 : w = 2
      · rw [if_neg q0, if_neg q0, if_neg q1, if_neg q1, if_pos q2, if_pos q2]
      · rw [if_neg q0, if_neg q0, if_neg q1, if_neg q1, if_neg q2, if_neg q2]
    · rw [if_neg h2, if_neg (c := _ ∧ 0 ≤ w ∧ w ≤ 3) (fun h => h2 h.2)]
  · rw [if_neg h1, if_neg (c := _ ∧ 0 ≤ w ∧ w ≤ 3) (fun h => h1 h.1)]
    rfl
