/-! columns of bits (bt .. b_sshr: pasted from the kit's rows to paste) -/
def bt (x : Int32) (i : Nat) : Bool := x.toBitVec.getLsbD i
theorem b_ext {x y : Int32} (h : ∀ i, i < 32 → bt x i = bt y i) : x = y := Int32.toBitVec_inj.mp (BitVec.eq_of_getLsbD_eq (fun i hi => h i hi))
theorem b_or (x y : Int32) (i : Nat) : bt (x ||| y) i = (bt x i || bt y i) := by unfold bt; rw [Int32.toBitVec_or, BitVec.getLsbD_or]
theorem b_and (x y : Int32) (i : Nat) : bt (x &&& y) i = (bt x i && bt y i) := by unfold bt; rw [Int32.toBitVec_and, BitVec.getLsbD_and]
theorem b_xor (x y : Int32) (i : Nat) : bt (x ^^^ y) i = (bt x i ^^ bt y i) := by unfold bt; rw [Int32.toBitVec_xor, BitVec.getLsbD_xor]
theorem b_m1 : ∀ i, i < 32 → bt (-1) i = true := by decide +kernel
theorem b_0 (i : Nat) : bt 0 i = false := BitVec.getLsbD_zero
theorem s_l : ∀ n, n < 32 → ((nI n &&& 31).toBitVec.smod 32).toNat = n := by decide +kernel
theorem b_shl (n : Nat) (hn : n < 32) (x : Int32) {i : Nat} (hi : i < 32) : bt (x <<< (nI n &&& 31)) i = (decide (n ≤ i) && bt x (i - n)) := by
  unfold bt
  rw [Int32.toBitVec_shiftLeft]
  show (x.toBitVec <<< ((nI n &&& 31).toBitVec.smod 32).toNat).getLsbD i = _
  rw [s_l n hn, BitVec.getLsbD_shiftLeft]
  rcases Nat.lt_or_ge i n with h | h
  · simp [h, Nat.not_le.mpr h]
  · simp [hi, h, Nat.not_lt.mpr h]
theorem b_sshr (n : Nat) (hn : n < 32) (x : Int32) {i : Nat} (hi : i < 32) : bt (x >>> (nI n &&& 31)) i = if n + i < 32 then bt x (n + i) else bt x 31 := by
  unfold bt
  rw [Int32.toBitVec_shiftRight]
  show (x.toBitVec.sshiftRight ((nI n &&& 31).toBitVec.smod 32).toNat).getLsbD i = _
  rw [s_l n hn, BitVec.getLsbD_sshiftRight, BitVec.msb_eq_getLsbD_last]
  simp [hi]
theorem nI_zi (n : Nat) : nI n = zi n := zi_ofNat n
/-- the column whose bits are these -/
def mkN (p : Nat → Bool) : Nat → Nat
  | 0 => 0
  | k + 1 => 2 ^ k * (if p k = true then 1 else 0) + mkN p k
theorem mkN_lt (p : Nat → Bool) (k : Nat) : mkN p k < 2 ^ k := by
  induction k with
  | zero => simp [mkN]
  | succ k ih =>
    rw [mkN, Nat.pow_succ]
    split <;> omega
theorem mkN_bit (p : Nat → Bool) (k i : Nat) : (mkN p k).testBit i = (decide (i < k) && p i) := by
  induction k with
  | zero => simp [mkN]
  | succ k ih =>
    rw [mkN, Nat.testBit_two_pow_mul_add _ (mkN_lt p k), ih]
    rcases Nat.lt_trichotomy i k with h | h | h
    · rw [if_pos h, decide_eq_true h, decide_eq_true (by omega : i < k + 1)]
    · subst h
      rw [if_neg (by omega), Nat.sub_self]
      cases h : p i <;> simp
    · rw [if_neg (by omega), decide_eq_false (by omega : ¬ i < k + 1)]
      obtain ⟨j, hj⟩ : ∃ j, i - k = j + 1 := ⟨i - k - 1, by omega⟩
      rw [hj, Nat.testBit_succ]
      cases h : p k <;> simp
def mk (p : Nat → Bool) : Int32 := Int32.ofNat (mkN p 32)
theorem bt_mk {p : Nat → Bool} {i : Nat} (hi : i < 32) : bt (mk p) i = p i := by
  unfold bt mk
  show (BitVec.ofNat 32 (mkN p 32)).getLsbD i = _
  rw [BitVec.getLsbD_ofNat, mkN_bit]
  simp [hi]
theorem mk_congr {p q : Nat → Bool} (h : ∀ i, i < 32 → p i = q i) : mk p = mk q := b_ext fun i hi => by rw [bt_mk hi, bt_mk hi, h i hi]
theorem mk_eq {p : Nat → Bool} {x : Int32} (h : ∀ i, i < 32 → bt x i = p i) : x = mk p := b_ext fun i hi => by rw [bt_mk hi, h i hi]
theorem mk_bt (x : Int32) : x = mk (bt x) := mk_eq fun _ _ => rfl
theorem mk_0 : (0 : Int32) = mk fun _ => false := mk_eq fun i _ => b_0 i
theorem mk_or (p q : Nat → Bool) : mk p ||| mk q = mk fun i => p i || q i := mk_eq fun i hi => by rw [b_or, bt_mk hi, bt_mk hi]
theorem mk_and (p q : Nat → Bool) : mk p &&& mk q = mk fun i => p i && q i := mk_eq fun i hi => by rw [b_and, bt_mk hi, bt_mk hi]
theorem mk_xor (p q : Nat → Bool) : mk p ^^^ mk q = mk fun i => p i ^^ q i := mk_eq fun i hi => by rw [b_xor, bt_mk hi, bt_mk hi]
theorem mk_not (p : Nat → Bool) : mk p ^^^ (-1 : Int32) = mk fun i => !p i := mk_eq fun i hi => by rw [b_xor, bt_mk hi, b_m1 i hi]; simp
theorem mk_shl {n : Nat} (hn : n < 32) (p : Nat → Bool) : mk p <<< (zi n &&& 31) = mk fun i => decide (n ≤ i) && p (i - n) := mk_eq fun i hi => by
  rw [← nI_zi, b_shl n hn _ hi]
  rcases Nat.lt_or_ge i n with h | h
  · simp [Nat.not_le.mpr h]
  · rw [bt_mk (by omega)]
theorem mk_shl1 (p : Nat → Bool) : mk p <<< ((1 : Int32) &&& 31) = mk fun i => decide (1 ≤ i) && p (i - 1) := mk_shl (n := 1) (by omega) p
theorem mk_bit {p : Nat → Bool} {j : Nat} (hj : j < 31) : (mk p >>> (zi j &&& 31)) &&& (1 : Int32) = zi (b1 (p j)) := by
  have h1 : ∀ i, i < 32 → bt (1 : Int32) i = decide (i = 0) := by decide +kernel
  have h2 : ∀ b : Bool, ∀ i, i < 32 → bt (zi (b1 b)) i = (decide (i = 0) && b) := by decide +kernel
  refine b_ext fun i hi => ?_
  rw [b_and, h1 i hi, h2 _ i hi, ← nI_zi, b_sshr j (by omega) _ hi]
  by_cases h : i = 0
  · subst h
    rw [if_pos (by omega), bt_mk (by omega)]
    simp
  · simp [h]
theorem mk_sshr1 {p : Nat → Bool} (hp : p 31 = false) : mk p >>> ((1 : Int32) &&& 31) = mk fun i => decide (i < 31) && p (i + 1) := mk_eq fun i hi => by
  have h := b_sshr 1 (by omega) (mk p) hi
  rw [show (1 : Int32) = nI 1 from rfl, h]
  by_cases h2 : i < 31
  · rw [if_pos (by omega), bt_mk (by omega), Nat.add_comm]; simp [h2]
  · rw [if_neg (by omega), bt_mk (by omega), hp]; simp [h2]
theorem mk_ones : ∀ n : Nat, n < 25 → ((1 : Int32) <<< (zi n &&& 31)) - 1 = mk fun j => decide (j < n) := by decide +kernel
theorem p_rows {y w : Int} (h1 : 0 ≤ y) (h2 : 1 ≤ w) (h3 : y + w ≤ 24) : M_X5_rows (zi y) (zi w) = some (mk fun j => decide (y ≤ j ∧ (j : Int) < y + w)) := by
  obtain ⟨a, rfl⟩ : ∃ a : Nat, y = a := ⟨y.toNat, by omega⟩
  obtain ⟨b, rfl⟩ : ∃ b : Nat, w = b := ⟨w.toNat, by omega⟩
  rw [M_X5_rows, mk_ones b (by omega), mk_shl (by omega)]
  refine congrArg some (mk_congr fun i hi => ?_)
  rw [Bool.eq_iff_iff, Bool.and_eq_true, decide_eq_true_iff, decide_eq_true_iff, decide_eq_true_iff]
  omega
/-! the lowest bit -/
theorem low_nat (X : Nat) (h : 0 < X) : ∃ k m, X = 2 ^ k * (2 * m + 1) := by
  induction X using Nat.strongRecOn with
  | ind X ih =>
    rcases Nat.mod_two_eq_zero_or_one X with h1 | h1
    · obtain ⟨k, m, h2⟩ := ih (X / 2) (by omega) (by omega)
      refine ⟨k + 1, m, ?_⟩
      rw [Nat.pow_succ, Nat.mul_comm (2 ^ k), Nat.mul_assoc, ← h2]
      omega
    · exact ⟨0, X / 2, by omega⟩
theorem low_bits {k m i : Nat} : (2 ^ k * (2 * m + 1)).testBit i = if i < k then false else if i = k then true else m.testBit (i - k - 1) := by
  rw [Nat.testBit_two_pow_mul]
  rcases Nat.lt_trichotomy i k with h | h | h
  · rw [if_pos h]; simp; omega
  · subst h; simp
  · rw [if_neg (by omega), if_neg (by omega)]
    obtain ⟨j, hj⟩ : ∃ j, i - k = j + 1 := ⟨i - k - 1, by omega⟩
    rw [hj, Nat.testBit_succ, show (2 * m + 1) / 2 = m from by omega]
    simp
    omega
theorem low_pred {k m i : Nat} : (2 ^ k * (2 * m + 1) - 1).testBit i = if i < k then true else if i = k then false else m.testBit (i - k - 1) := by
  have hp : 0 < 2 ^ k := Nat.two_pow_pos k
  have h1 : 2 ^ k * (2 * m + 1) - 1 = 2 ^ k * (2 * m) + (2 ^ k - 1) := by
    rw [Nat.mul_add, Nat.mul_one]; omega
  rw [h1, Nat.testBit_two_pow_mul_add _ (by omega), Nat.testBit_two_pow_sub_one]
  rcases Nat.lt_trichotomy i k with h | h | h
  · rw [if_pos h, if_pos h]; simp [h]
  · subst h; simp
  · rw [if_neg (by omega), if_neg (by omega), if_neg (by omega)]
    obtain ⟨j, hj⟩ : ∃ j, i - k = j + 1 := ⟨i - k - 1, by omega⟩
    rw [hj, Nat.testBit_succ, show (2 * m) / 2 = m from by omega]
    simp
/-- the lowest bit of a column that is not empty -/
theorem low_of {x : Int32} (h : x ≠ 0) : ∃ k, k < 32 ∧ bt x k = true ∧ (∀ i, i < k → bt x i = false) ∧ (∀ i, i < 32 → bt (x &&& (x - 1)) i = (bt x i && decide (i ≠ k))) := by
  have hX : 0 < x.toBitVec.toNat := by
    rcases Nat.eq_zero_or_pos x.toBitVec.toNat with h1 | h1
    · exact absurd (Int32.toBitVec_inj.mp (BitVec.eq_of_toNat_eq h1)) h
    · exact h1
  obtain ⟨k, m, hk⟩ := low_nat _ hX
  have hlt := x.toBitVec.isLt
  have hb : ∀ i, bt x i = if i < k then false else if i = k then true else m.testBit (i - k - 1) := fun i => by
    unfold bt
    rw [← BitVec.testBit_toNat, hk, low_bits]
  have hk32 : k < 32 := by
    rcases Nat.lt_or_ge k 32 with h1 | h1
    · exact h1
    · have h2 : 2 ^ 32 ≤ 2 ^ k := Nat.pow_le_pow_right (by omega) h1
      have h3 : 2 ^ k * 1 ≤ 2 ^ k * (2 * m + 1) := Nat.mul_le_mul_left _ (by omega)
      omega
  have hm : (x - 1).toBitVec.toNat = x.toBitVec.toNat - 1 := by
    rw [Int32.toBitVec_sub, BitVec.toNat_sub]
    have : (1 : Int32).toBitVec.toNat = 1 := by decide
    rw [this]
    omega
  have hc : ∀ i, bt (x - 1) i = if i < k then true else if i = k then false else m.testBit (i - k - 1) := fun i => by
    unfold bt
    rw [← BitVec.testBit_toNat, hm, hk, low_pred]
  refine ⟨k, hk32, by rw [hb]; simp, fun i hi => by rw [hb, if_pos hi], fun i hi => ?_⟩
  rw [b_and, hb, hc]
  rcases Nat.lt_trichotomy i k with h | h | h
  · rw [if_pos h, if_pos h]; simp
  · subst h; simp
  · rw [if_neg (by omega), if_neg (by omega), if_neg (by omega), if_neg (by omega)]
    simp; omega
def pc (x : Int32) : Int := sm 32 fun i => b1 (bt x i)
theorem pc_low {x : Int32} (h : x ≠ 0) : pc x = pc (x &&& (x - 1)) + 1 := by
  obtain ⟨k, h1, h2, h3, h4⟩ := low_of h
  unfold pc
  have h5 : (fun i => b1 (bt x i && decide (i ≠ k))) = add1 (fun i => b1 (bt x i)) k (-1) := by
    funext i
    by_cases hi : i = k
    · subst hi; simp [add1, h2, b1]
    · simp [add1, hi]
  rw [sm_congr (f := fun i => b1 (bt (x &&& (x - 1)) i)) (g := fun i => b1 (bt x i && decide (i ≠ k))) fun i hi => by rw [h4 i hi], h5, sm_add1 _ _ h1]
  omega
theorem pc_0 : pc 0 = 0 := by
  unfold pc
  rw [sm_congr (g := fun _ => 0) fun i _ => by rw [b_0]; rfl, sm_zero]
theorem pc_bd (x : Int32) : 0 ≤ pc x ∧ pc x ≤ 32 := by
  have := sm_bd (n := 32) (f := fun i => b1 (bt x i)) (B := 1) fun i _ => b1_bd _
  unfold pc; omega
theorem pc_mk (p : Nat → Bool) : pc (mk p) = sm 32 fun i => b1 (p i) := sm_congr fun i hi => by rw [bt_mk hi]
theorem p_many (x : Int32) : M_X5_many x = some (zi (pc x)) := by
  have key : ∀ (f : (Int32 → Int32 → Option Int32) → Int32 → Int32 → Option Int32) (_ : f = fun rec1 (x1_1 : Int32) (x2_1 : Int32) => (if x2_1 = 0 then (some x1_1) else (rec1 (x1_1 + (1 : Int32)) (x2_1 &&& (x2_1 - (1 : Int32))))))
      (d : Nat) (x : Int32) (a : Int) (fuel : Nat), pc x ≤ d → d < fuel → wl2 f fuel (zi a) x = some (zi (a + pc x)) := by
    intro f hf d
    induction d with
    | zero =>
      intro x a fuel h1 h2
      obtain ⟨g, rfl⟩ : ∃ g, fuel = g + 1 := ⟨fuel - 1, by omega⟩
      by_cases hx : x = 0
      · subst hx; rw [wl2, hf, pc_0]; simp
      · have := pc_low hx
        have := pc_bd (x &&& (x - 1))
        omega
    | succ d ih =>
      intro x a fuel h1 h2
      obtain ⟨g, rfl⟩ : ∃ g, fuel = g + 1 := ⟨fuel - 1, by omega⟩
      by_cases hx : x = 0
      · subst hx; rw [wl2, hf, pc_0]; simp
      · have h3 := pc_low hx
        have h4 := ih (x &&& (x - 1)) (a + 1) g (by omega) (by omega)
        have h5 : ∀ rec a b, f rec a b = if b = 0 then some a else rec (a + 1) (b &&& (b - 1)) := fun rec a b => by rw [hf]
        rw [h3, wl2, h5, if_neg hx, show zi a + 1 = zi (a + 1) from zi_add a 1, h4]
        congr 2
        omega
  have h := key _ rfl 32 x 0 700 (by have := pc_bd x; omega) (by omega)
  rw [Int.zero_add] at h
  exact h
