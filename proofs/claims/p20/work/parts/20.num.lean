/-! THE PURE SIDE: numbers and loops -/
def zi (e : Int) : Int32 := Int32.ofInt e
theorem zi_add (a b : Int) : zi a + zi b = zi (a + b) := (Int32.ofInt_add a b).symm
theorem zi_sub (a b : Int) : zi a - zi b = zi (a - b) := (Int32.ofInt_sub a b).symm
theorem zi_mul (a b : Int) : zi a * zi b = zi (a * b) := (Int32.ofInt_mul a b).symm
theorem zi_neg (a : Int) : -zi a = zi (-a) := (Int32.ofInt_neg a).symm
theorem zi_toInt {a : Int} (h1 : -2147483648 ≤ a) (h2 : a < 2147483648) : (zi a).toInt = a := Int32.toInt_ofInt_of_le h1 h2
theorem zi_lt {a b : Int} (h1 : -2147483648 ≤ a) (h2 : a < 2147483648) (h3 : -2147483648 ≤ b) (h4 : b < 2147483648) : (zi a < zi b) = (a < b) := by
  rw [Int32.lt_iff_toInt_lt, zi_toInt h1 h2, zi_toInt h3 h4]
theorem zi_le {a b : Int} (h1 : -2147483648 ≤ a) (h2 : a < 2147483648) (h3 : -2147483648 ≤ b) (h4 : b < 2147483648) : (zi a ≤ zi b) = (a ≤ b) := by
  rw [Int32.le_iff_toInt_le, zi_toInt h1 h2, zi_toInt h3 h4]
theorem zi_eq {a b : Int} (h1 : -2147483648 ≤ a) (h2 : a < 2147483648) (h3 : -2147483648 ≤ b) (h4 : b < 2147483648) : (zi a = zi b) = (a = b) := by
  rw [← Int32.toInt_inj, zi_toInt h1 h2, zi_toInt h3 h4]
theorem zi_nn {a : Int} (h1 : -2147483648 ≤ a) (h2 : a < 2147483648) : (zi a).toNatClampNeg = a.toNat := by
  rw [← Int32.toNat_toInt, zi_toInt h1 h2]
theorem zi_div {a b : Int} (h1 : 0 ≤ a) (h2 : a < 2147483648) (h3 : 0 < b) (h4 : b < 2147483648) : zi a / zi b = zi (a / b) := by
  have h5 : a / b ≤ a := Int.ediv_le_self b h1
  have h6 : 0 ≤ a / b := Int.ediv_nonneg h1 (by omega)
  apply Int32.toInt_inj.1
  rw [Int32.toInt_div_of_ne_left _ _ ?_, zi_toInt (by omega) (by omega), zi_toInt (by omega) (by omega), zi_toInt (by omega) (by omega), Int.tdiv_eq_ediv_of_nonneg h1]
  intro hc
  have h7 := congrArg Int32.toInt hc
  rw [zi_toInt (by omega) (by omega)] at h7
  have h8 : Int32.minValue.toInt = -2147483648 := by decide
  omega
theorem zi_of (x : Int32) : x = zi x.toInt := (Int32.ofInt_toInt x).symm
theorem zi_ofNat (n : Nat) : Int32.ofNat n = zi (n : Int) := (Int32.ofInt_eq_ofNat).symm
theorem n_0 : (0 : Int32) = zi 0 := rfl
theorem n_1 : (1 : Int32) = zi 1 := rfl
theorem n_2 : (2 : Int32) = zi 2 := rfl
theorem n_3 : (3 : Int32) = zi 3 := rfl
theorem n_4 : (4 : Int32) = zi 4 := rfl
theorem n_5 : (5 : Int32) = zi 5 := rfl
theorem n_6 : (6 : Int32) = zi 6 := rfl
theorem n_7 : (7 : Int32) = zi 7 := rfl
theorem n_8 : (8 : Int32) = zi 8 := rfl
theorem n_9 : (9 : Int32) = zi 9 := rfl
theorem n_10 : (10 : Int32) = zi 10 := rfl
theorem n_20 : (20 : Int32) = zi 20 := rfl
theorem n_23 : (23 : Int32) = zi 23 := rfl
theorem n_24 : (24 : Int32) = zi 24 := rfl
theorem n_576 : (576 : Int32) = zi 576 := rfl
theorem n_577 : (577 : Int32) = zi 577 := rfl
theorem n_m1 : (-1 : Int32) = zi (-1) := rfl
theorem int_b (x : Int32) : -2147483648 ≤ x.toInt ∧ x.toInt < 2147483648 := by
  have h1 := x.le_toInt
  have h2 := x.toInt_lt
  omega
/-! unfoldings that leave a proof (the kernel would open a loop's fuel otherwise) -/
theorem ob_some {A B : Type} (a : A) (f : A → Option B) : (some a).bind f = f a := Eq.trans rfl rfl
theorem jn0_e {R : Type} (k : Option R) (b : Option R → Option R) : jn0 k b = b k := Eq.trans rfl rfl
theorem jn1_e {A R : Type} (k : A → Option R) (b : (A → Option R) → Option R) : jn1 k b = b k := Eq.trans rfl rfl
theorem jn2_e {A B R : Type} (k : A → B → Option R) (b : (A → B → Option R) → Option R) : jn2 k b = b k := Eq.trans rfl rfl
theorem jn3_e {A B C R : Type} (k : A → B → C → Option R) (b : (A → B → C → Option R) → Option R) : jn3 k b = b k := Eq.trans rfl rfl
theorem jn4_e {A B C D R : Type} (k : A → B → C → D → Option R) (b : (A → B → C → D → Option R) → Option R) : jn4 k b = b k := Eq.trans rfl rfl
theorem jn5_e {A B C D E R : Type} (k : A → B → C → D → E → Option R) (b : (A → B → C → D → E → Option R) → Option R) : jn5 k b = b k := Eq.trans rfl rfl
/-! loops whose state is a function of the turn -/
theorem wl1_st {A R : Type} {f : (A → Option R) → A → Option R} {r : Option R} (a : Nat → A) (N : Nat) {x : A} (hx : x = a 0)
    (hs : ∀ rec k, k < N → f rec (a k) = rec (a (k + 1))) (he : ∀ rec, f rec (a N) = r) (fuel : Nat) (hf : N < fuel) : wl1 f fuel x = r := by
  subst hx
  have key : ∀ d k fuel, k + d = N → d < fuel → wl1 f fuel (a k) = r := by
    intro d
    induction d with
    | zero =>
      intro k fuel hk hf
      obtain ⟨g, rfl⟩ : ∃ g, fuel = g + 1 := ⟨fuel - 1, by omega⟩
      have : k = N := by omega
      subst this
      exact he _
    | succ d ih =>
      intro k fuel hk hf
      obtain ⟨g, rfl⟩ : ∃ g, fuel = g + 1 := ⟨fuel - 1, by omega⟩
      exact (hs _ k (by omega)).trans (ih (k + 1) g (by omega) (by omega))
  exact key N 0 fuel (by omega) hf
theorem wl2_st {A B R : Type} {f : (A → B → Option R) → A → B → Option R} {r : Option R} (a : Nat → A) (b : Nat → B) (N : Nat) {x : A} {y : B} (hx : x = a 0) (hy : y = b 0)
    (hs : ∀ rec k, k < N → f rec (a k) (b k) = rec (a (k + 1)) (b (k + 1))) (he : ∀ rec, f rec (a N) (b N) = r) (fuel : Nat) (hf : N < fuel) : wl2 f fuel x y = r := by
  subst hx hy
  have key : ∀ d k fuel, k + d = N → d < fuel → wl2 f fuel (a k) (b k) = r := by
    intro d
    induction d with
    | zero =>
      intro k fuel hk hf
      obtain ⟨g, rfl⟩ : ∃ g, fuel = g + 1 := ⟨fuel - 1, by omega⟩
      have : k = N := by omega
      subst this
      exact he _
    | succ d ih =>
      intro k fuel hk hf
      obtain ⟨g, rfl⟩ : ∃ g, fuel = g + 1 := ⟨fuel - 1, by omega⟩
      exact (hs _ k (by omega)).trans (ih (k + 1) g (by omega) (by omega))
  exact key N 0 fuel (by omega) hf
theorem wl3_st {A B C R : Type} {f : (A → B → C → Option R) → A → B → C → Option R} {r : Option R} (a : Nat → A) (b : Nat → B) (c : Nat → C) (N : Nat) {x : A} {y : B} {z : C} (hx : x = a 0) (hy : y = b 0) (hz : z = c 0)
    (hs : ∀ rec k, k < N → f rec (a k) (b k) (c k) = rec (a (k + 1)) (b (k + 1)) (c (k + 1))) (he : ∀ rec, f rec (a N) (b N) (c N) = r) (fuel : Nat) (hf : N < fuel) : wl3 f fuel x y z = r := by
  subst hx hy hz
  have key : ∀ d k fuel, k + d = N → d < fuel → wl3 f fuel (a k) (b k) (c k) = r := by
    intro d
    induction d with
    | zero =>
      intro k fuel hk hf
      obtain ⟨g, rfl⟩ : ∃ g, fuel = g + 1 := ⟨fuel - 1, by omega⟩
      have : k = N := by omega
      subst this
      exact he _
    | succ d ih =>
      intro k fuel hk hf
      obtain ⟨g, rfl⟩ : ∃ g, fuel = g + 1 := ⟨fuel - 1, by omega⟩
      exact (hs _ k (by omega)).trans (ih (k + 1) g (by omega) (by omega))
  exact key N 0 fuel (by omega) hf
/-! sums -/
def sm : Nat → (Nat → Int) → Int
  | 0, _ => 0
  | n + 1, f => sm n f + f n
theorem sm_congr {n : Nat} {f g : Nat → Int} (h : ∀ k, k < n → f k = g k) : sm n f = sm n g := by
  induction n with
  | zero => rfl
  | succ n ih => rw [sm, sm, ih fun k hk => h k (by omega), h n (by omega)]
theorem sm_add (n : Nat) (f g : Nat → Int) : sm n (fun k => f k + g k) = sm n f + sm n g := by
  induction n with
  | zero => rfl
  | succ n ih => simp only [sm, ih]; omega
theorem sm_zero (n : Nat) : sm n (fun _ => 0) = 0 := by
  induction n with
  | zero => rfl
  | succ n ih => simp only [sm, ih]; omega
theorem sm_swap (n m : Nat) (f : Nat → Nat → Int) : sm n (fun i => sm m (f i)) = sm m (fun j => sm n (fun i => f i j)) := by
  induction n with
  | zero => exact (sm_zero m).symm
  | succ n ih => simp only [sm, ih, sm_add]
theorem sm_bd {n : Nat} {f : Nat → Int} {B : Int} (h : ∀ k, k < n → 0 ≤ f k ∧ f k ≤ B) : 0 ≤ sm n f ∧ sm n f ≤ n * B := by
  induction n with
  | zero => simp [sm]
  | succ n ih =>
    have h1 := ih fun k hk => h k (by omega)
    have h2 := h n (by omega)
    have h3 : ((n + 1 : Nat) : Int) * B = n * B + B := by rw [Int.natCast_add, Int.add_mul]; simp
    rw [sm, h3]
    omega
theorem sm_split (a b : Nat) (f : Nat → Int) : sm (a + b) f = sm a f + sm b (fun k => f (a + k)) := by
  induction b with
  | zero => simp [sm]
  | succ b ih => rw [← Nat.add_assoc, sm, ih, sm]; omega
