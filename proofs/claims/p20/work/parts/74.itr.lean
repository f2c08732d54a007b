/-! what other operations lacked -/
def itr (f : Nat → zS → zS) : Nat → zS → zS
  | 0, σ => σ
  | k + 1, σ => f k (itr f k σ)
theorem itr_congr {f g : Nat → zS → zS} {n : Nat} (h : ∀ k σ, k < n → f k σ = g k σ) (σ : zS) : itr f n σ = itr g n σ := by
  induction n with
  | zero => rfl
  | succ n ih => rw [itr, itr, ih fun k σ hk => h k σ (by omega), h n _ (by omega)]
theorem itr_past {f : Nat → zS → zS} {g : zS → zS} (h : ∀ k σ, g (f k σ) = f k (g σ)) (n : Nat) (σ : zS) : g (itr f n σ) = itr f n (g σ) := by
  induction n with
  | zero => rfl
  | succ n ih => rw [itr, itr, h, ih]
theorem itr_both {f g : Nat → zS → zS} (h : ∀ k j σ, g k (f j σ) = f j (g k σ)) (n : Nat) (σ : zS) : itr (fun k σ => f k (g k σ)) n σ = itr f n (itr g n σ) := by
  induction n with
  | zero => rfl
  | succ n ih => rw [itr, itr, itr, ih, itr_past (g := g n) (f := f) (fun k σ => h n k σ)]
theorem itr_id (n : Nat) (σ : zS) : itr (fun _ σ => σ) n σ = σ := by
  induction n with
  | zero => rfl
  | succ n ih => rw [itr, ih]
theorem itr_swap {G : Nat → Nat → zS → zS} (h : ∀ a b c d σ, G a b (G c d σ) = G c d (G a b σ)) (n m : Nat) (σ : zS) :
    itr (fun y => itr (fun x => G x y) m) n σ = itr (fun x => itr (fun y => G x y) n) m σ := by
  induction n with
  | zero => exact (itr_id m σ).symm
  | succ n ih =>
    rw [itr, ih]
    exact (itr_both (f := fun x => G x n) (g := fun x => itr (fun y => G x y) n) (fun k j σ => (itr_past (g := G j n) (f := fun y => G k y) (fun i σ => h _ _ _ _ σ) n σ).symm) m σ).symm
theorem add2_comm (F : Nat → Nat → Int) (a b a' b' : Nat) (d d' : Int) : add2 (add2 F a b d) a' b' d' = add2 (add2 F a' b' d') a b d := by
  funext p q
  simp only [add2]
  split <;> split <;> omega
theorem add1_comm (K : Nat → Int) (a a' : Nat) (d d' : Int) : add1 (add1 K a d) a' d' = add1 (add1 K a' d') a d := by
  funext p
  simp only [add1]
  split <;> split <;> omega
theorem fal_out {A : Nat → Nat → Int} {n : Nat} {l x y d : Int} {σ : zS} (h : ¬(0 ≤ x ∧ x < 24 ∧ 0 ≤ y ∧ y < 24)) : fal A n l x y d σ = (σ.1, σ.2.1, σ.2.2 + d) := by
  unfold fal
  rw [if_neg h]
theorem fal_way (A : Nat → Nat → Int) (n : Nat) (l x y d : Int) : (∃ a b, ∀ σ, fal A n l x y d σ = (add2 σ.1 a b d, σ.2.1, σ.2.2)) ∨ (∃ i, ∀ σ, fal A n l x y d σ = (σ.1, add1 σ.2.1 i d, σ.2.2)) ∨ ∀ σ, fal A n l x y d σ = (σ.1, σ.2.1, σ.2.2 + d) := by
  by_cases h1 : 0 ≤ x ∧ x < 24 ∧ 0 ≤ y ∧ y < 24
  · by_cases h2 : (hbS A l x y n).1 < 0
    · exact .inl ⟨x.toNat, y.toNat, fun σ => by unfold fal; rw [if_pos h1, if_pos h2]⟩
    · exact .inr (.inl ⟨(hbS A l x y n).1.toNat, fun σ => by unfold fal; rw [if_pos h1, if_neg h2]⟩)
  · exact .inr (.inr fun σ => fal_out h1)
theorem fal_comm (A : Nat → Nat → Int) (n : Nat) (l x y d l' x' y' d' : Int) (σ : zS) : fal A n l x y d (fal A n l' x' y' d' σ) = fal A n l' x' y' d' (fal A n l x y d σ) := by
  rcases fal_way A n l x y d with ⟨a, b, h1⟩ | ⟨a, h1⟩ | h1 <;> rcases fal_way A n l' x' y' d' with ⟨a', b', h2⟩ | ⟨a', h2⟩ | h2 <;> rw [h1, h2, h1, h2]
  · simp only [add2_comm σ.1 a b]
  · simp only [add1_comm σ.2.1 a]
  · simp only [Int.add_assoc, Int.add_comm d']
theorem pX_itr (A : Nat → Nat → Int) (n : Nat) (d : Int) (y k : Nat) (σ : zS) : pX A n d y k σ = itr (fun x => fal A n 10 (x : Nat) (y : Nat) d) k σ := by
  induction k with
  | zero => rfl
  | succ k ih => rw [pX, ih, itr]
theorem pY_itr (A : Nat → Nat → Int) (n : Nat) (d : Int) (k : Nat) : pY A n d k = itr (fun y => itr (fun x => fal A n 10 (x : Nat) (y : Nat) d) 24) k (fun _ _ => 0, fun _ => 0, 0) := by
  induction k with
  | zero => rfl
  | succ k ih => rw [pY, ih, itr, pX_itr]
theorem zc0 (n : Nat) : zI n (fun _ => 0) = cA n (fun _ => 0) := congrArg (zI n) (ar_0 n)
theorem pY_cols (A : Nat → Nat → Int) (n : Nat) (d : Int) : itr (fun x => itr (fun y => fal A n 10 (x : Nat) (y : Nat) d) 24) 24 (fun _ _ => 0, fun _ => 0, 0) = pL A n d 0 := by
  show _ = pY A n d 24
  rw [pY_itr]
  exact (itr_swap (G := fun x y => fal A n 10 (x : Nat) (y : Nat) d) (fun a b c d' σ => fal_comm ..) 24 24 _).symm
