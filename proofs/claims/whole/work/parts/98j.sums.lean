/-! ===== sums, flows, duals ===== -/
theorem sumTo_0 (k : Nat) : sumTo (fun _ => (0 : Int)) k = 0 := by
  induction k with
  | zero => rfl
  | succ k ih => show sumTo _ k + 0 = 0; rw [ih]; rfl
theorem sumTo_mul (c : Int) (f : Nat → Int) (k : Nat) : sumTo (fun i => c * f i) k = c * sumTo f k := by
  induction k with
  | zero => exact (Int.mul_zero c).symm
  | succ k ih => show sumTo _ k + c * f k = c * (sumTo f k + f k); rw [ih, Int.mul_add]
theorem sumTo_sub (f g : Nat → Int) (k : Nat) : sumTo (fun i => f i - g i) k = sumTo f k - sumTo g k := by
  induction k with
  | zero => rfl
  | succ k ih => show sumTo _ k + (f k - g k) = (sumTo f k + f k) - (sumTo g k + g k); rw [ih]; omega
theorem sumTo_swap (f : Nat → Nat → Int) (A B : Nat) : sumTo (fun i => sumTo (fun j => f i j) B) A = sumTo (fun j => sumTo (fun i => f i j) A) B := by
  induction A with
  | zero => show (0 : Int) = sumTo (fun j => 0) B; rw [sumTo_0]
  | succ A ih => show sumTo _ A + sumTo (fun j => f A j) B = sumTo (fun j => sumTo (fun i => f i j) A + f A j) B; rw [ih, sumTo_add]
theorem sumTo_at (q : Int) {s k : Nat} : sumTo (fun i => if i = s then q else 0) k = if s < k then q else 0 := by
  induction k with
  | zero => rfl
  | succ k ih =>
    show sumTo _ k + (if k = s then q else 0) = _
    rw [ih]
    by_cases c : k = s
    · rw [if_pos c, if_neg (by omega), if_pos (by omega)]
      omega
    · rw [if_neg c]
      by_cases e : s < k
      · rw [if_pos e, if_pos (by omega)]
        omega
      · rw [if_neg e, if_neg (by omega)]
        rfl
theorem sumTo_up (f : Nat → Int) {s k : Nat} (v : Int) (h : s < k) : sumTo (gUp f s v) k = sumTo f k + (v - f s) := by
  have e : sumTo (gUp f s v) k = sumTo (fun i => f i + (if i = s then v - f s else 0)) k := sumTo_cg (fun i hi => by
    show (if i = s then v else f i) = _
    by_cases c : i = s
    · rw [if_pos c, if_pos c, c]
      omega
    · rw [if_neg c, if_neg c]
      omega)
  rw [e, sumTo_add, sumTo_at, if_pos h]
theorem sumTo_nn {f : Nat → Int} {k : Nat} (h : ∀ i, i < k → 0 ≤ f i) : 0 ≤ sumTo f k := by
  have := sumTo_le (f := fun _ => 0) (g := f) (k := k) h
  rw [sumTo_0] at this
  exact this
theorem sumTo_ge {f : Nat → Int} {k i : Nat} (h : ∀ i, i < k → 0 ≤ f i) (hi : i < k) : f i ≤ sumTo f k := by
  have := sumTo_le (f := fun j => if j = i then f i else 0) (g := f) (k := k) (fun j hj => by
    by_cases c : j = i
    · rw [if_pos c, c]
      exact Int.le_refl _
    · rw [if_neg c]
      exact h j hj)
  rw [sumTo_at, if_pos hi] at this
  exact this
def g2 (m : Nat → Nat → Int) (a b : Nat) (v : Int) : Nat → Nat → Int := fun i j => if i = a ∧ j = b then v else m i j
theorem g2_s (m : Nat → Nat → Int) (a b : Nat) (v : Int) : g2 m a b v a b = v := if_pos ⟨rfl, rfl⟩
theorem g2_o (m : Nat → Nat → Int) {a b i j : Nat} (v : Int) (h : i ≠ a ∨ j ≠ b) : g2 m a b v i j = m i j := if_neg (fun z => by omega)
theorem g2_row (m : Nat → Nat → Int) {a b B : Nat} (v : Int) (hb : b < B) (i : Nat) : sumTo (fun j => g2 m a b v i j) B = sumTo (fun j => m i j) B + (if i = a then v - m a b else 0) := by
  by_cases c : i = a
  · subst c
    rw [if_pos rfl, show (fun j => g2 m i b v i j) = gUp (fun j => m i j) b v from funext fun j => by
      show (if i = i ∧ j = b then v else m i j) = (if j = b then v else m i j)
      by_cases e : j = b
      · rw [if_pos ⟨rfl, e⟩, if_pos e]
      · rw [if_neg (fun z => e z.2), if_neg e]]
    rw [sumTo_up _ _ hb]
  · rw [if_neg c, Int.add_zero]
    exact sumTo_cg (fun j _ => g2_o m v (Or.inl c))
theorem g2_col (m : Nat → Nat → Int) {a b A : Nat} (v : Int) (ha : a < A) (j : Nat) : sumTo (fun i => g2 m a b v i j) A = sumTo (fun i => m i j) A + (if j = b then v - m a b else 0) := by
  by_cases c : j = b
  · subst c
    rw [if_pos rfl, show (fun i => g2 m a j v i j) = gUp (fun i => m i j) a v from funext fun i => by
      show (if i = a ∧ j = j then v else m i j) = (if i = a then v else m i j)
      by_cases e : i = a
      · rw [if_pos ⟨e, rfl⟩, if_pos e]
      · rw [if_neg (fun z => e z.1), if_neg e]]
    rw [sumTo_up _ _ ha]
  · rw [if_neg c, Int.add_zero]
    exact sumTo_cg (fun i _ => g2_o m v (Or.inr c))
def cst (A B : Nat) (m d : Nat → Nat → Int) : Int := sumTo (fun i => sumTo (fun j => m i j * d i j) B) A
def rwS (B : Nat) (m : Nat → Nat → Int) (i : Nat) : Int := sumTo (fun j => m i j) B
def clS (A : Nat) (m : Nat → Nat → Int) (j : Nat) : Int := sumTo (fun i => m i j) A
theorem dual_sum (A B : Nat) (m : Nat → Nat → Int) (hh ss : Nat → Int) : sumTo (fun i => sumTo (fun j => m i j * (ss j - hh i)) B) A = sumTo (fun j => ss j * clS A m j) B - sumTo (fun i => hh i * rwS B m i) A := by
  have e1 : sumTo (fun i => sumTo (fun j => m i j * (ss j - hh i)) B) A = sumTo (fun i => sumTo (fun j => ss j * m i j) B - hh i * rwS B m i) A := sumTo_cg (fun i _ => by
    unfold rwS
    rw [← sumTo_mul, ← sumTo_sub]
    exact sumTo_cg (fun j _ => by rw [Int.mul_sub, Int.mul_comm (m i j), Int.mul_comm (m i j)]))
  rw [e1, sumTo_sub, sumTo_swap (fun i j => ss j * m i j)]
  congr 1
  exact sumTo_cg (fun j _ => sumTo_mul (ss j) (fun i => m i j) A)
theorem cst_eq {A B : Nat} {m d : Nat → Nat → Int} {hh ss : Nat → Int} (h : ∀ i j, i < A → j < B → m i j = 0 ∨ ss j = hh i + d i j) : cst A B m d = sumTo (fun j => ss j * clS A m j) B - sumTo (fun i => hh i * rwS B m i) A := by
  rw [← dual_sum]
  exact sumTo_cg (fun i hi => sumTo_cg (fun j hj => by
    rcases h i j hi hj with e | e
    · rw [e, Int.zero_mul, Int.zero_mul]
    · rw [show ss j - hh i = d i j by omega]))
theorem cst_ge {A B : Nat} {m d : Nat → Nat → Int} {hh ss : Nat → Int} (hm : ∀ i j, i < A → j < B → 0 ≤ m i j) (h : ∀ i j, i < A → j < B → m i j = 0 ∨ ss j ≤ hh i + d i j) : sumTo (fun j => ss j * clS A m j) B - sumTo (fun i => hh i * rwS B m i) A ≤ cst A B m d := by
  rw [← dual_sum]
  exact sumTo_le (fun i hi => sumTo_le (fun j hj => by
    rcases h i j hi hj with e | e
    · rw [e, Int.zero_mul, Int.zero_mul]
      exact Int.le_refl _
    · exact Int.mul_le_mul_of_nonneg_left (by omega) (hm i j hi hj)))
/-- the list of edges -/
def prL (d m : Nat → Nat → Int) (a b : Nat) : List Ed := (a, 9 + b, d a b) :: (if 0 < m a b then [(9 + b, a, -(d a b))] else [])
def rowL (d m : Nat → Nat → Int) (a : Nat) : Nat → Nat → List Ed
  | 0, _ => []
  | j + 1, b => prL d m a b ++ rowL d m a j (b + 1)
def allL (ok : Nat → Bool) (d m : Nat → Nat → Int) (B : Nat) : Nat → Nat → List Ed
  | 0, _ => []
  | j + 1, a => (if ok a = true then rowL d m a B 0 else []) ++ allL ok d m B j (a + 1)
theorem mem_row {d m : Nat → Nat → Int} {a : Nat} {e : Ed} : ∀ {j b0 : Nat}, e ∈ rowL d m a j b0 ↔ ∃ b, b0 ≤ b ∧ b < b0 + j ∧ e ∈ prL d m a b := by
  intro j
  induction j with
  | zero => intro b0; exact ⟨fun h => absurd h (by simp [rowL]), fun ⟨b, h1, h2, _⟩ => absurd h2 (by omega)⟩
  | succ j ih =>
    intro b0
    rw [rowL, List.mem_append, ih]
    constructor
    · rintro (h | ⟨b, h1, h2, h3⟩)
      · exact ⟨b0, Nat.le_refl _, by omega, h⟩
      · exact ⟨b, by omega, by omega, h3⟩
    · rintro ⟨b, h1, h2, h3⟩
      by_cases c : b = b0
      · subst c; exact Or.inl h3
      · exact Or.inr ⟨b, by omega, by omega, h3⟩
theorem mem_all {ok : Nat → Bool} {d m : Nat → Nat → Int} {B : Nat} {e : Ed} : ∀ {j a0 : Nat}, e ∈ allL ok d m B j a0 ↔ ∃ a b, a0 ≤ a ∧ a < a0 + j ∧ ok a = true ∧ b < B ∧ e ∈ prL d m a b := by
  intro j
  induction j with
  | zero => intro a0; exact ⟨fun h => absurd h (by simp [allL]), fun ⟨a, b, h1, h2, _⟩ => absurd h2 (by omega)⟩
  | succ j ih =>
    intro a0
    rw [allL, List.mem_append, ih]
    constructor
    · rintro (h | ⟨a, b, h1, h2, h3⟩)
      · by_cases c : ok a0 = true
        · rw [if_pos c] at h
          obtain ⟨b, -, h2, h3⟩ := mem_row.mp h
          exact ⟨a0, b, Nat.le_refl _, by omega, c, by omega, h3⟩
        · rw [if_neg c] at h
          exact absurd h (by simp)
      · exact ⟨a, b, by omega, by omega, h3⟩
    · rintro ⟨a, b, h1, h2, h3, h4, h5⟩
      by_cases c : a = a0
      · subst c
        left
        rw [if_pos h3]
        exact mem_row.mpr ⟨b, by omega, by omega, h5⟩
      · exact Or.inr ⟨a, b, by omega, by omega, h3, h4, h5⟩
theorem mem_pr {d m : Nat → Nat → Int} {a b : Nat} {e : Ed} : e ∈ prL d m a b ↔ e = (a, 9 + b, d a b) ∨ (0 < m a b ∧ e = (9 + b, a, -(d a b))) := by
  unfold prL
  rw [List.mem_cons]
  by_cases c : 0 < m a b
  · rw [if_pos c]
    simp [c]
  · rw [if_neg c]
    simp [c]
