/-! ===== what is brought along a way ===== -/
def tgt (A B : Nat) (d : Nat → Nat → Int) (X : Lb) (m : Nat → Nat → Int) : Prop := ∀ i j, i < A → j < B → 0 < m i j → X.1 (9 + j) = X.1 i + d i j
def nng (A B : Nat) (m : Nat → Nat → Int) : Prop := ∀ i j, i < A → j < B → 0 ≤ m i j
def SHP (A B : Nat) (d : Nat → Nat → Int) (X : Lb) (m m' : Nat → Nat → Int) (a r : Nat) (q : Int) : Prop := (∀ i, i < A → rwS B m' i = rwS B m i + (if i = r then q else 0) - (if i = a then q else 0)) ∧ (∀ j, j < B → clS A m' j = clS A m j) ∧ nng A B m' ∧ tgt A B d X m'
def FL (A B : Nat) (d : Nat → Nat → Int) (Lp W : Nat → Int) (m : Nat → Nat → Int) (lf lk : Nat → Int) (sum : Int) : Prop := nng A B m ∧ (∀ i, i < A → 0 ≤ lf i ∧ lf i + rwS B m i = Lp i) ∧ (∀ j, j < B → 0 ≤ lk j ∧ lk j + clS A m j = W j) ∧ sum = cst A B m d
section SHI
variable {A B : Nat} {d m m0 m' : Nat → Nat → Int} {X : Lb} {a b a' r s : Nat} {q : Int}
theorem SHP_rfl (h1 : nng A B m) (h2 : tgt A B d X m) : SHP A B d X m m a a q := ⟨fun i _ => by omega, fun _ _ => rfl, h1, h2⟩
theorem SHP_step (ha : a < A) (hb : b < B) (ha' : a' < A) (ne : a' ≠ a) (q0 : 0 ≤ q) (hq : q ≤ m a b) (h1 : nng A B m) (h2 : tgt A B d X m) (h5 : X.1 (9 + b) = X.1 a' + d a' b) : nng A B (g2 (g2 m a b (m a b - q)) a' b (m a' b + q)) ∧ tgt A B d X (g2 (g2 m a b (m a b - q)) a' b (m a' b + q)) ∧ (SHP A B d X (g2 (g2 m a b (m a b - q)) a' b (m a' b + q)) m' a' r q → SHP A B d X m m' a r q) := by
  have v : ∀ i j, g2 (g2 m a b (m a b - q)) a' b (m a' b + q) i j = if i = a' ∧ j = b then m a' b + q else if i = a ∧ j = b then m a b - q else m i j := fun i j => rfl
  refine ⟨fun i j hi hj => ?_, fun i j hi hj hm => ?_, fun h => ⟨fun i hi => ?_, fun j hj => ?_, h.2.2⟩⟩
  · rw [v]
    have e1 := h1 i j hi hj
    have e2 := h1 a' b ha' hb
    split
    · omega
    · split <;> omega
  · rw [v] at hm
    by_cases c : i = a' ∧ j = b
    · rw [c.1, c.2]
      exact h5
    · rw [if_neg c] at hm
      by_cases c2 : i = a ∧ j = b
      · rw [if_pos c2] at hm
        rw [c2.1, c2.2]
        exact h2 a b ha hb (by omega)
      · rw [if_neg c2] at hm
        exact h2 i j hi hj hm
  · rw [h.1 i hi]
    have e1 := g2_row (g2 m a b (m a b - q)) (a := a') (b := b) (B := B) (m a' b + q) hb i
    have e2 := g2_row m (a := a) (b := b) (B := B) (m a b - q) hb i
    have e3 : g2 m a b (m a b - q) a' b = m a' b := g2_o m _ (Or.inl ne)
    rw [e3] at e1
    unfold rwS
    rw [e1, e2]
    by_cases c1 : i = a'
    · rw [if_pos c1, if_pos c1, if_neg (show ¬ i = a by omega), if_neg (show ¬ i = a by omega)]
      omega
    · rw [if_neg c1, if_neg c1]
      by_cases c2 : i = a
      · rw [if_pos c2, if_pos c2]
        omega
      · rw [if_neg c2, if_neg c2]
        omega
  · rw [h.2.1 j hj]
    have e1 := g2_col (g2 m a b (m a b - q)) (a := a') (b := b) (A := A) (m a' b + q) ha' j
    have e2 := g2_col m (a := a) (b := b) (A := A) (m a b - q) ha j
    have e3 : g2 m a b (m a b - q) a' b = m a' b := g2_o m _ (Or.inl ne)
    rw [e3] at e1
    unfold clS
    rw [e1, e2]
    by_cases c : j = b
    · rw [if_pos c, if_pos c]
      omega
    · rw [if_neg c, if_neg c]
      omega
theorem sum_plus (f c : Nat → Int) {k : Nat} (h : s < k) : sumTo (fun j => f j * (c j + if j = s then q else 0)) k = sumTo (fun j => f j * c j) k + f s * q := by
  have e : sumTo (fun j => f j * (c j + if j = s then q else 0)) k = sumTo (fun j => f j * c j + (if j = s then f s * q else 0)) k := sumTo_cg (fun j _ => by
    by_cases e : j = s
    · rw [if_pos e, if_pos e, Int.mul_add, e]
    · rw [if_neg e, if_neg e, Int.add_zero, Int.add_zero])
  rw [e, sumTo_add, sumTo_at, if_pos h]
theorem aug {Lp W lf lk : Nat → Int} {sum : Int} (F : FL A B d Lp W m0 lf lk sum) (D : DU A B d m0 lf (fun i => X.1 i) (fun j => X.1 (9 + j))) (ha : a < A) (hs : s < B) (hr : r < A) (zr : X.1 r = 0) (q0 : 0 ≤ q) (ql : q ≤ lf r) (qk : q ≤ lk s) (h : SHP A B d X (g2 m0 a s (m0 a s + q)) m' a r q) : FL A B d Lp W m' (gUp lf r (lf r - q)) (gUp lk s (lk s - q)) (sum + X.1 (9 + s) * q) ∧ DU A B d m' (gUp lf r (lf r - q)) (fun i => X.1 i) (fun j => X.1 (9 + j)) := by
  obtain ⟨F1, F2, F3, F4⟩ := F
  obtain ⟨h1, h2, h3, h4⟩ := h
  have rows : ∀ i, i < A → rwS B m' i = rwS B m0 i + (if i = r then q else 0) := fun i hi => by
    have e1 := h1 i hi
    have e2 : rwS B (g2 m0 a s (m0 a s + q)) i = rwS B m0 i + (if i = a then m0 a s + q - m0 a s else 0) := g2_row m0 (m0 a s + q) hs i
    rw [e1, e2]
    by_cases c : i = a
    · rw [if_pos c, if_pos c]; omega
    · rw [if_neg c, if_neg c]; omega
  have cols : ∀ j, j < B → clS A m' j = clS A m0 j + (if j = s then q else 0) := fun j hj => by
    have e1 := h2 j hj
    have e2 : clS A (g2 m0 a s (m0 a s + q)) j = clS A m0 j + (if j = s then m0 a s + q - m0 a s else 0) := g2_col m0 (m0 a s + q) ha j
    rw [e1, e2]
    by_cases c : j = s
    · rw [if_pos c, if_pos c]; omega
    · rw [if_neg c, if_neg c]
  refine ⟨⟨h3, fun i hi => ?_, fun j hj => ?_, ?_⟩, fun i hi => ⟨(D.1 i hi).1, (D.1 i hi).2.1, fun hl => ?_⟩, D.2.1, fun i j hi hj => ⟨(D.2.2 i j hi hj).1, h4 i j hi hj⟩⟩
  · rw [rows i hi]
    have := F2 i hi
    by_cases c : i = r
    · subst c
      rw [gUp_s, if_pos rfl]
      omega
    · rw [gUp_o _ _ c, if_neg c]
      omega
  · rw [cols j hj]
    have := F3 j hj
    by_cases c : j = s
    · subst c
      rw [gUp_s, if_pos rfl]
      omega
    · rw [gUp_o _ _ c, if_neg c]
      omega
  · have e0 := cst_eq (A := A) (B := B) (m := m0) (d := d) (hh := fun i => X.1 i) (ss := fun j => X.1 (9 + j)) (fun i j hi hj => by
      have := F1 i j hi hj
      by_cases c : 0 < m0 i j
      · exact Or.inr ((D.2.2 i j hi hj).2 c)
      · left; omega)
    have e1 := cst_eq (A := A) (B := B) (m := m') (d := d) (hh := fun i => X.1 i) (ss := fun j => X.1 (9 + j)) (fun i j hi hj => by
      have := h3 i j hi hj
      by_cases c : 0 < m' i j
      · exact Or.inr (h4 i j hi hj c)
      · left; omega)
    have e2 : sumTo (fun j => X.1 (9 + j) * clS A m' j) B = sumTo (fun j => X.1 (9 + j) * clS A m0 j) B + X.1 (9 + s) * q := by
      rw [← sum_plus (s := s) (q := q) (fun j => X.1 (9 + j)) (fun j => clS A m0 j) hs]
      exact sumTo_cg (fun j hj => by rw [cols j hj])
    have e3 : sumTo (fun i => X.1 i * rwS B m' i) A = sumTo (fun i => X.1 i * rwS B m0 i) A + X.1 r * q := by
      rw [← sum_plus (s := r) (q := q) (fun i => X.1 i) (fun i => rwS B m0 i) hr]
      exact sumTo_cg (fun i hi => by rw [rows i hi])
    rw [zr, Int.zero_mul, Int.add_zero] at e3
    rw [e1, e2, e3, F4, e0]
    omega
  · by_cases c : i = r
    · rw [c]; exact zr
    · rw [gUp_o _ _ c] at hl
      exact (D.1 i hi).2.2 hl
theorem opt_val {Lp W lf lk : Nat → Int} {sum : Int} {hh ss : Nat → Int} (F : FL A B d Lp W m lf lk sum) (D : DU A B d m lf hh ss) (z : ∀ j, j < B → lk j = 0) : sum = sumTo (fun j => ss j * W j) B - sumTo (fun i => hh i * Lp i) A := by
  obtain ⟨F1, F2, F3, F4⟩ := F
  rw [F4, cst_eq (hh := hh) (ss := ss) (fun i j hi hj => by
      have := F1 i j hi hj
      by_cases c : 0 < m i j
      · exact Or.inr ((D.2.2 i j hi hj).2 c)
      · left; omega)]
  congr 1
  · exact sumTo_cg (fun j hj => by
      have h1 := F3 j hj
      have h2 := z j hj
      rw [show clS A m j = W j by omega])
  · exact sumTo_cg (fun i hi => by
      have h1 := F2 i hi
      by_cases c : 0 < lf i
      · rw [(D.1 i hi).2.2 c, Int.zero_mul, Int.zero_mul]
      · rw [show rwS B m i = Lp i by omega])
theorem opt_ge {Lp W lf lk : Nat → Int} {sum : Int} {hh ss : Nat → Int} (F : FL A B d Lp W m lf lk sum) (z : ∀ j, j < B → lk j = 0) (hn : ∀ i, i < A → 0 ≤ hh i) (hd : ∀ i j, i < A → j < B → 0 < Lp i → 0 < W j → ss j ≤ hh i + d i j) : sumTo (fun j => ss j * W j) B - sumTo (fun i => hh i * Lp i) A ≤ sum := by
  obtain ⟨F1, F2, F3, F4⟩ := F
  have h1 := cst_ge (A := A) (B := B) (m := m) (d := d) (hh := hh) (ss := ss) F1 (fun i j hi hj => by
    by_cases c : 0 < Lp i
    · by_cases c2 : 0 < W j
      · exact Or.inr (hd i j hi hj c c2)
      · left
        have e1 := F3 j hj
        have e2 := sumTo_ge (f := fun i => m i j) (k := A) (fun i hi => F1 i j hi hj) hi
        have e3 := F1 i j hi hj
        unfold clS at e1
        omega
    · left
      have e1 := F2 i hi
      have e2 := sumTo_ge (f := fun j => m i j) (k := B) (fun j hj => F1 i j hi hj) hj
      have e3 := F1 i j hi hj
      unfold rwS at e1
      omega)
  have h2 : sumTo (fun j => ss j * clS A m j) B = sumTo (fun j => ss j * W j) B := sumTo_cg (fun j hj => by
    have h1 := F3 j hj
    have h2 := z j hj
    rw [show clS A m j = W j by omega])
  have h3 : sumTo (fun i => hh i * rwS B m i) A ≤ sumTo (fun i => hh i * Lp i) A := sumTo_le (fun i hi => by
    have h1 := F2 i hi
    exact Int.mul_le_mul_of_nonneg_left (by omega) (hn i hi))
  rw [F4]
  omega
end SHI
