/-! ===== the labels of a flow ===== -/
def x0F (A : Nat) (lf : Nat → Int) : Nat → Int := fun v => if v < A ∧ 0 < lf v then 0 else 1000000
def piF (A B : Nat) (hh ss : Nat → Int) : Nat → Int := fun v => if v < A then hh v else if 9 ≤ v ∧ v < 9 + B then ss (v - 9) else 0
def DU (A B : Nat) (d m : Nat → Nat → Int) (lf hh ss : Nat → Int) : Prop := (∀ i, i < A → 0 ≤ hh i ∧ hh i ≤ 1000000 ∧ (0 < lf i → hh i = 0)) ∧ (∀ j, j < B → 0 ≤ ss j ∧ ss j ≤ 1000000) ∧ ∀ i j, i < A → j < B → ss j ≤ hh i + d i j ∧ (0 < m i j → ss j = hh i + d i j)
def NK (A B : Nat) (ok : Nat → Bool) (m : Nat → Nat → Int) (lf : Nat → Int) : Prop := ∀ i, i < A → ok i = false → lf i = 0 ∧ ∀ j, j < B → m i j = 0
def LLs (A B : Nat) (ok : Nat → Bool) (d m : Nat → Nat → Int) : List Ed := allL ok d m B A 0
def dOk (A B : Nat) (d : Nat → Nat → Int) : Prop := ∀ i j, i < A → j < B → 0 ≤ d i j ∧ d i j ≤ 99
def PB (pi : Nat → Int) (X : Lb) : Prop := ∀ v, pi v ≤ X.1 v ∧ X.1 v ≤ 1000000
section FLW
variable {A B : Nat} {ok : Nat → Bool} {d m : Nat → Nat → Int} {lf hh ss : Nat → Int}
theorem LL_mem {e : Ed} (h : e ∈ LLs A B ok d m) : ∃ a b, a < A ∧ ok a = true ∧ b < B ∧ (e = (a, 9 + b, d a b) ∨ (0 < m a b ∧ e = (9 + b, a, -(d a b)))) := by
  obtain ⟨a, b, -, h2, h3, h4, h5⟩ := mem_all.mp h
  exact ⟨a, b, by omega, h3, h4, mem_pr.mp h5⟩
theorem LL_1 {a b : Nat} (ha : a < A) (ho : ok a = true) (hb : b < B) : (a, 9 + b, d a b) ∈ LLs A B ok d m := mem_all.mpr ⟨a, b, by omega, by omega, ho, hb, mem_pr.mpr (Or.inl rfl)⟩
theorem LL_2 {a b : Nat} (ha : a < A) (ho : ok a = true) (hb : b < B) (hm : 0 < m a b) : (9 + b, a, -(d a b)) ∈ LLs A B ok d m := mem_all.mpr ⟨a, b, by omega, by omega, ho, hb, mem_pr.mpr (Or.inr ⟨hm, rfl⟩)⟩
theorem LL_ne (hA : A ≤ 9) : ∀ e, e ∈ LLs A B ok d m → e.1 ≠ e.2.1 := by
  intro e h
  obtain ⟨a, b, h1, -, h2, rfl | ⟨-, rfl⟩⟩ := LL_mem h
  · show a ≠ 9 + b; omega
  · show 9 + b ≠ a; omega
theorem LL_a (hA : A ≤ 9) (hB : B ≤ 8) : ∀ e, e ∈ LLs A B ok d m → e.1 < 17 := by
  intro e h
  obtain ⟨a, b, h1, -, h2, rfl | ⟨-, rfl⟩⟩ := LL_mem h
  · show a < 17; omega
  · show 9 + b < 17; omega
theorem LL_b (hA : A ≤ 9) (hB : B ≤ 8) : ∀ e, e ∈ LLs A B ok d m → e.2.1 < 17 := by
  intro e h
  obtain ⟨a, b, h1, -, h2, rfl | ⟨-, rfl⟩⟩ := LL_mem h
  · show 9 + b < 17; omega
  · show a < 17; omega
theorem pi_h {a : Nat} (h : a < A) : piF A B hh ss a = hh a := if_pos h
theorem pi_s (hA : A ≤ 9) {b : Nat} (h : b < B) : piF A B hh ss (9 + b) = ss b := by
  unfold piF
  rw [if_neg (by omega), if_pos (by omega), show 9 + b - 9 = b by omega]
theorem LL_p (hA : A ≤ 9) (D : DU A B d m lf hh ss) : ∀ e, e ∈ LLs A B ok d m → piF A B hh ss e.2.1 ≤ piF A B hh ss e.1 + e.2.2 := by
  intro e h
  obtain ⟨a, b, h1, -, h2, rfl | ⟨h3, rfl⟩⟩ := LL_mem h
  · show piF A B hh ss (9 + b) ≤ piF A B hh ss a + d a b
    rw [pi_h h1, pi_s hA h2]
    exact (D.2.2 a b h1 h2).1
  · show piF A B hh ss a ≤ piF A B hh ss (9 + b) + -(d a b)
    rw [pi_h h1, pi_s hA h2]
    have := (D.2.2 a b h1 h2).2 h3
    omega
theorem pi_bd (hA : A ≤ 9) (D : DU A B d m lf hh ss) (v : Nat) : 0 ≤ piF A B hh ss v ∧ piF A B hh ss v ≤ 1000000 := by
  unfold piF
  split
  · next h => have := D.1 v h; omega
  · split
    · next h => have := D.2.1 (v - 9) (by omega); omega
    · omega
theorem pi_x0 (hA : A ≤ 9) (D : DU A B d m lf hh ss) (v : Nat) : piF A B hh ss v ≤ x0F A lf v := by
  unfold x0F
  by_cases c : v < A ∧ 0 < lf v
  · rw [if_pos c, pi_h c.1, (D.1 v c.1).2.2 c.2]
    exact Int.le_refl _
  · rw [if_neg c]
    exact (pi_bd hA D v).2
theorem PB_rlx {pi : Nat → Int} {X : Lb} {e : Ed} (hp : pi e.2.1 ≤ pi e.1 + e.2.2) (h : PB pi X) : PB pi (rlx X e) := by
  intro v
  have h1 := h v
  have h2 := h e.1
  have h3 := h e.2.1
  unfold rlx
  by_cases c : cnd X e = true
  · rw [if_pos c]
    have := of_decide_eq_true c
    by_cases k : v = e.2.1
    · subst k
      show pi _ ≤ gUp _ _ _ _ ∧ gUp _ _ _ _ ≤ _
      rw [gUp_s]
      omega
    · show pi _ ≤ gUp _ _ _ _ ∧ gUp _ _ _ _ ≤ _
      rw [gUp_o _ _ k]
      exact h1
  · rw [if_neg c]
    exact h1
theorem PB_run {pi : Nat → Int} : ∀ (l : List Ed) (X : Lb), (∀ e, e ∈ l → pi e.2.1 ≤ pi e.1 + e.2.2) → PB pi X → PB pi (gRun l X).2 := by
  intro l
  induction l with
  | nil => intro X _ h; exact h
  | cons e l ih => intro X hl h; exact ih (rlx X e) (fun e' he => hl e' (by simp [he])) (PB_rlx (hl e (by simp)) h)
theorem PB_start (hA : A ≤ 9) (D : DU A B d m lf hh ss) : PB (piF A B hh ss) (x0F A lf, fun _ => -1) := by
  intro v
  refine ⟨pi_x0 hA D v, ?_⟩
  show x0F A lf v ≤ _
  unfold x0F
  split <;> omega
/-- what the last labels say -/
def WY (A B : Nat) (ok : Nat → Bool) (d m : Nat → Nat → Int) (lf : Nat → Int) (X : Lb) (tau : Nat → Nat) : Prop := (∀ v, 0 ≤ X.1 v ∧ X.1 v ≤ 1000000) ∧ (∀ a, a < A → X.1 a < 1000000 → (X.2 a = -1 ∧ 0 < lf a ∧ X.1 a = 0) ∨ ∃ b, b < B ∧ ok a = true ∧ X.2 a = ((9 + b : Nat) : Int) ∧ 0 < m a b ∧ X.1 (9 + b) < 1000000 ∧ tau (9 + b) < tau a) ∧ (∀ b, b < B → X.1 (9 + b) < 1000000 → ∃ a, a < A ∧ ok a = true ∧ X.2 (9 + b) = (a : Int) ∧ X.1 a < 1000000 ∧ X.1 (9 + b) = X.1 a + d a b ∧ tau a < tau (9 + b))
theorem ways_ok (hA : A ≤ 9) (hB : B ≤ 8) (hd : dOk A B d) (D : DU A B d m lf hh ss) (nk : NK A B ok m lf) : (∃ tau, WY A B ok d m lf (fin (LLs A B ok d m) (x0F A lf)) tau) ∧ ((∃ i, i < A ∧ 0 < lf i) → DU A B d m lf (fun i => (fin (LLs A B ok d m) (x0F A lf)).1 i) (fun j => (fin (LLs A B ok d m) (x0F A lf)).1 (9 + j)) ∧ ∀ j, j < B → (fin (LLs A B ok d m) (x0F A lf)).1 (9 + j) < 1000000) ∧ ((∀ i, i < A → ¬ 0 < lf i) → ∀ v, (fin (LLs A B ok d m) (x0F A lf)).1 v = 1000000) := by
  obtain ⟨f1, f2, tau, f3⟩ := fin_ok (LL_ne (B := B) (ok := ok) (d := d) (m := m) hA) (LL_a hA hB) (LL_b hA hB) (LL_p hA D) (pi_x0 hA D)
  generalize fin (LLs A B ok d m) (x0F A lf) = X at *
  have xb : ∀ v, x0F A lf v ≤ 1000000 := fun v => by unfold x0F; split <;> omega
  have X0 : ∀ v, 0 ≤ X.1 v ∧ X.1 v ≤ 1000000 := fun v => by
    have h1 := f1 v
    have h2 := pi_bd hA D v
    have h3 := xb v
    omega
  refine ⟨⟨tau, X0, fun a ha hx => ?_, fun b hb hx => ?_⟩, fun hs => ?_, fun hs => ?_⟩
  · rcases f3 a with ⟨a1, a2⟩ | ⟨u, c, a1, a2, a3, a4, a5⟩
    · left
      unfold x0F at a2
      by_cases k : a < A ∧ 0 < lf a
      · rw [if_pos k] at a2
        exact ⟨a1, k.2, a2⟩
      · rw [if_neg k] at a2
        omega
    · right
      obtain ⟨i, j, h1, h2, h3, h4 | ⟨h4, h5⟩⟩ := LL_mem a1
      · simp only [Prod.mk.injEq] at h4
        omega
      · simp only [Prod.mk.injEq] at h5
        obtain ⟨rfl, rfl, rfl⟩ := h5
        exact ⟨j, h3, h2, a2, h4, a3, a5⟩
  · rcases f3 (9 + b) with ⟨a1, a2⟩ | ⟨u, c, a1, a2, a3, a4, a5⟩
    · unfold x0F at a2
      rw [if_neg (fun z => by omega)] at a2
      omega
    · obtain ⟨i, j, h1, h2, h3, h4 | ⟨h4, h5⟩⟩ := LL_mem a1
      · simp only [Prod.mk.injEq] at h4
        obtain ⟨rfl, h4, rfl⟩ := h4
        obtain rfl : b = j := by omega
        exact ⟨u, h1, h2, a2, a3, a4, a5⟩
      · simp only [Prod.mk.injEq] at h5
        omega
  · obtain ⟨i0, h1, h2⟩ := hs
    have o0 : ok i0 = true := by
      cases c : ok i0 with
      | true => rfl
      | false => have := (nk i0 h1 c).1; omega
    have z0 : X.1 i0 = 0 := by
      have h3 := (f1 i0).2
      have h4 := X0 i0
      rw [show x0F A lf i0 = 0 from if_pos ⟨h1, h2⟩] at h3
      omega
    have sf : ∀ j, j < B → X.1 (9 + j) < 1000000 := fun j hj => by
      have h3 := f2 i0 (9 + j) (d i0 j) (LL_1 h1 o0 hj) (by omega)
      have := hd i0 j h1 hj
      omega
    refine ⟨⟨fun i hi => ⟨(X0 i).1, (X0 i).2, fun hl => ?_⟩, fun j hj => X0 (9 + j), fun i j hi hj => ?_⟩, sf⟩
    · have h3 := (f1 i).2
      have h4 := X0 i
      rw [show x0F A lf i = 0 from if_pos ⟨hi, hl⟩] at h3
      show X.1 i = 0
      omega
    · have hdd := hd i j hi hj
      have le : X.1 (9 + j) ≤ X.1 i + d i j := by
        by_cases c : ok i = true
        · by_cases k : X.1 i < 1000000
          · exact f2 i (9 + j) (d i j) (LL_1 hi c hj) k
          · have := (X0 (9 + j)).2
            omega
        · have c := ne_b c
          rcases f3 i with ⟨a1, a2⟩ | ⟨u, c', a1, a2, a3, a4, a5⟩
          · have e := (nk i hi c).1
            unfold x0F at a2
            rw [if_neg (fun z => by omega)] at a2
            have := (X0 (9 + j)).2
            omega
          · obtain ⟨i', j', h1', h2', h3', h4' | ⟨h4', h5'⟩⟩ := LL_mem a1
            · simp only [Prod.mk.injEq] at h4'
              omega
            · simp only [Prod.mk.injEq] at h5'
              obtain ⟨-, rfl, -⟩ := h5'
              rw [h2'] at c
              cases c
      refine ⟨le, fun hm => ?_⟩
      have c : ok i = true := by
        cases c : ok i with
        | true => rfl
        | false => have := (nk i hi c).2 j hj; omega
      have h3 := f2 (9 + j) i (-(d i j)) (LL_2 hi c hj hm) (sf j hj)
      show X.1 (9 + j) = X.1 i + d i j
      omega
  · have all : ∀ k v, tau v ≤ k → X.1 v = 1000000 := by
      intro k
      induction k with
      | zero =>
        intro v hv
        rcases f3 v with ⟨a1, a2⟩ | ⟨u, c, a1, a2, a3, a4, a5⟩
        · rw [a2]
          exact if_neg (fun z => hs v z.1 z.2)
        · omega
      | succ k ih =>
        intro v hv
        rcases f3 v with ⟨a1, a2⟩ | ⟨u, c, a1, a2, a3, a4, a5⟩
        · rw [a2]
          exact if_neg (fun z => hs v z.1 z.2)
        · have := ih u (by omega)
          omega
    exact fun v => all (tau v) v (Nat.le_refl _)
/-- the way back from a heap to one where something lies -/
def CH (A B : Nat) (d m : Nat → Nat → Int) (lf : Nat → Int) (X : Lb) (tau : Nat → Nat) (amt : Int) : Nat → Nat → Nat → Prop
  | 0, a, r => a = r ∧ a < A ∧ X.2 a = -1 ∧ 0 < lf a ∧ X.1 a = 0
  | k + 1, a, r => ∃ b a' : Nat, a < A ∧ b < B ∧ a' < A ∧ X.2 a = ((9 + b : Nat) : Int) ∧ X.2 (9 + b) = (a' : Int) ∧ amt ≤ m a b ∧ tau a' < tau a ∧ X.1 (9 + b) = X.1 a' + d a' b ∧ CH A B d m lf X tau amt k a' r
theorem CH_mono {X : Lb} {tau : Nat → Nat} {p q : Int} (h : p ≤ q) : ∀ {k a r : Nat}, CH A B d m lf X tau q k a r → CH A B d m lf X tau p k a r := by
  intro k
  induction k with
  | zero => intro a r c; exact c
  | succ k ih =>
    rintro a r ⟨b, a', h1, h2, h3, h4, h5, h6, h7, h8, h9⟩
    exact ⟨b, a', h1, h2, h3, h4, h5, Int.le_trans h h6, h7, h8, ih h9⟩
theorem CH_end {X : Lb} {tau : Nat → Nat} {p : Int} : ∀ {k a r : Nat}, CH A B d m lf X tau p k a r → r < A ∧ 0 < lf r ∧ X.1 r = 0 ∧ X.2 r = -1 ∧ a < A := by
  intro k
  induction k with
  | zero =>
    rintro a r ⟨rfl, h1, h2, h3, h4⟩
    exact ⟨h1, h3, h4, h2, h1⟩
  | succ k ih =>
    rintro a r ⟨b, a', h1, h2, h3, h4, h5, h6, h7, h8, h9⟩
    have := ih h9
    exact ⟨this.1, this.2.1, this.2.2.1, this.2.2.2.1, h1⟩
theorem CH_ex {X : Lb} {tau : Nat → Nat} (w : WY A B ok d m lf X tau) : ∀ (t a : Nat), tau a ≤ t → a < A → X.1 a < 1000000 → ∃ k r, k ≤ ctn (fun w => decide (tau w < tau a)) A ∧ CH A B d m lf X tau 1 k a r := by
  intro t
  induction t with
  | zero =>
    intro a h1 h2 h3
    rcases w.2.1 a h2 h3 with ⟨a1, a2, a3⟩ | ⟨b, -, -, -, -, -, b6⟩
    · exact ⟨0, a, Nat.zero_le _, rfl, h2, a1, a2, a3⟩
    · omega
  | succ t ih =>
    intro a h1 h2 h3
    rcases w.2.1 a h2 h3 with ⟨a1, a2, a3⟩ | ⟨b, b1, b2, b3, b4, b5, b6⟩
    · exact ⟨0, a, Nat.zero_le _, rfl, h2, a1, a2, a3⟩
    · obtain ⟨a', c1, c2, c3, c4, c5, c6⟩ := w.2.2 b b1 b5
      obtain ⟨k, r, k1, k2⟩ := ih a' (by omega) c1 c4
      have := ctn_tau (k := A) c1 (show tau a' < tau a by omega)
      exact ⟨k + 1, r, by omega, b, a', h2, b1, c1, b3, c3, by omega, by omega, c5, k2⟩
end FLW
