/-! ===== ways: labels that are made shorter, edge by edge ===== -/
abbrev Lb : Type := (Nat → Int) × (Nat → Int)
abbrev Ed : Type := Nat × Nat × Int
def gUp (f : Nat → Int) (i : Nat) (v : Int) : Nat → Int := fun j => if j = i then v else f j
theorem gUp_s (f : Nat → Int) (i : Nat) (v : Int) : gUp f i v i = v := if_pos rfl
theorem gUp_o (f : Nat → Int) {i j : Nat} (v : Int) (h : j ≠ i) : gUp f i v j = f j := if_neg h
def cnd (X : Lb) (e : Ed) : Bool := decide (X.1 e.1 < 1000000 ∧ X.1 e.1 + e.2.2 < X.1 e.2.1)
def rlx (X : Lb) (e : Ed) : Lb := if cnd X e = true then (gUp X.1 e.2.1 (X.1 e.1 + e.2.2), gUp X.2 e.2.1 (e.1 : Int)) else X
def gRun : List Ed → Lb → Bool × Lb
  | [], X => (false, X)
  | e :: l, X => (cnd X e || (gRun l (rlx X e)).1, (gRun l (rlx X e)).2)
theorem rlx_f {X : Lb} {e : Ed} (h : cnd X e = false) : rlx X e = X := if_neg (by rw [h]; decide)
theorem rlx_le (X : Lb) (e : Ed) (v : Nat) : (rlx X e).1 v ≤ X.1 v := by
  unfold rlx
  by_cases c : cnd X e = true
  · rw [if_pos c]
    have := of_decide_eq_true c
    by_cases k : v = e.2.1
    · subst k
      show gUp _ _ _ _ ≤ _
      rw [gUp_s]
      omega
    · show gUp _ _ _ _ ≤ _
      rw [gUp_o _ _ k]
      exact Int.le_refl _
  · rw [if_neg c]
    exact Int.le_refl _
theorem run_le : ∀ (l : List Ed) (X : Lb) (v : Nat), (gRun l X).2.1 v ≤ X.1 v := by
  intro l
  induction l with
  | nil => intro X v; exact Int.le_refl _
  | cons e l ih => intro X v; exact Int.le_trans (ih (rlx X e) v) (rlx_le X e v)
theorem run_id : ∀ (l : List Ed) (X : Lb), (gRun l X).1 = false → (gRun l X).2 = X ∧ ∀ e, e ∈ l → cnd X e = false := by
  intro l
  induction l with
  | nil => intro X _; exact ⟨rfl, fun e h => absurd h (by simp)⟩
  | cons e l ih =>
    intro X h
    have h : (cnd X e || (gRun l (rlx X e)).1) = false := h
    rw [Bool.or_eq_false_iff] at h
    have e1 := rlx_f h.1
    rw [e1] at h
    obtain ⟨h1, h2⟩ := ih X h.2
    refine ⟨?_, fun e' he => ?_⟩
    · show (gRun l (rlx X e)).2 = X
      rw [e1]
      exact h1
    · rcases List.mem_cons.mp he with rfl | he
      · exact h.1
      · exact h2 e' he
theorem run_f : ∀ (l : List Ed) (X : Lb), (∀ e, e ∈ l → cnd X e = false) → gRun l X = (false, X) := by
  intro l
  induction l with
  | nil => intro X _; rfl
  | cons e l ih =>
    intro X h
    have h1 := h e (by simp)
    show (cnd X e || (gRun l (rlx X e)).1, (gRun l (rlx X e)).2) = _
    rw [rlx_f h1, h1, ih X (fun e' he => h e' (by simp [he]))]
    rfl
theorem run_app : ∀ (l k : List Ed) (X : Lb), gRun (l ++ k) X = ((gRun l X).1 || (gRun k (gRun l X).2).1, (gRun k (gRun l X).2).2) := by
  intro l
  induction l with
  | nil => intro k X; show gRun k X = _; exact Prod.ext (by show _ = (false || (gRun k X).1); rw [Bool.false_or]) rfl
  | cons e l ih =>
    intro k X
    show (cnd X e || (gRun (l ++ k) (rlx X e)).1, (gRun (l ++ k) (rlx X e)).2) = _
    rw [ih k (rlx X e)]
    refine Prod.ext ?_ rfl
    show (cnd X e || ((gRun l (rlx X e)).1 || _)) = ((cnd X e || (gRun l (rlx X e)).1) || _)
    rw [Bool.or_assoc]
    rfl
theorem run_prog : ∀ (l : List Ed) (X : Lb) (e : Ed), e ∈ l → X.1 e.1 < 1000000 → (gRun l X).2.1 e.2.1 ≤ X.1 e.1 + e.2.2 := by
  intro l
  induction l with
  | nil => intro X e h; exact absurd h (by simp)
  | cons g l ih =>
    intro X e h hx
    show (gRun l (rlx X g)).2.1 e.2.1 ≤ _
    rcases List.mem_cons.mp h with rfl | h
    · refine Int.le_trans (run_le l _ _) ?_
      unfold rlx
      by_cases c : cnd X e = true
      · rw [if_pos c]
        show gUp _ _ _ _ ≤ _
        rw [gUp_s]
        exact Int.le_refl _
      · rw [if_neg c]
        have : ¬ (X.1 e.1 < 1000000 ∧ X.1 e.1 + e.2.2 < X.1 e.2.1) := fun z => c (decide_eq_true z)
        omega
    · have h1 := rlx_le X g e.1
      have h2 := ih (rlx X g) e h (by omega)
      omega
def JJ (L : List Ed) (x0 pi : Nat → Int) (X : Lb) (tau : Nat → Nat) : Prop := (∃ t, ∀ v, tau v ≤ t) ∧ (∀ v, pi v ≤ X.1 v ∧ X.1 v ≤ x0 v) ∧ ∀ v : Nat, (X.2 v = -1 ∧ X.1 v = x0 v) ∨ ∃ (u : Nat) (c : Int), (u, v, c) ∈ L ∧ X.2 v = (u : Int) ∧ X.1 u < 1000000 ∧ X.1 u + c ≤ X.1 v ∧ (X.1 v = X.1 u + c → tau u < tau v)
theorem JJ_rlx {L : List Ed} {x0 pi : Nat → Int} (hL : ∀ e, e ∈ L → e.1 ≠ e.2.1) (hp : ∀ e, e ∈ L → pi e.2.1 ≤ pi e.1 + e.2.2) {X : Lb} {tau : Nat → Nat} {e : Ed} (he : e ∈ L) (h : JJ L x0 pi X tau) : ∃ tau', JJ L x0 pi (rlx X e) tau' := by
  obtain ⟨⟨t, h1⟩, h2, h3⟩ := id h
  by_cases c : cnd X e = true
  rotate_left
  · rw [show rlx X e = X from if_neg c]
    exact ⟨tau, h⟩
  have c2 := of_decide_eq_true c
  rw [show rlx X e = (gUp X.1 e.2.1 (X.1 e.1 + e.2.2), gUp X.2 e.2.1 (e.1 : Int)) from if_pos c]
  obtain ⟨u, v, w⟩ := e
  have ne : u ≠ v := hL _ he
  have hp := hp _ he
  dsimp only at c2 hp ⊢
  refine ⟨fun i => if i = v then t + 1 else tau i, ⟨t + 1, fun i => ?_⟩, fun i => ?_, fun i => ?_⟩
  · show (if i = v then t + 1 else tau i) ≤ _
    have := h1 i
    split <;> omega
  · have h2i := h2 i
    have h2u := h2 u
    by_cases k : i = v
    · subst k
      show pi i ≤ gUp _ _ _ _ ∧ gUp _ _ _ _ ≤ _
      rw [gUp_s]
      omega
    · show pi i ≤ gUp _ _ _ _ ∧ gUp _ _ _ _ ≤ _
      rw [gUp_o _ _ k]
      exact h2i
  · by_cases k : i = v
    · subst k
      right
      refine ⟨u, w, he, gUp_s _ _ _, ?_, ?_, fun _ => ?_⟩
      · show gUp _ _ _ _ < _
        rw [gUp_o _ _ ne]
        exact c2.1
      · show gUp _ _ _ _ + w ≤ gUp _ _ _ _
        rw [gUp_o _ _ ne, gUp_s]
        exact Int.le_refl _
      · show (if u = i then t + 1 else tau u) < (if i = i then t + 1 else tau i)
        rw [if_neg ne, if_pos rfl]
        have := h1 u
        omega
    · rcases h3 i with ⟨a1, a2⟩ | ⟨u', c', a1, a2, a3, a4, a5⟩
      · left
        exact ⟨(gUp_o _ _ k).trans a1, (gUp_o _ _ k).trans a2⟩
      · right
        refine ⟨u', c', a1, (gUp_o _ _ k).trans a2, ?_, ?_, ?_⟩
        · by_cases q : u' = v
          · subst q
            show gUp _ _ _ _ < _
            rw [gUp_s]
            omega
          · show gUp _ _ _ _ < _
            rw [gUp_o _ _ q]
            exact a3
        · show gUp _ _ _ u' + c' ≤ gUp _ _ _ i
          rw [gUp_o _ _ k]
          by_cases q : u' = v
          · subst q
            rw [gUp_s]
            omega
          · rw [gUp_o _ _ q]
            exact a4
        · show gUp _ _ _ i = gUp _ _ _ u' + c' → (if u' = v then t + 1 else tau u') < (if i = v then t + 1 else tau i)
          rw [gUp_o _ _ k, if_neg k]
          by_cases q : u' = v
          · subst q
            rw [gUp_s]
            intro z
            omega
          · rw [gUp_o _ _ q, if_neg q]
            exact a5
theorem JJ_run {L : List Ed} {x0 pi : Nat → Int} (hL : ∀ e, e ∈ L → e.1 ≠ e.2.1) (hp : ∀ e, e ∈ L → pi e.2.1 ≤ pi e.1 + e.2.2) : ∀ (l : List Ed) (X : Lb) (tau : Nat → Nat), (∀ e, e ∈ l → e ∈ L) → JJ L x0 pi X tau → ∃ tau', JJ L x0 pi (gRun l X).2 tau' := by
  intro l
  induction l with
  | nil => intro X tau _ h; exact ⟨tau, h⟩
  | cons e l ih =>
    intro X tau hl h
    obtain ⟨tau1, h1⟩ := JJ_rlx hL hp (hl e (by simp)) h
    exact ih _ tau1 (fun e' he => hl e' (by simp [he])) h1
def itr (L : List Ed) : Nat → Lb → Lb
  | 0, X => X
  | k + 1, X => (gRun L (itr L k X)).2
theorem itr_le (L : List Ed) (X : Lb) {i j : Nat} (h : i ≤ j) (v : Nat) : (itr L j X).1 v ≤ (itr L i X).1 v := by
  induction j with
  | zero => rw [show i = 0 by omega]; exact Int.le_refl _
  | succ j ih =>
    by_cases c : i = j + 1
    · rw [c]; exact Int.le_refl _
    · exact Int.le_trans (run_le L _ v) (ih (by omega))
theorem itr_J {L : List Ed} {x0 pi : Nat → Int} (hL : ∀ e, e ∈ L → e.1 ≠ e.2.1) (hp : ∀ e, e ∈ L → pi e.2.1 ≤ pi e.1 + e.2.2) {X : Lb} {tau : Nat → Nat} (h : JJ L x0 pi X tau) (k : Nat) : ∃ tau', JJ L x0 pi (itr L k X) tau' := by
  induction k with
  | zero => exact ⟨tau, h⟩
  | succ k ih =>
    obtain ⟨t1, h1⟩ := ih
    exact JJ_run hL hp L _ t1 (fun e he => he) h1
theorem itr_fix {L : List Ed} {X : Lb} {K : Nat} (h : (gRun L (itr L K X)).1 = false) (j : Nat) : itr L (K + j) X = itr L K X ∧ (gRun L (itr L (K + j) X)).1 = false := by
  induction j with
  | zero => exact ⟨rfl, h⟩
  | succ j ih =>
    have e : itr L (K + (j + 1)) X = itr L K X := by
      show (gRun L (itr L (K + j) X)).2 = _
      rw [(run_id L _ ih.2).1]
      exact ih.1
    exact ⟨e, by rw [e]; exact h⟩
def mus (pi : Nat → Int) (X : Lb) : Int := sumTo (fun v => X.1 v - pi v) 17
theorem sumTo_le {f g : Nat → Int} : ∀ {k : Nat}, (∀ i, i < k → f i ≤ g i) → sumTo f k ≤ sumTo g k := by
  intro k
  induction k with
  | zero => intro _; exact Int.le_refl _
  | succ k ih =>
    intro h
    have h1 := ih (fun i hi => h i (by omega))
    have h2 := h k (by omega)
    show sumTo f k + f k ≤ sumTo g k + g k
    omega
theorem sumTo_lt {f g : Nat → Int} : ∀ {k : Nat}, (∀ i, i < k → f i ≤ g i) → (∃ i, i < k ∧ f i < g i) → sumTo f k < sumTo g k := by
  intro k
  induction k with
  | zero => rintro _ ⟨i, hi, _⟩; omega
  | succ k ih =>
    rintro h ⟨i, hi, hl⟩
    have h2 := h k (by omega)
    show sumTo f k + f k < sumTo g k + g k
    by_cases c : i = k
    · subst c
      have h1 := sumTo_le (f := f) (g := g) (k := i) (fun j hj => h j (by omega))
      omega
    · have h1 := ih (fun j hj => h j (by omega)) ⟨i, by omega, hl⟩
      omega
theorem run_lt {L : List Ed} (hb : ∀ e, e ∈ L → e.2.1 < 17) : ∀ (l : List Ed) (X : Lb), (∀ e, e ∈ l → e ∈ L) → (gRun l X).1 = true → ∃ v, v < 17 ∧ (gRun l X).2.1 v < X.1 v := by
  intro l
  induction l with
  | nil => intro X _ h; cases h
  | cons e l ih =>
    intro X hl h
    have h : (cnd X e || (gRun l (rlx X e)).1) = true := h
    by_cases c : cnd X e = true
    · refine ⟨e.2.1, hb e (hl e (by simp)), ?_⟩
      have c2 := of_decide_eq_true c
      refine Int.lt_of_le_of_lt (run_le l (rlx X e) e.2.1) ?_
      rw [show rlx X e = (gUp X.1 e.2.1 (X.1 e.1 + e.2.2), gUp X.2 e.2.1 (e.1 : Int)) from if_pos c]
      show gUp _ _ _ _ < _
      rw [gUp_s]
      exact c2.2
    · have c := ne_b c
      rw [c, Bool.false_or] at h
      obtain ⟨v, h1, h2⟩ := ih _ (fun e' he => hl e' (by simp [he])) h
      exact ⟨v, h1, Int.lt_of_lt_of_le h2 (rlx_le X e v)⟩
theorem itr_ends {L : List Ed} {x0 pi : Nat → Int} (hL : ∀ e, e ∈ L → e.1 ≠ e.2.1) (hb : ∀ e, e ∈ L → e.2.1 < 17) (hp : ∀ e, e ∈ L → pi e.2.1 ≤ pi e.1 + e.2.2) : ∀ (M : Nat) (X : Lb) (tau : Nat → Nat), JJ L x0 pi X tau → mus pi X ≤ (M : Int) → ∃ K, K ≤ M ∧ (gRun L (itr L K X)).1 = false := by
  intro M
  induction M with
  | zero =>
    intro X tau h hm
    refine ⟨0, by omega, ?_⟩
    cases c : (gRun L (itr L 0 X)).1 with
    | false => rfl
    | true =>
      have c : (gRun L X).1 = true := c
      obtain ⟨v, h1, h2⟩ := run_lt hb L X (fun e he => he) c
      obtain ⟨t1, h3⟩ := JJ_run hL hp L X tau (fun e he => he) h
      have a := sumTo_lt (f := fun _ => 0) (g := fun v => X.1 v - pi v) (k := 17) (fun i _ => by have := (h.2.1 i).1; show (0 : Int) ≤ X.1 i - pi i; omega) ⟨v, h1, by have := (h3.2.1 v).1; show (0 : Int) < X.1 v - pi v; omega⟩
      have a0 : sumTo (fun _ => (0 : Int)) 17 = 0 := by decide
      unfold mus at hm
      omega
  | succ M ih =>
    intro X tau h hm
    cases c : (gRun L X).1 with
    | false => exact ⟨0, by omega, c⟩
    | true =>
      obtain ⟨v, h1, h2⟩ := run_lt hb L X (fun e he => he) c
      obtain ⟨t1, h3⟩ := JJ_run hL hp L X tau (fun e he => he) h
      have a := sumTo_lt (f := fun v => (gRun L X).2.1 v - pi v) (g := fun v => X.1 v - pi v) (k := 17) (fun i _ => by have := run_le L X i; show (gRun L X).2.1 i - pi i ≤ X.1 i - pi i; omega) ⟨v, h1, by show (gRun L X).2.1 v - pi v < X.1 v - pi v; omega⟩
      obtain ⟨K, k1, k2⟩ := ih (gRun L X).2 t1 h3 (by unfold mus at hm ⊢; omega)
      have e : ∀ j, itr L j (gRun L X).2 = itr L (j + 1) X := by
        intro j
        induction j with
        | zero => rfl
        | succ j ih => show (gRun L (itr L j (gRun L X).2)).2 = (gRun L (itr L (j + 1) X)).2; rw [ih]
      refine ⟨K + 1, by omega, ?_⟩
      rw [← e K]
      exact k2
