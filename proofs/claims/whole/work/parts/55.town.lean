/-! ===== loops ===== -/
theorem loop_for {α σ : Type} {F : Nat → σ → Int → Option α} (inv : Nat → σ) (K N : Nat) {res : Option α} (hs : ∀ n p : Nat, p < K → N ≤ n → F (n + 1) (inv p) (p : Int) = F n (inv (p + 1)) ((p : Int) + 1)) (he : ∀ n : Nat, N ≤ n → F (n + 1) (inv K) (K : Int) = res) : ∀ n : Nat, K + N < n → F n (inv 0) 0 = res := by
  have key : ∀ (j p n : Nat), p + j = K → j + N < n → F n (inv p) (p : Int) = res := by
    intro j
    induction j with
    | zero =>
      intro p n hp hn
      obtain ⟨m, rfl⟩ : ∃ m, n = m + 1 := ⟨n - 1, by omega⟩
      have : p = K := by omega
      subst this
      exact he m (by omega)
    | succ j ih =>
      intro p n hp hn
      obtain ⟨m, rfl⟩ : ∃ m, n = m + 1 := ⟨n - 1, by omega⟩
      rw [hs m p (by omega) (by omega)]
      exact ih (p + 1) m (by omega) (by omega)
  intro n hn
  exact key K 0 n (by omega) (by omega)
/-- the first place from p on, of j, where c holds -/
def findFrom (c : Nat → Bool) : Nat → Nat → Option Nat
  | 0, _ => none
  | j + 1, p => if c p = true then some p else findFrom c j (p + 1)
abbrev firstTo (c : Nat → Bool) (K : Nat) : Option Nat := findFrom c K 0
theorem findFrom_none {c : Nat → Bool} : ∀ {j p : Nat}, findFrom c j p = none → ∀ i, p ≤ i → i < p + j → c i = false := by
  intro j
  induction j with
  | zero => intro p h i h1 h2; omega
  | succ j ih =>
    intro p h i h1 h2
    unfold findFrom at h
    split at h
    · cases h
    · next hc =>
      by_cases e : i = p
      · subst e; simpa using hc
      · exact ih h i (by omega) (by omega)
theorem findFrom_some {c : Nat → Bool} : ∀ {j p k : Nat}, findFrom c j p = some k → p ≤ k ∧ k < p + j ∧ c k = true ∧ ∀ i, p ≤ i → i < k → c i = false := by
  intro j
  induction j with
  | zero => intro p k h; cases h
  | succ j ih =>
    intro p k h
    unfold findFrom at h
    split at h
    · next hc =>
      cases h
      exact ⟨Nat.le_refl _, by omega, hc, fun i h1 h2 => absurd h1 (by omega)⟩
    · next hc =>
      obtain ⟨h1, h2, h3, h4⟩ := ih h
      refine ⟨by omega, by omega, h3, fun i h5 h6 => ?_⟩
      by_cases e : i = p
      · subst e; simpa using hc
      · exact h4 i (by omega) h6
theorem firstTo_all {c : Nat → Bool} {K : Nat} : (firstTo c K = none) ↔ allTo (fun i => !c i) K = true := by
  rw [allTo_iff]
  constructor
  · intro h i hi
    rw [findFrom_none h i (by omega) (by omega)]
    rfl
  · intro h
    cases hc : firstTo c K with
    | none => rfl
    | some k =>
      obtain ⟨-, h2, h3, -⟩ := findFrom_some hc
      have := h k (by omega)
      rw [h3] at this
      cases this
theorem loop_ex {α σ : Type} {F : Nat → σ → Int → Option α} (inv : Nat → σ) (K N : Nat) (c : Nat → Bool) (ret : Nat → Option α) {res : Option α} (hs : ∀ n p : Nat, p < K → N ≤ n → c p = false → F (n + 1) (inv p) (p : Int) = F n (inv (p + 1)) ((p : Int) + 1)) (hr : ∀ n p : Nat, p < K → N ≤ n → c p = true → (∀ i, i < p → c i = false) → F (n + 1) (inv p) (p : Int) = ret p) (he : ∀ n : Nat, N ≤ n → (∀ i, i < K → c i = false) → F (n + 1) (inv K) (K : Int) = res) : ∀ n : Nat, K + N < n → F n (inv 0) 0 = match firstTo c K with | some p => ret p | none => res := by
  have key : ∀ (j p n : Nat), p + j = K → j + N < n → (∀ i, i < p → c i = false) → F n (inv p) (p : Int) = match findFrom c j p with | some p => ret p | none => res := by
    intro j
    induction j with
    | zero =>
      intro p n hp hn hc
      obtain ⟨m, rfl⟩ : ∃ m, n = m + 1 := ⟨n - 1, by omega⟩
      have : p = K := by omega
      subst this
      exact he m (by omega) hc
    | succ j ih =>
      intro p n hp hn hc
      obtain ⟨m, rfl⟩ : ∃ m, n = m + 1 := ⟨n - 1, by omega⟩
      unfold findFrom
      cases hb : c p with
      | true =>
        rw [hr m p (by omega) (by omega) hb hc]
        rfl
      | false =>
        rw [hs m p (by omega) (by omega) hb]
        have := ih (p + 1) m (by omega) (by omega) (fun i hi => by
          by_cases e : i = p
          · subst e; exact hb
          · exact hc i (by omega))
        exact this
  intro n hn
  exact key K 0 n (by omega) (by omega) (fun i hi => absurd hi (by omega))
/-! ===== a town as numbers: rows 1 kind 2 yards 3 place 4 owner 5 rests 6 shelters; numbers 6 parts 7 persons 8 standing 9 wanted 10 free 11 work ===== -/
abbrev TW : Type := (Nat → Nat → Nat) × (Nat → Nat)
def tAt (S : ZS) (t : Nat) (T : TW) : Prop := (∀ j, 6 ≤ j → j ≤ 11 → zF S t j = (T.2 j : Int)) ∧ (∀ i p : Nat, 1 ≤ i → i ≤ 5 → p < T.2 6 → zA S (t + i) (p : Int) = (T.1 i p : Int)) ∧ ∀ p : Nat, p < T.2 7 → zA S (t + 6) (p : Int) = (T.1 6 p : Int)
def mAt (S : ZS) (T : TW) : Prop := (zF S 49 1 = (T.2 6 : Int) ∧ zF S 49 7 = (T.2 7 : Int) ∧ zF S 49 2 = (T.2 8 : Int) ∧ zF S 49 3 = (T.2 9 : Int) ∧ zF S 49 4 = (T.2 10 : Int) ∧ zF S 49 5 = (T.2 11 : Int)) ∧ (∀ i p : Nat, i < 5 → p < T.2 6 → zA S 50 (5 * (p : Int) + (i : Int)) = (T.1 (i + 1) p : Int)) ∧ ∀ p : Nat, p < T.2 7 → zA S 51 (p : Int) = (T.1 6 p : Int)
def yF (T : TW) (s : Nat) : Nat → Int := fun p => if s.testBit p = true then (T.1 2 p : Int) else 0
def Yd (T : TW) (s : Nat) : Int := sumTo (yF T s) (T.2 6)
def gg (T : TW) (p : Nat) : Int := if T.1 1 p = 1 then (T.1 2 p : Int) - 1 else if T.1 1 p = 2 then -(T.1 2 p : Int) else if T.1 1 p = 3 then ((T.1 2 p / 2 : Nat) : Int) else (T.1 2 p : Int)
def gc (T : TW) (p : Nat) : Int := if T.1 1 p = 2 then (T.1 2 p : Int) else -(T.1 2 p : Int)
def oF (T : TW) (go come : Nat) : Nat → Int := fun p => if go.testBit p = true then gg T p else if come.testBit p = true then gc T p else 0
def Ov (T : TW) (go come : Nat) : Int := sumTo (oF T go come) (T.2 6)
def fF (T : TW) (s : Nat) : Nat → Bool := fun p => s.testBit p && !(nDf (T.1 5 p) s == 0)
def firmB (T : TW) (s : Nat) : Bool := allTo (fun p => !fF T s p) (T.2 6)
def sF (T : TW) (s : Nat) : Nat → Bool := fun p => !((T.1 6 p &&& s) == 0)
def shM (T : TW) (s : Nat) : Nat := maskTo (sF T s) (T.2 7)
def dryB (T : TW) (s : Nat) : Bool := allTo (sF T s) (T.2 7)
/-- what holds of a town's rows -/
def wfR (T : TW) : Prop := T.2 6 ≤ 8 ∧ T.2 7 ≤ 4 ∧ (∀ p, p < T.2 6 → T.1 1 p ≤ 3 ∧ 1 ≤ T.1 2 p ∧ T.1 2 p ≤ 99 ∧ T.1 3 p ≤ 99 ∧ T.1 4 p ≤ 3 ∧ T.1 5 p < 2 ^ T.2 6) ∧ ∀ p, p < T.2 7 → T.1 6 p < 2 ^ T.2 6
def wfN (T : TW) : Prop := T.2 8 < 2 ^ T.2 6 ∧ T.2 9 < 2 ^ T.2 6 ∧ T.2 10 ≤ 999 ∧ 1 ≤ T.2 11 ∧ T.2 11 ≤ 999
theorem pw_le {k : Nat} (h : k ≤ 8) : 2 ^ k ≤ 256 := Nat.pow_le_pow_right (n := 2) (by omega) (show k ≤ 8 from h)
theorem pw_pos (k : Nat) : 1 ≤ 2 ^ k := Nat.one_le_two_pow
section TS
variable {S : ZS} {t : Nat} {T : TW}
theorem sp_all (h : tAt S t T) (w : wfR T) (n : Nat) : fT_all n S t = some (((2 ^ T.2 6 - 1 : Nat) : Int)) := by
  have h1 := w.1
  have h2 := pw_pos (T.2 6)
  unfold fT_all
  rw [h.1 6 (by omega) (by omega), zshl_1 (by omega)]
  congr 1
  omega
theorem zcmp_lt {x y : Int} : zcmp x y < 0 ↔ x < y := by
  unfold zcmp
  split
  · omega
  · split <;> omega
theorem zcmp_gt {x y : Int} : 0 < zcmp x y ↔ y < x := by
  unfold zcmp
  split
  · omega
  · split <;> omega
theorem zcmp_eq {x y : Int} : zcmp x y = 0 ↔ x = y := by
  unfold zcmp
  split
  · omega
  · split <;> omega
theorem gC_cmp {α : Type} (x y : Int) (A : Option α) : gC (zcmp x y) 0 A = A := by
  unfold zcmp
  split
  · exact gC_pos (by omega) (by omega) (by omega) (by omega)
  · split <;> exact gC_pos (by omega) (by omega) (by omega) (by omega)
def inSet (T : TW) (x : Int) : Bool := decide (0 ≤ x ∧ x < ((2 ^ T.2 6 : Nat) : Int))
theorem sp_isSet (h : tAt S t T) (w : wfR T) (n : Nat) {x : Int} (h1 : -9223372036854775808 ≤ x) (h2 : x < 9223372036854775808) : fT_isSet n S t x = some (bZ (inSet T x)) := by
  have h3 := pw_le w.1
  have h4 := pw_pos (T.2 6)
  unfold fT_isSet inSet
  rw [gL_pos h1 h2 (by omega) (by omega), gC_cmp]
  by_cases c : x < 0
  · rw [if_pos (zcmp_lt.mpr c), gB_0, decide_eq_false (by omega)]
    rfl
  · rw [if_neg (fun q => c (zcmp_lt.mp q)), sp_all h w, Option.bind_some, gC_pos (by omega) (by omega) (by omega) (by omega), gL_pos h1 h2 (by omega) (by omega), gC_cmp]
    by_cases d : ((2 ^ T.2 6 - 1 : Nat) : Int) < x
    · rw [if_pos (zcmp_gt.mpr d), gB_0, decide_eq_false (by omega)]
      rfl
    · rw [if_neg (fun q => d (zcmp_gt.mp q)), gB_1, decide_eq_true (by omega)]
      rfl
theorem sp_yardsOf (h : tAt S t T) (w : wfR T) {s : Nat} (hs : s < 256) {n : Nat} (hn : 20 ≤ n) : fT_yardsOf n S t (s : Int) = some (Yd T s) := by
  have h1 := w.1
  have e := loop_for (F := fun n a p => fT_yardsOf_1 n S t (s : Int) a p) (sumTo (yF T s)) (T.2 6) 0 (res := some (Yd T s)) ?_ ?_ n (by omega)
  · unfold fT_yardsOf
    rw [show fT_yardsOf_1 n S t (s : Int) 0 0 = some (Yd T s) from e]
    rfl
  · intro n p hp _
    show fT_yardsOf_1 (n + 1) S t (s : Int) (sumTo (yF T s) p) (p : Int) = fT_yardsOf_1 n S t (s : Int) (sumTo (yF T s) (p + 1)) ((p : Int) + 1)
    rw [fT_yardsOf_1]
    rw [h.1 6 (by omega) (by omega), gC_pos (by omega) (by omega) (by omega) (by omega), if_pos (by omega), zbit_n (by omega) (by omega)]
    by_cases b : s.testBit p = true
    · rw [if_pos b, gC_pos (by omega) (by omega) (by omega) (by omega), if_pos rfl, gX_pos (by omega) (by omega) (by omega), h.2.1 2 p (by omega) (by omega) hp]
      simp only [sumTo, yF, if_pos b]
    · rw [if_neg b, gC_pos (by omega) (by omega) (by omega) (by omega), if_neg (by omega)]
      simp only [sumTo, yF, if_neg b, Int.add_zero]
  · intro n _
    show fT_yardsOf_1 (n + 1) S t (s : Int) (sumTo (yF T s) (T.2 6)) (T.2 6 : Int) = _
    rw [fT_yardsOf_1, h.1 6 (by omega) (by omega), gC_pos (by omega) (by omega) (by omega) (by omega), if_neg (by omega)]
    rfl
end TS
