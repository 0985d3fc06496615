/-! ===== reading: a set of parts ===== -/
section RDc
variable {b : Int → Int} {N : Nat}
def rSl (b : Int → Int) (N m : Nat) : Nat → Nat → Nat → Int × Nat
  | 0, p, _ => (-1, p)
  | d + 1, p, s => if skp b N p < N ∧ (48 ≤ b ((skp b N p : Nat) : Int) ∧ b ((skp b N p : Nat) : Int) ≤ 57) then (if b ((skp b N p : Nat) : Int) - 48 < (m : Int) ∧ s.testBit (b ((skp b N p : Nat) : Int) - 48).toNat = false then rSl b N m d (skp b N p + 1) (s ||| 2 ^ (b ((skp b N p : Nat) : Int) - 48).toNat) else (-1, skp b N p)) else if s = 0 then (-1, skp b N p) else ((s : Int), skp b N p)
def rOut (q : Option ((Int × ZS) ⊕ (Int × ZS))) (v : Int) (S' : ZS) : Prop := q = some (.inl (v, S')) ∨ q = some (.inr (v, S'))
theorem bit_lt {m s x : Nat} (h : s < 2 ^ m) (hx : x < m) : s ||| 2 ^ x < 2 ^ m := Nat.or_lt_two_pow h (Nat.pow_lt_pow_right (by omega) hx)
theorem bit_ne {s x : Nat} : s ||| 2 ^ x ≠ 0 := by
  intro h
  have : (s ||| 2 ^ x).testBit x = true := by
    rw [Nat.testBit_or, Nat.testBit_two_pow_self, Bool.or_true]
  rw [h, Nat.zero_testBit] at this
  cases this
theorem tC_parts1 (o : okb b N) {m : Nat} (hm : m ≤ 8) : ∀ (d p s l n : Nat) (S : ZS), N < p + d → d + 400 ≤ n → tC S b N p → s < 2 ^ m → l ≤ p → (l = 0 ∨ s ≠ 0) → ∃ S', rOut (fP_readParts_1 n S (m : Int) (s : Int) (l : Int)) (rSl b N m d p s).1 S' ∧ fr1 22 2 S S' ∧ tC S' b N (rSl b N m d p s).2 := by
  have o1 := o.1
  intro d
  induction d with
  | zero => intro p s l n S h1 h2 h3; exact absurd h3.2.2.1 (by omega)
  | succ d ih =>
    intro p s l n S h1 h2 h3 h4 h5 h6
    obtain ⟨k, rfl⟩ : ∃ k, n = k + 1 := ⟨n - 1, by omega⟩
    have p3 := h3.2.2.1
    have s8 := pw_le hm
    have bd := skp_bd (b := b) p3
    rw [fP_readParts_1, gC_pos (x := (l : Int)) (y := 160) (by omega) (by omega) (by omega) (by omega)]
    by_cases c1 : l < 160
    rotate_left
    · rw [if_neg (by omega)]
      have e : rSl b N m (d + 1) p s = ((s : Int), p) := by
        have en : skp b N p = N := skp_end (by omega)
        rw [rSl, if_neg (fun z => absurd z.1 (by omega)), if_neg (by omega), en, show p = N by omega]
      rw [e]
      exact ⟨S, Or.inr rfl, fr1_rfl, h3⟩
    rw [if_pos (by omega), gC_pos (x := (s : Int)) (y := 0) (by omega) (by omega) (by omega) (by omega)]
    have cont : ∀ S1, fr1 22 2 S S1 → tC S1 b N (rD b N (m : Int) p).2 → ((skp b N p < N ∧ (48 ≤ b ((skp b N p : Nat) : Int) ∧ b ((skp b N p : Nat) : Int) ≤ 57)) ∨ s = 0) → ∃ S', rOut (gC (rD b N (m : Int) p).1 0 (if (rD b N (m : Int) p).1 < 0 then some (.inl (-1, S1)) else gC (zand (zshr (s : Int) (rD b N (m : Int) p).1) 1) 1 (if (zand (zshr (s : Int) (rD b N (m : Int) p).1) 1) = 1 then some (.inl (-1, wF S1 22 2 ((zF S1 22 2) - 1))) else fP_readParts_1 k S1 (m : Int) (zor (s : Int) (zshl 1 (rD b N (m : Int) p).1)) ((l : Int) + 1)))) (rSl b N m (d + 1) p s).1 S' ∧ fr1 22 2 S S' ∧ tC S' b N (rSl b N m (d + 1) p s).2 := by
      intro S1 a1 a2 a3
      rw [rSl]
      unfold rD at a2 ⊢
      by_cases k1 : skp b N p < N ∧ (48 ≤ b ((skp b N p : Nat) : Int) ∧ b ((skp b N p : Nat) : Int) ≤ 57)
      · rw [if_pos k1]
        by_cases k2 : b ((skp b N p : Nat) : Int) - 48 < (m : Int)
        · rw [if_pos ⟨k1.1, k1.2, k2⟩] at a2 ⊢
          obtain ⟨x, hx⟩ : ∃ x : Nat, b ((skp b N p : Nat) : Int) - 48 = (x : Int) := ⟨(b ((skp b N p : Nat) : Int) - 48).toNat, by omega⟩
          dsimp only at a2 ⊢
          rw [hx, Int.toNat_natCast, gC_pos (x := (x : Int)) (y := 0) (by omega) (by omega) (by omega) (by omega), if_neg (show ¬ (x : Int) < 0 by omega), zbit_n (by omega) (by omega)]
          rw [hx] at k2
          cases ht : s.testBit x with
          | true =>
            rw [if_neg (show ¬ ((x : Int) < (m : Int) ∧ true = false) from fun z => Bool.noConfusion z.2), if_pos (show true = true from rfl), gC_pos (x := 1) (y := 1) (by omega) (by omega) (by omega) (by omega), if_pos (show (1 : Int) = 1 from rfl)]
            refine ⟨_, Or.inl rfl, fr1_trans a1 (fr1_wF _ _ _ _), tC_to a2 (by omega) ?_⟩
            rw [a2.2.1]
            omega
          | false =>
            rw [if_pos (show (x : Int) < (m : Int) ∧ false = false from ⟨k2, rfl⟩), if_neg Bool.false_ne_true, gC_pos (x := 0) (y := 1) (by omega) (by omega) (by omega) (by omega), if_neg (show ¬ (0 : Int) = 1 by decide), zshl_1 (by omega), zor_n (by omega) (Nat.lt_of_le_of_lt (Nat.pow_le_pow_right (n := 2) (by omega) (show x ≤ 8 by omega)) (by decide))]
            obtain ⟨S', e1, e2, e3⟩ := ih (skp b N p + 1) (s ||| 2 ^ x) (l + 1) k S1 (by omega) (by omega) a2 (bit_lt h4 (by omega)) (by omega) (Or.inr bit_ne)
            exact ⟨S', e1, fr1_trans a1 e2, e3⟩
        · rw [if_neg (fun z => k2 z.2.2)] at a2 ⊢
          dsimp only at a2 ⊢
          rw [if_neg (show ¬ (b ((skp b N p : Nat) : Int) - 48 < (m : Int) ∧ s.testBit (b ((skp b N p : Nat) : Int) - 48).toNat = false) from fun z => k2 z.1), gC_pos (x := -1) (y := 0) (by omega) (by omega) (by omega) (by omega), if_pos (show (-1 : Int) < 0 by decide)]
          exact ⟨S1, Or.inl rfl, a1, a2⟩
      · have s0 : s = 0 := a3.resolve_left k1
        rw [if_neg (fun z => k1 ⟨z.1, z.2.1⟩)] at a2 ⊢
        dsimp only at a2 ⊢
        rw [if_neg k1, if_pos s0, gC_pos (x := -1) (y := 0) (by omega) (by omega) (by omega) (by omega), if_pos (show (-1 : Int) < 0 by decide)]
        exact ⟨S1, Or.inl rfl, a1, a2⟩
    by_cases c2 : s = 0
    · obtain ⟨S1, a1, a2, a3⟩ := tC_digit o h3 (n := k) (by omega) (m := (m : Int)) (by omega) (by omega)
      rw [if_pos (by omega), a1, Option.bind_some]
      exact cont S1 a2 a3 (Or.inr c2)
    · obtain ⟨S1, a1, a2, a3⟩ := tC_next o h3 (n := k) (by omega)
      rw [if_neg (by omega), a1, Option.bind_some]
      dsimp only
      by_cases k1 : skp b N p < N ∧ (48 ≤ b ((skp b N p : Nat) : Int) ∧ b ((skp b N p : Nat) : Int) ≤ 57)
      · obtain ⟨S2, d1, d2, d3⟩ := tC_digit o a3 (n := k) (by omega) (m := (m : Int)) (by omega) (by omega)
        have er : rD b N (m : Int) (skp b N p) = rD b N (m : Int) p := by unfold rD; rw [skp_skp p3]
        rw [er] at d1 d3
        rw [if_pos k1.1, sp_isDigit k S1 (by omega) (by omega), Option.bind_some, gC_b, decide_eq_true k1.2, if_neg (show ¬ bZ true = 0 by decide), d1, Option.bind_some]
        exact cont S2 (fr1_trans a2 d2) d3 (Or.inl k1)
      · have e : rSl b N m (d + 1) p s = ((s : Int), skp b N p) := by rw [rSl, if_neg k1, if_neg c2]
        rw [e]
        refine ⟨S1, Or.inr ?_, a2, a3⟩
        by_cases k2 : skp b N p < N
        · have := o.2 _ k2
          rw [if_pos k2, sp_isDigit k S1 (by omega) (by omega), Option.bind_some, gC_b, decide_eq_false (fun z => k1 ⟨k2, z⟩), if_pos (show bZ false = 0 from rfl)]
        · rw [if_neg k2, sp_isDigit k S1 (by omega) (by omega), Option.bind_some, gC_b, decide_eq_false (by omega), if_pos (show bZ false = 0 from rfl)]
theorem tM_set1 (o : okb b N) {m : Nat} (hm : m ≤ 8) : ∀ (d p s n : Nat) (S : ZS), N < p + d → d + 400 ≤ n → tM S b N p → s < 2 ^ m → ∃ S', rOut (fM_readSet_1 n S (m : Int) (s : Int)) (rSl b N m d p s).1 S' ∧ fr1 49 10 S S' ∧ tM S' b N (rSl b N m d p s).2 := by
  have o1 := o.1
  intro d
  induction d with
  | zero => intro p s n S h1 h2 h3; exact absurd h3.2.2.1 (by omega)
  | succ d ih =>
    intro p s n S h1 h2 h3 h4
    obtain ⟨k, rfl⟩ : ∃ k, n = k + 1 := ⟨n - 1, by omega⟩
    have p3 := h3.2.2.1
    have s8 := pw_le hm
    have bd := skp_bd (b := b) p3
    obtain ⟨S1, a1, a2, a3⟩ := tM_next o h3 (n := k) (by omega)
    obtain ⟨S2, d1, d2, d3⟩ := tM_next o a3 (n := k) (by omega)
    rw [skp_skp p3] at d1 d3
    rw [fM_readSet_1, a1, Option.bind_some, rSl]
    dsimp only
    by_cases k1 : skp b N p < N ∧ (48 ≤ b ((skp b N p : Nat) : Int) ∧ b ((skp b N p : Nat) : Int) ≤ 57)
    · rw [if_pos k1.1] at d1
      rw [if_pos k1.1, gC_pos (x := b ((skp b N p : Nat) : Int)) (y := 0) (by omega) (by omega) (by omega) (by omega), sp_in S1 k (by omega) (by omega) (by omega) (by omega) (by omega) (by omega), Option.bind_some, gC_b, decide_eq_true k1.2, if_neg (show ¬ bZ true = 0 by decide), d1, Option.bind_some, if_pos k1]
      dsimp only
      obtain ⟨x, hx⟩ : ∃ x : Nat, b ((skp b N p : Nat) : Int) - 48 = (x : Int) := ⟨(b ((skp b N p : Nat) : Int) - 48).toNat, by omega⟩
      rw [hx, Int.toNat_natCast, gC_pos (x := (x : Int)) (y := 0) (by omega) (by omega) (by omega) (by omega), gC_pos (x := (m : Int) - 1) (y := 0) (by omega) (by omega) (by omega) (by omega), sp_in S2 k (by omega) (by omega) (by omega) (by omega) (by omega) (by omega), Option.bind_some, gC_b]
      by_cases k2 : (x : Int) < (m : Int)
      · rw [decide_eq_true (show (0 : Int) ≤ (x : Int) ∧ (x : Int) ≤ (m : Int) - 1 by omega), if_neg (show ¬ bZ true = 0 by decide), sm_has S2 (by omega) (by omega), Option.bind_some, gC_b]
        cases ht : s.testBit x with
        | true =>
          rw [if_neg (show ¬ ((x : Int) < (m : Int) ∧ true = false) from fun z => Bool.noConfusion z.2), if_neg (show ¬ bZ true = 0 by decide)]
          exact ⟨_, Or.inl rfl, fr1_trans a2 d2, d3⟩
        | false =>
          rw [if_pos (show (x : Int) < (m : Int) ∧ false = false from ⟨k2, rfl⟩), if_pos (show bZ false = 0 from rfl), zshl_1 (by omega), zor_n (by omega) (Nat.lt_of_le_of_lt (Nat.pow_le_pow_right (n := 2) (by omega) (show x ≤ 8 by omega)) (by decide)), d3.2.1]
          obtain ⟨S', e1, e2, e3⟩ := ih (skp b N p + 1) (s ||| 2 ^ x) k (wF S2 49 10 (((skp b N p : Nat) : Int) + 1)) (by omega) (by omega) (tM_to d3 (by omega) (by omega)) (bit_lt h4 (by omega))
          exact ⟨S', e1, fr1_trans (fr1_trans a2 d2) (fr1_trans (fr1_wF _ _ _ _) e2), e3⟩
      · rw [decide_eq_false (show ¬ ((0 : Int) ≤ (x : Int) ∧ (x : Int) ≤ (m : Int) - 1) by omega), if_pos (show bZ false = 0 from rfl), if_neg (show ¬ ((x : Int) < (m : Int) ∧ s.testBit x = false) from fun z => k2 z.1)]
        exact ⟨_, Or.inl rfl, fr1_trans a2 d2, d3⟩
    · have vb : ∃ v : Int, (if skp b N p < N then b ((skp b N p : Nat) : Int) else -1) = v ∧ -1 ≤ v ∧ v ≤ 126 ∧ ¬ (48 ≤ v ∧ v ≤ 57) := by
        by_cases k2 : skp b N p < N
        · have := o.2 _ k2
          exact ⟨_, if_pos k2, by omega, by omega, fun z => k1 ⟨k2, z⟩⟩
        · exact ⟨_, if_neg k2, by omega, by omega, by omega⟩
      obtain ⟨v, hv, v1, v2, v3⟩ := vb
      rw [hv] at d1 ⊢
      rw [gC_pos (x := v) (y := 0) (by omega) (by omega) (by omega) (by omega), sp_in S1 k (by omega) (by omega) (by omega) (by omega) (by omega) (by omega), Option.bind_some, gC_b, decide_eq_false v3, if_pos (show bZ false = 0 from rfl), gC_pos (x := (s : Int)) (y := 0) (by omega) (by omega) (by omega) (by omega), if_neg k1]
      by_cases c2 : s = 0
      · rw [if_pos (by omega), d1, Option.bind_some, if_pos c2]
        dsimp only
        rw [gC_pos (x := v - 48) (y := 0) (by omega) (by omega) (by omega) (by omega), gC_pos (x := (m : Int) - 1) (y := 0) (by omega) (by omega) (by omega) (by omega), sp_in S2 k (by omega) (by omega) (by omega) (by omega) (by omega) (by omega), Option.bind_some, gC_b, decide_eq_false (by omega), if_pos (show bZ false = 0 from rfl)]
        exact ⟨_, Or.inl rfl, fr1_trans a2 d2, d3⟩
      · rw [if_neg (by omega), if_neg c2]
        exact ⟨_, Or.inr rfl, a2, a3⟩
def rS (b : Int → Int) (N m p : Nat) : Int × Nat := rSl b N m (N + 1) p 0
theorem tC_parts (o : okb b N) {m p n : Nat} {S : ZS} (hm : m ≤ 8) (hn : 600 ≤ n) (h : tC S b N p) : ∃ S', fP_readParts n S (m : Int) = some ((rS b N m p).1, S') ∧ fr1 22 2 S S' ∧ tC S' b N (rS b N m p).2 := by
  have o1 := o.1
  obtain ⟨S', a1, a2, a3⟩ := tC_parts1 o hm (N + 1) p 0 0 n S (by omega) (by omega) h (pw_pos m) (by omega) (Or.inl rfl)
  refine ⟨S', ?_, a2, a3⟩
  unfold fP_readParts
  rcases a1 with e | e
  · have e : fP_readParts_1 n S (m : Int) 0 0 = _ := e
    rw [e]
    rfl
  · have e : fP_readParts_1 n S (m : Int) 0 0 = _ := e
    rw [e]
    rfl
theorem tM_set (o : okb b N) {m p n : Nat} {S : ZS} (hm : m ≤ 8) (hn : 600 ≤ n) (h : tM S b N p) : ∃ S', fM_readSet n S (m : Int) = some ((rS b N m p).1, S') ∧ fr1 49 10 S S' ∧ tM S' b N (rS b N m p).2 := by
  have o1 := o.1
  obtain ⟨S', a1, a2, a3⟩ := tM_set1 o hm (N + 1) p 0 n S (by omega) (by omega) h (pw_pos m)
  refine ⟨S', ?_, a2, a3⟩
  unfold fM_readSet
  rcases a1 with e | e
  · have e : fM_readSet_1 n S (m : Int) 0 = _ := e
    rw [e]
    rfl
  · have e : fM_readSet_1 n S (m : Int) 0 = _ := e
    rw [e]
    rfl
theorem rSl_bd (m : Nat) : ∀ (d p s : Nat), N < p + d → p ≤ N → s < 2 ^ m → ((rSl b N m d p s).1 = -1 ∧ skp b N (rSl b N m d p s).2 = (rSl b N m d p s).2) ∨ ∃ a : Nat, a < 2 ^ m ∧ (rSl b N m d p s).1 = (a : Int) := by
  intro d
  induction d with
  | zero => intro p s h1 h2; exact absurd h2 (by omega)
  | succ d ih =>
    intro p s h1 h2 h3
    rw [rSl]
    have bd := skp_bd (b := b) h2
    by_cases k1 : skp b N p < N ∧ (48 ≤ b ((skp b N p : Nat) : Int) ∧ b ((skp b N p : Nat) : Int) ≤ 57)
    · rw [if_pos k1]
      by_cases k2 : b ((skp b N p : Nat) : Int) - 48 < (m : Int) ∧ s.testBit (b ((skp b N p : Nat) : Int) - 48).toNat = false
      · rw [if_pos k2]
        exact ih _ _ (by omega) (by omega) (bit_lt h3 (by omega))
      · rw [if_neg k2]
        exact Or.inl ⟨rfl, skp_skp h2⟩
    · rw [if_neg k1]
      by_cases k2 : s = 0
      · rw [if_pos k2]
        exact Or.inl ⟨rfl, skp_skp h2⟩
      · rw [if_neg k2]
        exact Or.inr ⟨s, h3, rfl⟩
theorem rS_bd {m p : Nat} (h : p ≤ N) : ((rS b N m p).1 = -1 ∧ skp b N (rS b N m p).2 = (rS b N m p).2) ∨ ∃ a : Nat, a < 2 ^ m ∧ (rS b N m p).1 = (a : Int) := rSl_bd m (N + 1) p 0 (by omega) h (pw_pos m)
end RDc
