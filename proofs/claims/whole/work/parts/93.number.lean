/-! ===== numbers on the tape ===== -/
section NU
variable {S : ZS}
/-- the run of digits from p on: its number, its end -/
def dg (b : Int → Int) : Nat → Nat → Int → Int × Nat
  | 0, p, V => (V, p)
  | d + 1, p, V => if 48 ≤ b (p : Int) ∧ b (p : Int) ≤ 57 then dg b d (p + 1) (10 * V + b (p : Int) - 48) else (V, p)
theorem sp_isDigit (n : Nat) (S : ZS) {x : Int} (h1 : -2147483648 ≤ x) (h2 : x < 2147483648) : fP_isDigit n S x = some (bZ (decide (48 ≤ x ∧ x ≤ 57))) := by
  unfold fP_isDigit
  rw [gC_pos (x := x) (y := 48) (by omega) (by omega) (by omega) (by omega), gC_pos (x := x) (y := 57) (by omega) (by omega) (by omega) (by omega), gB_0, gB_1]
  by_cases c : x < 48
  · rw [if_pos c, decide_eq_false (by omega)]
    rfl
  · rw [if_neg c]
    by_cases d : 57 < x
    · rw [if_pos d, decide_eq_false (by omega)]
      rfl
    · rw [if_neg d, decide_eq_true (by omega)]
      rfl
theorem sp_num1 {N : Nat} (hN : N ≤ 160) {hi : Int} (hh : 0 ≤ hi) (hh2 : hi ≤ 999) (l1 l3 : Int) : ∀ (d p n : Nat) (V : Int) (S : ZS), p + d = N → d < n → 0 ≤ V → zF S 22 1 = (N : Int) → zF S 22 2 = (p : Int) → (∀ i : Nat, i < N → 32 ≤ zA S 23 (i : Int) ∧ zA S 23 (i : Int) ≤ 126) → ∃ S', fP_readNumber_1 n S l1 hi l3 (min (hi + 1) V) = some (min (hi + 1) (dg (zA S 23) d p V).1, S') ∧ fr1 22 2 S S' ∧ zF S' 22 2 = (((dg (zA S 23) d p V).2 : Nat) : Int) := by
  intro d
  induction d with
  | zero =>
    intro p n V S hp hn hV h1 h2 hb
    obtain ⟨m, rfl⟩ : ∃ m, n = m + 1 := ⟨n - 1, by omega⟩
    refine ⟨S, ?_, fr1_rfl, h2⟩
    rw [fP_readNumber_1, h1, h2, gC_pos (x := (p : Int)) (y := (N : Int)) (by omega) (by omega) (by omega) (by omega), if_neg (by omega)]
    rfl
  | succ d ih =>
    intro p n V S hp hn hV h1 h2 hb
    obtain ⟨m, rfl⟩ : ∃ m, n = m + 1 := ⟨n - 1, by omega⟩
    have bb := hb p (by omega)
    rw [fP_readNumber_1, h1, h2, gC_pos (x := (p : Int)) (y := (N : Int)) (by omega) (by omega) (by omega) (by omega), if_pos (by omega), gX_pos (by omega) (by omega) (by omega), sp_isDigit m S (by omega) (by omega), Option.bind_some, gC_b, dg]
    by_cases k : 48 ≤ zA S 23 (p : Int) ∧ zA S 23 (p : Int) ≤ 57
    · rw [decide_eq_true k, if_neg (show ¬ bZ true = 0 by decide), if_pos k, gX_pos (by omega) (by omega) (by omega), gC_pos (by omega) (by omega) (by omega) (by omega)]
      obtain ⟨S', a1, a2, a3⟩ := ih (p + 1) m (10 * V + zA S 23 (p : Int) - 48) (wF S 22 2 ((p : Int) + 1)) (by omega) (by omega) (by omega) h1 rfl hb
      refine ⟨S', ?_, fr1_trans (fr1_wF _ _ _ _) a2, a3⟩
      rw [show min (hi + 1) (min (hi + 1) V * 10 + zA S 23 (p : Int) - 48) = min (hi + 1) (10 * V + zA S 23 (p : Int) - 48) by omega]
      exact a1
    · rw [decide_eq_false k, if_pos (show bZ false = 0 from rfl), if_neg k]
      exact ⟨S, rfl, fr1_rfl, h2⟩
end NU
