/-! ===== the tape: next on both sides ===== -/
section TP2
variable {S : ZS}
theorem skp_bd {b : Int → Int} {N p : Nat} (h : p ≤ N) : p ≤ skp b N p ∧ skp b N p ≤ N := by
  unfold skp
  cases hf : findFrom (fun i => decide (b (i : Int) ≠ 32)) (N - p) p with
  | none => exact ⟨h, Nat.le_refl _⟩
  | some k =>
    obtain ⟨h1, h2, -⟩ := findFrom_some hf
    show p ≤ k ∧ k ≤ N
    omega
theorem sm_skip {N : Nat} (hN : N ≤ 160) : ∀ (d p n : Nat) (S : ZS), p + d = N → d < n → zF S 49 9 = (N : Int) → zF S 49 10 = (p : Int) → (∀ i : Nat, i < N → 32 ≤ zA S 52 (i : Int) ∧ zA S 52 (i : Int) ≤ 126) → ∃ S', fM_nextByte_1 n S = some S' ∧ fr1 49 10 S S' ∧ zF S' 49 10 = ((skp (zA S 52) N p : Nat) : Int) := by
  intro d
  induction d with
  | zero =>
    intro p n S hp hn h1 h2 hb
    obtain ⟨m, rfl⟩ : ∃ m, n = m + 1 := ⟨n - 1, by omega⟩
    refine ⟨S, ?_, fr1_rfl, ?_⟩
    · rw [fM_nextByte_1, h1, h2, gC_pos (by omega) (by omega) (by omega) (by omega), if_neg (by omega)]
    · rw [skp_end (by omega), h2]
      omega
  | succ d ih =>
    intro p n S hp hn h1 h2 hb
    obtain ⟨m, rfl⟩ : ∃ m, n = m + 1 := ⟨n - 1, by omega⟩
    have bb := hb p (by omega)
    rw [fM_nextByte_1, h1, h2, gC_pos (by omega) (by omega) (by omega) (by omega), if_pos (by omega), gX_pos (by omega) (by omega) (by omega), gC_pos (x := zA S 52 (p : Int)) (y := 32) (by omega) (by omega) (by omega) (by omega), skp_step (by omega)]
    by_cases k : zA S 52 (p : Int) = 32
    · rw [if_pos k, if_pos k]
      obtain ⟨S', a1, a2, a3⟩ := ih (p + 1) m (wF S 49 10 ((p : Int) + 1)) (by omega) (by omega) h1 rfl hb
      exact ⟨S', a1, fr1_trans (fr1_wF _ _ _ _) a2, a3⟩
    · rw [if_neg k, if_neg k]
      exact ⟨S, rfl, fr1_rfl, h2⟩
theorem sm_next {N p n : Nat} (hN : N ≤ 160) (hp : p ≤ N) (hn : 200 ≤ n) (h1 : zF S 49 9 = (N : Int)) (h2 : zF S 49 10 = (p : Int)) (hb : ∀ i : Nat, i < N → 32 ≤ zA S 52 (i : Int) ∧ zA S 52 (i : Int) ≤ 126) : ∃ S', fM_nextByte n S = some (if skp (zA S 52) N p < N then zA S 52 ((skp (zA S 52) N p : Nat) : Int) else -1, S') ∧ fr1 49 10 S S' ∧ zF S' 49 10 = ((skp (zA S 52) N p : Nat) : Int) := by
  obtain ⟨S', a1, a2, a3⟩ := sm_skip hN (N - p) p n S (by omega) (by omega) h1 h2 hb
  have bd := skp_bd (b := zA S 52) hp
  have e9 : zF S' 49 9 = (N : Int) := (fr1_F a2 (by omega)).trans h1
  refine ⟨S', ?_, a2, a3⟩
  unfold fM_nextByte
  rw [a1, Option.bind_some, a3, e9, gC_pos (by omega) (by omega) (by omega) (by omega), fr1_A a2]
  by_cases k : skp (zA S 52) N p < N
  · rw [if_pos (by omega), if_pos k, gX_pos (by omega) (by omega) (by omega)]
  · rw [if_neg (by omega), if_neg k]
end TP2
