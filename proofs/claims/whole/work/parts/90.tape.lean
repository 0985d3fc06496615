/-! ===== the tape: what comes next ===== -/
section TP
variable {S : ZS}
/-- only field j of h differs -/
def fr1 (h j : Nat) (S S' : ZS) : Prop := S'.1 = S.1 ∧ S'.2.2 = S.2.2 ∧ ∀ h' j' : Nat, (h' ≠ h ∨ j' ≠ j) → S'.2.1 h' j' = S.2.1 h' j'
theorem fr1_rfl {h j : Nat} : fr1 h j S S := ⟨rfl, rfl, fun _ _ _ => rfl⟩
theorem fr1_trans {h j : Nat} {S1 S2 : ZS} (f : fr1 h j S S1) (g : fr1 h j S1 S2) : fr1 h j S S2 := ⟨g.1.trans f.1, g.2.1.trans f.2.1, fun a b c => (g.2.2 a b c).trans (f.2.2 a b c)⟩
theorem fr1_wF (S : ZS) (h j : Nat) (x : Int) : fr1 h j S (wF S h j x) := by
  refine ⟨rfl, rfl, fun a b c => ?_⟩
  show (if b = j then (if a = h then x else S.2.1 a b) else S.2.1 a b) = _
  by_cases k : b = j
  · rw [if_pos k, if_neg (by omega)]
  · rw [if_neg k]
theorem fr1_A {h j : Nat} {S' : ZS} (f : fr1 h j S S') (a : Nat) (i : Int) : zA S' a i = zA S a i := by show S'.1 a i = S.1 a i; rw [f.1]
theorem fr1_F {h j : Nat} {S' : ZS} (f : fr1 h j S S') {a b : Nat} (c : a ≠ h ∨ b ≠ j) : zF S' a b = zF S a b := f.2.2 a b c
/-- the first byte from p on that is no blank, or the end -/
def skp (b : Int → Int) (N : Nat) (p : Nat) : Nat := (findFrom (fun i => decide (b (i : Int) ≠ 32)) (N - p) p).getD N
theorem skp_end {b : Int → Int} {N p : Nat} (h : N ≤ p) : skp b N p = N := by
  unfold skp
  rw [show N - p = 0 by omega]
  rfl
theorem skp_step {b : Int → Int} {N p : Nat} (h : p < N) : skp b N p = if b (p : Int) = 32 then skp b N (p + 1) else p := by
  unfold skp
  rw [show N - p = (N - (p + 1)) + 1 by omega]
  show (if decide (b (p : Int) ≠ 32) = true then some p else findFrom _ (N - (p + 1)) (p + 1)).getD N = _
  by_cases k : b (p : Int) = 32
  · rw [if_pos k, if_neg (by simp [k])]
  · rw [if_neg k, if_pos (by simp [k])]
    rfl
theorem sp_skip {N : Nat} (hN : N ≤ 160) : ∀ (d p n : Nat) (S : ZS), p + d = N → d < n → zF S 22 1 = (N : Int) → zF S 22 2 = (p : Int) → (∀ i : Nat, i < N → 32 ≤ zA S 23 (i : Int) ∧ zA S 23 (i : Int) ≤ 126) → ∃ S', fP_next_1 n S = some S' ∧ fr1 22 2 S S' ∧ zF S' 22 2 = ((skp (zA S 23) N p : Nat) : Int) := by
  intro d
  induction d with
  | zero =>
    intro p n S hp hn h1 h2 hb
    obtain ⟨m, rfl⟩ : ∃ m, n = m + 1 := ⟨n - 1, by omega⟩
    refine ⟨S, ?_, fr1_rfl, ?_⟩
    · rw [fP_next_1, h1, h2, gC_pos (by omega) (by omega) (by omega) (by omega), if_neg (by omega)]
    · rw [skp_end (by omega), h2]
      omega
  | succ d ih =>
    intro p n S hp hn h1 h2 hb
    obtain ⟨m, rfl⟩ : ∃ m, n = m + 1 := ⟨n - 1, by omega⟩
    have bb := hb p (by omega)
    rw [fP_next_1, h1, h2, gC_pos (by omega) (by omega) (by omega) (by omega), if_pos (by omega), gX_pos (by omega) (by omega) (by omega), gC_pos (x := zA S 23 (p : Int)) (y := 32) (by omega) (by omega) (by omega) (by omega), skp_step (by omega)]
    by_cases k : zA S 23 (p : Int) = 32
    · rw [if_pos k, if_pos k]
      obtain ⟨S', a1, a2, a3⟩ := ih (p + 1) m (wF S 22 2 ((p : Int) + 1)) (by omega) (by omega) h1 rfl hb
      exact ⟨S', a1, fr1_trans (fr1_wF _ _ _ _) a2, a3⟩
    · rw [if_neg k, if_neg k]
      exact ⟨S, rfl, fr1_rfl, h2⟩
end TP
