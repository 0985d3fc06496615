/-! ===== counts and divisors ===== -/
section CD
def pcN (c : Nat) : Nat := c % 2 + c / 2 % 2 + c / 4 % 2 + c / 8 % 2
theorem sp_bitCount (n : Nat) (S : ZS) {c : Nat} (hc : c < 16) : fI_bitCount n S (c : Int) = some ((pcN c : Nat) : Int) := by
  have k : ∀ c : Fin 16, fI_bitCount n S ((c : Nat) : Int) = some ((pcN (c : Nat) : Nat) : Int) := by
    unfold fI_bitCount
    decide
  exact k ⟨c, hc⟩
theorem pcN_low {c : Nat} (hc : c < 16) (h : c ≠ 0) : pcN (c &&& (c - 1)) + 1 = pcN c := by
  have k : ∀ c : Fin 16, (c : Nat) ≠ 0 → pcN ((c : Nat) &&& ((c : Nat) - 1)) + 1 = pcN (c : Nat) := by decide
  exact k ⟨c, hc⟩ h
theorem pcN_3 {c o : Nat} (hc : c < 16) (ho : o < 4) (h : c.testBit o = false) : pcN c ≤ 3 := by
  have k : ∀ (c : Fin 16) (o : Fin 4), (c : Nat).testBit (o : Nat) = false → pcN (c : Nat) ≤ 3 := by decide
  exact k ⟨c, hc⟩ ⟨o, ho⟩ h
theorem sm_ones1 (S : ZS) : ∀ (d c n a : Nat), c < 16 → pcN c = d → d < n → fM_ones_1 n S (a : Int) (c : Int) = some ((a + d : Nat) : Int) := by
  intro d
  induction d with
  | zero =>
    intro c n a hc hd hn
    obtain ⟨m, rfl⟩ : ∃ m, n = m + 1 := ⟨n - 1, by omega⟩
    have : c = 0 := by
      apply Decidable.byContradiction
      intro h
      have := pcN_low hc h
      omega
    subst this
    rw [fM_ones_1, gC_pos (by omega) (by omega) (by omega) (by omega), if_pos (by omega)]
    rfl
  | succ d ih =>
    intro c n a hc hd hn
    obtain ⟨m, rfl⟩ : ∃ m, n = m + 1 := ⟨n - 1, by omega⟩
    have h0 : c ≠ 0 := by
      intro h
      subst h
      have : pcN 0 = 0 := rfl
      omega
    have hl : c &&& (c - 1) ≤ c := Nat.and_le_left
    have lo := pcN_low hc h0
    have e : zand (c : Int) ((c : Int) - 1) = ((c &&& (c - 1) : Nat) : Int) := by
      rw [show (c : Int) - 1 = ((c - 1 : Nat) : Int) by omega]
      exact zand_n (by omega) (by omega)
    rw [fM_ones_1, gC_pos (by omega) (by omega) (by omega) (by omega), if_neg (by omega), e]
    have := ih (c &&& (c - 1)) m (a + 1) (by omega) (by omega) (by omega)
    rw [show a + 1 + d = a + (d + 1) by omega] at this
    exact this
theorem sm_ones (S : ZS) {c n : Nat} (hc : c < 16) (hn : 20 ≤ n) : fM_ones n S (c : Int) = some ((pcN c : Nat) : Int) := by
  have hp : pcN c ≤ 4 := by unfold pcN; omega
  have e := sm_ones1 S (pcN c) c n 0 hc rfl (by omega)
  rw [Nat.zero_add] at e
  unfold fM_ones
  rw [show fM_ones_1 n S 0 (c : Int) = _ from e]
  rfl
def gd (x : Nat) : Nat := Nat.gcd x 24
def dvN (x : Nat) : Nat → Nat
  | 0 => 1
  | l + 1 => if l = 0 then 1 else if x % (l + 1) = 0 ∧ 24 % (l + 1) = 0 then l + 1 else dvN x l
theorem sp_div1 (S : ZS) {x : Nat} (hx : x ≤ 24) : ∀ (l n : Nat), l ≤ 24 → l < n → zR (fW_sharedDivisor_1 n S (x : Int) (l : Int)) (fun _ => some 1) = some ((dvN x l : Nat) : Int) := by
  intro l
  induction l with
  | zero =>
    intro n hl hn
    obtain ⟨m, rfl⟩ : ∃ m, n = m + 1 := ⟨n - 1, by omega⟩
    rw [fW_sharedDivisor_1, gC_pos (by omega) (by omega) (by omega) (by omega), if_neg (by omega)]
    rfl
  | succ l ih =>
    intro n hl hn
    obtain ⟨m, rfl⟩ : ∃ m, n = m + 1 := ⟨n - 1, by omega⟩
    have i1 := ih m (by omega) (by omega)
    have e1 : (x : Int).tmod ((l + 1 : Nat) : Int) = ((x % (l + 1) : Nat) : Int) := rfl
    have e2 : (24 : Int).tmod ((l + 1 : Nat) : Int) = ((24 % (l + 1) : Nat) : Int) := rfl
    have b1 : x % (l + 1) < l + 1 := Nat.mod_lt _ (by omega)
    have b2 : 24 % (l + 1) < l + 1 := Nat.mod_lt _ (by omega)
    have ed : dvN x (l + 1) = if l = 0 then 1 else if x % (l + 1) = 0 ∧ 24 % (l + 1) = 0 then l + 1 else dvN x l := rfl
    rw [fW_sharedDivisor_1, gC_pos (by omega) (by omega) (by omega) (by omega), e1, e2, gV_pos (by omega) (by omega) (by omega) (by omega), gC_pos (by omega) (by omega) (by omega) (by omega), gV_pos (by omega) (by omega) (by omega) (by omega), gC_pos (by omega) (by omega) (by omega) (by omega), show ((l + 1 : Nat) : Int) + -1 = (l : Int) by omega, ed]
    generalize x % (l + 1) = u at *
    generalize 24 % (l + 1) = v at *
    by_cases c : l = 0
    · rw [if_neg (by omega), if_pos c]
      rfl
    · rw [if_pos (by omega), if_neg c]
      by_cases d : u = 0
      · rw [if_pos (by omega)]
        by_cases f : v = 0
        · rw [if_pos (by omega), if_pos ⟨d, f⟩]
          rfl
        · rw [if_neg (by omega), if_neg (fun h => f h.2)]
          exact i1
      · rw [if_neg (by omega), if_neg (fun h => d h.1)]
        exact i1
theorem dvN_gd {x : Nat} (hx : x ≤ 24) : dvN x 24 = gd x := by
  have k : ∀ x : Fin 25, dvN (x : Nat) 24 = gd (x : Nat) := by decide
  exact k ⟨x, by omega⟩
theorem sp_divisor (S : ZS) {x n : Nat} (hx : x ≤ 24) (hn : 30 ≤ n) : fW_sharedDivisor n S (x : Int) = some ((gd x : Nat) : Int) := by
  have e := sp_div1 S hx 24 n (by omega) (by omega)
  rw [dvN_gd hx] at e
  exact e
theorem sm_com1 (S : ZS) : ∀ (d b a n : Nat), b ≤ d → d < n → a ≤ 100 → b ≤ 100 → fM_common_1 n S (a : Int) (b : Int) = some ((Nat.gcd a b : Nat) : Int) := by
  intro d
  induction d with
  | zero =>
    intro b a n hb hn ha hc
    obtain ⟨m, rfl⟩ : ∃ m, n = m + 1 := ⟨n - 1, by omega⟩
    have : b = 0 := by omega
    subst this
    rw [fM_common_1, gC_pos (by omega) (by omega) (by omega) (by omega), if_pos (by omega), Nat.gcd_zero_right]
  | succ d ih =>
    intro b a n hb hn ha hc
    obtain ⟨m, rfl⟩ : ∃ m, n = m + 1 := ⟨n - 1, by omega⟩
    by_cases c : b = 0
    · subst c
      rw [fM_common_1, gC_pos (by omega) (by omega) (by omega) (by omega), if_pos (by omega), Nat.gcd_zero_right]
    · have e1 : (a : Int).tmod (b : Int) = ((a % b : Nat) : Int) := rfl
      have b1 : a % b < b := Nat.mod_lt _ (by omega)
      have i1 := ih (a % b) b m (by omega) (by omega) (by omega) (by omega)
      rw [fM_common_1, gC_pos (by omega) (by omega) (by omega) (by omega), if_neg (by omega), gV_pos (by omega) (by omega) (by omega) (by omega), e1, i1, Nat.gcd_comm a b, Nat.gcd_rec b a, Nat.gcd_comm b (a % b)]
theorem sm_common (S : ZS) {x n : Nat} (hx : x ≤ 24) (hn : 30 ≤ n) : fM_common n S (x : Int) 24 = some ((gd x : Nat) : Int) := by
  have e : fM_common_1 n S (x : Int) 24 = _ := sm_com1 S 24 24 x n (by omega) (by omega) (by omega) (by omega)
  unfold fM_common
  rw [e]
  rfl
end CD
