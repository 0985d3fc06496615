/-! ===== the class's tables ===== -/
theorem loop_inv {α σ : Type} {F : Nat → σ → Int → Option α} (P : Nat → σ → Prop) (R : α → Prop) (K N : Nat) (hs : ∀ (n p : Nat) (a : σ), p < K → N ≤ n → P p a → ∃ a', P (p + 1) a' ∧ F (n + 1) a (p : Int) = F n a' ((p : Int) + 1)) (he : ∀ (n : Nat) (a : σ), N ≤ n → P K a → ∃ b, F (n + 1) a (K : Int) = some b ∧ R b) : ∀ (n : Nat) (a : σ), K + N < n → P 0 a → ∃ b, F n a 0 = some b ∧ R b := by
  have key : ∀ (j p n : Nat) (a : σ), p + j = K → j + N < n → P p a → ∃ b, F n a (p : Int) = some b ∧ R b := by
    intro j
    induction j with
    | zero =>
      intro p n a hp hn ha
      obtain ⟨m, rfl⟩ : ∃ m, n = m + 1 := ⟨n - 1, by omega⟩
      have : p = K := by omega
      subst this
      exact he m a (by omega) ha
    | succ j ih =>
      intro p n a hp hn ha
      obtain ⟨m, rfl⟩ : ∃ m, n = m + 1 := ⟨n - 1, by omega⟩
      obtain ⟨a', h1, h2⟩ := hs m p a (by omega) (by omega) ha
      rw [h2]
      exact ih (p + 1) m a' (by omega) (by omega) h1
  intro n a hn ha
  exact key K 0 n a (by omega) (by omega) ha
/-- three rows at s -/
def up3 (S S' : ZS) (s y g c : Int) : Prop := (∀ (h : Nat) (i : Int), zA S' h i = if i = s ∧ h = 25 then y else if i = s ∧ h = 26 then g else if i = s ∧ h = 27 then c else zA S h i) ∧ S'.2 = S.2
theorem wA3_up (S : ZS) (s y g c : Int) : up3 S (wA (wA (wA S 25 s y) 26 s g) 27 s c) s y g c := by
  refine ⟨fun h i => ?_, rfl⟩
  simp only [zA_wA]
  by_cases e : i = s
  · by_cases h1 : h = 25
    · subst h1; simp [e]
    · by_cases h2 : h = 26
      · subst h2; simp [e]
      · by_cases h3 : h = 27
        · subst h3; simp [e]
        · simp [h1, h2, h3]
  · by_cases h1 : h = 25
    · subst h1; simp [e]
    · by_cases h2 : h = 26
      · subst h2; simp [e]
      · by_cases h3 : h = 27
        · subst h3; simp [e]
        · simp [h1, h2, h3]
theorem up3_tr {S S1 S2 : ZS} {s y g c y' g' c' : Int} (h1 : up3 S S1 s y g c) (h2 : up3 S1 S2 s y' g' c') : up3 S S2 s y' g' c' := by
  refine ⟨fun h i => ?_, h2.2.trans h1.2⟩
  rw [h2.1 h i, h1.1 h i]
  by_cases e : i = s ∧ h = 25
  · simp only [if_pos e]
  · by_cases e2 : i = s ∧ h = 26
    · simp only [if_neg e, if_pos e2]
    · by_cases e3 : i = s ∧ h = 27
      · simp only [if_neg e, if_neg e2, if_pos e3]
      · simp only [if_neg e, if_neg e2, if_neg e3]
/-- rows from lo to hi alone differ -/
def frR (lo hi : Nat) (S S' : ZS) : Prop := (∀ h : Nat, (h < lo ∨ hi < h) → S'.1 h = S.1 h) ∧ S'.2 = S.2
theorem frR_rfl {lo hi : Nat} {S : ZS} : frR lo hi S S := ⟨fun _ _ => rfl, rfl⟩
theorem frR_trans {lo hi : Nat} {S S1 S2 : ZS} (h1 : frR lo hi S S1) (h2 : frR lo hi S1 S2) : frR lo hi S S2 := ⟨fun h hh => (h2.1 h hh).trans (h1.1 h hh), h2.2.trans h1.2⟩
theorem frR_wA {lo hi h : Nat} (S : ZS) (x v : Int) (h1 : lo ≤ h) (h2 : h ≤ hi) : frR lo hi S (wA S h x v) := ⟨fun h' hh => by show (if h' = h then _ else _) = _; rw [if_neg (by omega)], rfl⟩
theorem frR_wR {lo hi h : Nat} (S : ZS) (f : Int → Int) (h1 : lo ≤ h) (h2 : h ≤ hi) : frR lo hi S (wR S h f) := ⟨fun h' hh => by show (if h' = h then _ else _) = _; rw [if_neg (by omega)], rfl⟩
theorem frR_fr {lo hi : Nat} {S S' : ZS} (h : frR lo hi S S') (ob : Nat) : fr lo hi ob S S' := ⟨h.1, fun h' j _ => by rw [h.2], by rw [h.2]⟩
theorem frR_A {lo hi : Nat} {S S' : ZS} (h : frR lo hi S S') {a : Nat} (ha : a < lo ∨ hi < a) (i : Int) : zA S' a i = zA S a i := congrFun (h.1 a ha) i
theorem frR_F {lo hi : Nat} {S S' : ZS} (h : frR lo hi S S') (a j : Nat) : zF S' a j = zF S a j := by show S'.2.1 a j = S.2.1 a j; rw [h.2]
theorem frR_n {lo hi : Nat} {S S' : ZS} (h : frR lo hi S S') : nn S' = nn S := by show S'.2.2.1 = S.2.2.1; rw [h.2]
theorem frR_tAt {lo hi : Nat} {S S' : ZS} (h : frR lo hi S S') {t : Nat} {T : TW} (ht : tAt S t T) (h1 : t + 6 < lo ∨ hi < t + 1) : tAt S' t T := fr_tAt (frR_fr h (t + 1)) ht h1 (by omega)
theorem up3_tAt {S S' : ZS} {s y g c : Int} (h : up3 S S' s y g c) {T : TW} (ht : tAt S 1 T) : tAt S' 1 T := by
  have A : ∀ (h' : Nat) (i : Int), h' ≤ 7 → zA S' h' i = zA S h' i := by
    intro h' i hh
    rw [h.1, if_neg (by omega), if_neg (by omega), if_neg (by omega)]
  have F : ∀ j, zF S' 1 j = zF S 1 j := fun j => by show S'.2.1 1 j = S.2.1 1 j; rw [h.2]
  exact ⟨fun j a b => (F j).trans (ht.1 j a b), fun i p a b c => (A _ _ (by omega)).trans (ht.2.1 i p a b c), fun p a => (A _ _ (by omega)).trans (ht.2.2 p a)⟩
section TB
variable {S : ZS} {T : TW}
theorem sp_sumUp (ht : tAt S 1 T) (w : wfR T) {s : Nat} (hs : s < 256) {n : Nat} (hn : 40 ≤ n) : ∃ S', fW_sumUp n S (s : Int) = some S' ∧ up3 S S' (s : Int) (Yd T s) (Ov T s 0) (Ov T 0 s) := by
  have w6 := w.1
  have e := loop_inv (F := fun n a p => fW_sumUp_1 n a (s : Int) p) (fun p a => up3 S a (s : Int) (sumTo (yF T s) p) (sumTo (oF T s 0) p) (sumTo (oF T 0 s) p)) (fun a => up3 S a (s : Int) (Yd T s) (Ov T s 0) (Ov T 0 s)) (T.2 6) 0 ?_ ?_ n (wA (wA (wA S 25 (s : Int) 0) 26 (s : Int) 0) 27 (s : Int) 0) (by omega) (wA3_up S _ _ _ _)
  · obtain ⟨S', e1, e2⟩ := e
    refine ⟨S', ?_, e2⟩
    unfold fW_sumUp
    rw [gX_pos (by omega) (by omega) (by omega), gX_pos (by omega) (by omega) (by omega), gX_pos (by omega) (by omega) (by omega), e1]
    rfl
  · intro n p a hp _ ha
    have ta := up3_tAt ha ht
    have a25 : zA a 25 (s : Int) = sumTo (yF T s) p := by rw [ha.1, if_pos ⟨rfl, rfl⟩]
    have a26 : zA a 26 (s : Int) = sumTo (oF T s 0) p := by rw [ha.1, if_neg (by simp), if_pos ⟨rfl, rfl⟩]
    have a27 : zA a 27 (s : Int) = sumTo (oF T 0 s) p := by rw [ha.1, if_neg (by simp), if_neg (by simp), if_pos ⟨rfl, rfl⟩]
    have z0 : (0 : Nat).testBit p = false := by simp
    show ∃ a', _ ∧ fW_sumUp_1 (n + 1) a (s : Int) (p : Int) = fW_sumUp_1 n a' (s : Int) ((p : Int) + 1)
    rw [fW_sumUp_1, ta.1 6 (by omega) (by omega), gC_pos (by omega) (by omega) (by omega) (by omega), if_pos (by omega), zbit_n (by omega) (by omega)]
    by_cases b : s.testBit p = true
    · have t1 : tAt (wA a 25 (s : Int) (sumTo (yF T s) p + (T.1 2 p : Int))) 1 T := fr_tAt (fr_wA (lo := 25) (hi := 27) (ob := 1000) a _ _ (by omega) (by omega)) ta (by omega) (by omega)
      have t2 : tAt (wA (wA a 25 (s : Int) (sumTo (yF T s) p + (T.1 2 p : Int))) 26 (s : Int) (sumTo (oF T s 0) p + gg T p)) 1 T := fr_tAt (fr_wA (lo := 25) (hi := 27) (ob := 1000) _ _ _ (by omega) (by omega)) t1 (by omega) (by omega)
      have y3 : zA a 3 (p : Int) = (T.1 2 p : Int) := ta.2.1 2 p (by omega) (by omega) hp
      refine ⟨wA (wA (wA a 25 (s : Int) (sumTo (yF T s) p + (T.1 2 p : Int))) 26 (s : Int) (sumTo (oF T s 0) p + gg T p)) 27 (s : Int) (sumTo (oF T 0 s) p + gc T p), ?_, ?_⟩
      · have := up3_tr ha (wA3_up a (s : Int) (sumTo (yF T s) p + (T.1 2 p : Int)) (sumTo (oF T s 0) p + gg T p) (sumTo (oF T 0 s) p + gc T p))
        show up3 S _ (s : Int) (sumTo (yF T s) p + yF T s p) (sumTo (oF T s 0) p + oF T s 0 p) (sumTo (oF T 0 s) p + oF T 0 s p)
        have e1 : yF T s p = (T.1 2 p : Int) := if_pos b
        have e2 : oF T s 0 p = gg T p := if_pos b
        have e3 : oF T 0 s p = gc T p := by unfold oF; rw [if_neg (by rw [z0]; decide), if_pos b]
        rw [e1, e2, e3]
        exact this
      · rw [if_pos b, gC_pos (by omega) (by omega) (by omega) (by omega), if_pos rfl, gX_pos (by omega) (by omega) (by omega), gX_pos (by omega) (by omega) (by omega), gX_pos (by omega) (by omega) (by omega), gX_pos (by omega) (by omega) (by omega), a25, y3, sp_gg t1 w hp, Option.bind_some, gX_pos (by omega) (by omega) (by omega), gX_pos (by omega) (by omega) (by omega), a26, sp_gc t2 w hp, Option.bind_some, gX_pos (by omega) (by omega) (by omega), a27]
    · refine ⟨a, ?_, ?_⟩
      · show up3 S a (s : Int) (sumTo (yF T s) p + yF T s p) (sumTo (oF T s 0) p + oF T s 0 p) (sumTo (oF T 0 s) p + oF T 0 s p)
        have e1 : yF T s p = 0 := if_neg b
        have e2 : oF T s 0 p = 0 := by unfold oF; rw [if_neg b, if_neg (by rw [z0]; decide)]
        have e3 : oF T 0 s p = 0 := by unfold oF; rw [if_neg (by rw [z0]; decide), if_neg b]
        rw [e1, e2, e3, Int.add_zero, Int.add_zero, Int.add_zero]
        exact ha
      · rw [if_neg b, gC_pos (by omega) (by omega) (by omega) (by omega), if_neg (by omega)]
  · intro n a _ ha
    have ta := up3_tAt ha ht
    refine ⟨a, ?_, ha⟩
    show fW_sumUp_1 (n + 1) a (s : Int) (T.2 6 : Int) = _
    rw [fW_sumUp_1, ta.1 6 (by omega) (by omega), gC_pos (by omega) (by omega) (by omega) (by omega), if_neg (by omega)]
/-- the tables up to s -/
def tablTo (S : ZS) (T : TW) (k : Nat) : Prop := ∀ s : Nat, s < k → zA S 25 (s : Int) = Yd T s ∧ zA S 26 (s : Int) = Ov T s 0 ∧ zA S 27 (s : Int) = Ov T 0 s ∧ zA S 28 (s : Int) = bZ (firmB T s) ∧ zA S 29 (s : Int) = bZ (dryB T s)
theorem sp_table (ht : tAt S 1 T) (w : wfR T) (h14 : zF S 24 14 = 0 ∨ (zF S 24 14 = 1 ∧ tabl S T)) {n : Nat} (hn : 400 ≤ n) : ∃ S', fW_table n S = some S' ∧ tabl S' T ∧ zF S' 24 14 = 1 ∧ (∀ h : Nat, (h < 25 ∨ 29 < h) → S'.1 h = S.1 h) ∧ (∀ h j : Nat, (h ≠ 24 ∨ j ≠ 14) → S'.2.1 h j = S.2.1 h j) ∧ S'.2.2 = S.2.2 := by
  have hq := pw_le w.1
  have hp := pw_pos (T.2 6)
  unfold fW_table
  rcases h14 with h | ⟨h, htb⟩
  · have e := loop_inv (F := fun n a p => fW_table_1 n a p) (fun p a => tablTo a T p ∧ frR 25 29 S a) (fun a => tabl a T ∧ frR 25 29 S a) (2 ^ T.2 6) 50 ?_ ?_ n S (by omega) ⟨fun s hs => absurd hs (by omega), frR_rfl⟩
    · obtain ⟨b, e1, e2, e3⟩ := e
      refine ⟨wF b 24 14 1, ?_, e2, rfl, fun h' hh => e3.1 h' hh, fun h' j hh => ?_, by show b.2.2 = _; rw [e3.2]⟩
      · rw [h, gC_pos (by omega) (by omega) (by omega) (by omega), if_pos rfl, e1, Option.bind_some, gB_1]
      · show (if j = 14 then (if h' = 24 then 1 else b.2.1 h' j) else b.2.1 h' j) = S.2.1 h' j
        rw [e3.2]
        by_cases c : j = 14
        · rw [if_pos c, if_neg (by omega)]
        · rw [if_neg c]
    · intro n s a hs hn ⟨h1, h2⟩
      have ta := frR_tAt h2 ht (by omega)
      obtain ⟨b, e1, e2⟩ := sp_sumUp ta w (s := s) (by omega) (n := n) (by omega)
      have tb := up3_tAt e2 ta
      have fb : frR 25 29 a b := ⟨fun h' hh => by
          funext i
          have := e2.1 h' i
          rw [if_neg (by omega), if_neg (by omega), if_neg (by omega)] at this
          exact this, e2.2⟩
      have fc : frR 25 29 b (wA b 28 (s : Int) (bZ (firmB T s))) := frR_wA _ _ _ (by omega) (by omega)
      have tc := frR_tAt fc tb (by omega)
      have fd : frR 25 29 (wA b 28 (s : Int) (bZ (firmB T s))) (wA (wA b 28 (s : Int) (bZ (firmB T s))) 29 (s : Int) (bZ (dryB T s))) := frR_wA _ _ _ (by omega) (by omega)
      refine ⟨wA (wA b 28 (s : Int) (bZ (firmB T s))) 29 (s : Int) (bZ (dryB T s)), ⟨fun s' hs' => ?_, frR_trans h2 (frR_trans fb (frR_trans fc fd))⟩, ?_⟩
      · simp only [zA_wA]
        by_cases c : s' = s
        · subst c
          have u := e2.1
          refine ⟨?_, ?_, ?_, ?_, ?_⟩
          · simp [u]
          · simp [u]
          · simp [u]
          · simp
          · simp
        · have c' : ¬ (s' : Int) = (s : Int) := by omega
          have := h1 s' (by omega)
          have u := e2.1
          simp [c', u]
          exact this
      · show fW_table_1 (n + 1) a (s : Int) = _
        rw [fW_table_1, sp_all ta w, Option.bind_some, gC_pos (by omega) (by omega) (by omega) (by omega), if_neg (by omega), e1, Option.bind_some, sp_isFirm tb w (by omega) (by omega), Option.bind_some, gB_b, gX_pos (by omega) (by omega) (by omega), sp_dry tc w (by omega) (by omega), Option.bind_some, gB_b, gX_pos (by omega) (by omega) (by omega)]
    · intro n a hn ⟨h1, h2⟩
      have ta := frR_tAt h2 ht (by omega)
      refine ⟨a, ?_, fun s hs => h1 s hs, h2⟩
      show fW_table_1 (n + 1) a ((2 ^ T.2 6 : Nat) : Int) = _
      rw [fW_table_1, sp_all ta w, Option.bind_some, gC_pos (by omega) (by omega) (by omega) (by omega), if_pos (by omega)]
  · refine ⟨S, ?_, htb, h, fun _ _ => rfl, fun _ _ _ => rfl, rfl⟩
    rw [h, gC_pos (by omega) (by omega) (by omega) (by omega), if_neg (by omega)]
end TB
