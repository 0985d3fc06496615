/-! ===== the reference brings ===== -/
section MMV
variable {B : Nat} {d m m0 : Nat → Nat → Int} {lf lk : Nat → Int} {S : ZS} {X : Lb} {tau : Nat → Nat}
theorem mLab_fr {lo hi : Nat} {S' : ZS} (f : frN lo hi S S') (h1 : hi < 64) (h : mLab S X) : mLab S' X := fun v hv => by
  rw [frN_A f (by omega), frN_A f (by omega)]
  exact h v hv
theorem sm_move1 (hB : B ≤ 8) (lb : mLab S X) (mr : mRep B S m) (mb : ∀ i j, i < 9 → j < B → 0 ≤ m i j ∧ m i j ≤ 100000) (l1 : Int) : ∀ (k a r n : Nat) (q : Int), CH 9 B d m lf X tau 1 k a r → 1 ≤ q → q ≤ 100000 → 2 * k + 2 < n → ∃ q', fM_moveBy_1 n S l1 q (a : Int) = some (q', (r : Int)) ∧ 1 ≤ q' ∧ q' ≤ q ∧ CH 9 B d m lf X tau q' k a r := by
  intro k
  induction k with
  | zero =>
    intro a r n q c h1 h2 h3
    obtain ⟨n, rfl⟩ : ∃ k, n = k + 1 := ⟨n - 1, by omega⟩
    obtain ⟨rfl, c1, c2, c3, c4⟩ := c
    refine ⟨q, ?_, h1, Int.le_refl _, rfl, c1, c2, c3, c4⟩
    rw [fM_moveBy_1, gX_pos (by omega) (by omega) (by omega), (lb a (by omega)).2, c2, gC_pos (x := -1) (y := 0) (by omega) (by omega) (by omega) (by omega), if_pos (show (-1 : Int) < 0 by decide)]
  | succ k ih =>
    intro a r n q c h1 h2 h3
    obtain ⟨n, rfl⟩ : ∃ k, n = k + 1 + 1 := ⟨n - 2, by omega⟩
    obtain ⟨b, a', c1, c2, c3, c4, c5, c6, c7, c8, c9⟩ := c
    have mm := mb a b c1 c2
    obtain ⟨q', e1, e2, e3, e4⟩ := ih a' r n (min q (m a b)) c9 (by omega) (by omega) (by omega)
    refine ⟨q', ?_, e2, (by omega), b, a', c1, c2, c3, c4, c5, (by omega), c7, c8, e4⟩
    have step : ∀ q2 : Int, fM_moveBy_1 (n + 1) S l1 q2 ((9 + b : Nat) : Int) = fM_moveBy_1 n S l1 q2 (a' : Int) := fun q2 => by
      rw [fM_moveBy_1, gX_pos (by omega) (by omega) (by omega), (lb (9 + b) (by omega)).2, c5, gC_pos (x := (a' : Int)) (y := 0) (by omega) (by omega) (by omega) (by omega), if_neg (show ¬ (a' : Int) < 0 by omega), gX_pos (by omega) (by omega) (by omega), gC_pos (x := (a' : Int)) (y := 9) (by omega) (by omega) (by omega) (by omega), if_pos (show (a' : Int) < 9 by omega)]
    rw [fM_moveBy_1, gX_pos (by omega) (by omega) (by omega), (lb a (by omega)).2, c4, gC_pos (x := ((9 + b : Nat) : Int)) (y := 0) (by omega) (by omega) (by omega) (by omega), if_neg (by omega), gX_pos (by omega) (by omega) (by omega), gC_pos (x := ((9 + b : Nat) : Int)) (y := 9) (by omega) (by omega) (by omega) (by omega), if_neg (by omega), show 8 * (a : Int) + ((9 + b : Nat) : Int) - 9 = 8 * (a : Int) + (b : Int) by omega, gX_pos (x := 8 * (a : Int) + (b : Int)) (by omega) (by omega) (by omega), mr a b c1 c2, gC_pos (x := m a b) (y := q) (by omega) (by omega) (by omega) (by omega), gX_pos (x := 8 * (a : Int) + (b : Int)) (by omega) (by omega) (by omega), step, step]
    by_cases k1 : m a b < q
    · rw [if_pos k1]
      rw [show min q (m a b) = m a b by omega] at e1
      exact e1
    · rw [if_neg k1]
      rw [show min q (m a b) = q by omega] at e1
      exact e1
theorem sm_move2 (hB : B ≤ 8) {q : Int} (q0 : 1 ≤ q) (l1 : Int) : ∀ (k a r n : Nat) (S : ZS) (m : Nat → Nat → Int), CH 9 B d m0 lf X tau q k a r → 2 * k + 2 < n → mLab S X → mRep B S m → nng 9 B m → tgt 9 B d X m → (∀ i j, i < 9 → j < B → tau i ≤ tau a → m0 i j ≤ m i j) → ∃ S' m', fM_moveBy_2 n S l1 q (a : Int) = some S' ∧ SHP 9 B d X m m' a r q ∧ frN 63 63 S S' ∧ mRep B S' m' := by
  intro k
  induction k with
  | zero =>
    intro a r n S m c h4 lb mr nn' tt' mo
    obtain ⟨n, rfl⟩ : ∃ k, n = k + 1 := ⟨n - 1, by omega⟩
    obtain ⟨rfl, c1, c2, c3, c4⟩ := c
    refine ⟨S, m, ?_, SHP_rfl nn' tt', frN_rfl, mr⟩
    rw [fM_moveBy_2, gX_pos (by omega) (by omega) (by omega), (lb a (by omega)).2, c2, gC_pos (x := -1) (y := 0) (by omega) (by omega) (by omega) (by omega), if_pos (show (-1 : Int) < 0 by decide)]
  | succ k ih =>
    intro a r n S m c h4 lb mr nn' tt' mo
    obtain ⟨n, rfl⟩ : ∃ k, n = k + 1 + 1 := ⟨n - 2, by omega⟩
    obtain ⟨b, a', c1, c2, c3, c4, c5, c6, c7, c8, c9⟩ := c
    have ne : a' ≠ a := fun e => by rw [e] at c7; omega
    have mq := mo a b c1 c2 (Nat.le_refl _)
    obtain ⟨s1, s2, s3⟩ := SHP_step (m' := m) (r := r) c1 c2 c3 ne (show 0 ≤ q by omega) (show q ≤ m a b by omega) nn' tt' c8
    have f0 : frN 63 63 S (wA S 63 (8 * (a : Int) + (b : Int)) (m a b - q)) := frN_wA _ _ _ (by omega) (by omega)
    have lb0 := mLab_fr f0 (by omega) lb
    have ea' : zA (wA S 63 (8 * (a : Int) + (b : Int)) (m a b - q)) 63 (8 * (a' : Int) + (b : Int)) = m a' b := by
      rw [zA_wA, if_pos rfl, if_neg (by omega)]
      exact mr a' b c3 c2
    have f1 : frN 63 63 S (wA (wA S 63 (8 * (a : Int) + (b : Int)) (m a b - q)) 63 (8 * (a' : Int) + (b : Int)) (m a' b + q)) := frN_trans f0 (frN_wA _ _ _ (by omega) (by omega))
    have mr1 : mRep B (wA (wA S 63 (8 * (a : Int) + (b : Int)) (m a b - q)) 63 (8 * (a' : Int) + (b : Int)) (m a' b + q)) (g2 (g2 m a b (m a b - q)) a' b (m a' b + q)) := by
      intro i j hi hj
      rw [zA_wA, if_pos rfl, zA_wA, if_pos rfl]
      show _ = (if i = a' ∧ j = b then m a' b + q else if i = a ∧ j = b then m a b - q else m i j)
      by_cases k1 : i = a' ∧ j = b
      · rw [if_pos (by omega), if_pos k1]
      · rw [if_neg (by omega), if_neg k1]
        by_cases k2 : i = a ∧ j = b
        · rw [if_pos (by omega), if_pos k2]
        · rw [if_neg (by omega), if_neg k2]
          exact mr i j hi hj
    obtain ⟨S', m', g1, g2', g3, g4⟩ := ih a' r n _ _ c9 (by omega) (mLab_fr f1 (by omega) lb) mr1 s1 s2 (fun i' j' hi hj ht => by
      have := mo i' j' hi hj (by omega)
      show _ ≤ (if i' = a' ∧ j' = b then m a' b + q else if i' = a ∧ j' = b then m a b - q else m i' j')
      by_cases k1 : i' = a' ∧ j' = b
      · rw [if_pos k1, ← k1.1, ← k1.2]
        omega
      · rw [if_neg k1, if_neg (fun z => by rw [z.1] at ht; omega)]
        exact this)
    refine ⟨S', m', ?_, (SHP_step (m' := m') (r := r) c1 c2 c3 ne (show 0 ≤ q by omega) (show q ≤ m a b by omega) nn' tt' c8).2.2 g2', frN_trans f1 g3, g4⟩
    have step : fM_moveBy_2 (n + 1) (wA S 63 (8 * (a : Int) + (b : Int)) (m a b - q)) l1 q ((9 + b : Nat) : Int) = fM_moveBy_2 n (wA (wA S 63 (8 * (a : Int) + (b : Int)) (m a b - q)) 63 (8 * (a' : Int) + (b : Int)) (m a' b + q)) l1 q (a' : Int) := by
      rw [fM_moveBy_2, gX_pos (by omega) (by omega) (by omega), (lb0 (9 + b) (by omega)).2, c5, gC_pos (x := (a' : Int)) (y := 0) (by omega) (by omega) (by omega) (by omega), if_neg (show ¬ (a' : Int) < 0 by omega), gX_pos (by omega) (by omega) (by omega), gC_pos (x := (a' : Int)) (y := 9) (by omega) (by omega) (by omega) (by omega), if_pos (show (a' : Int) < 9 by omega), show 8 * (a' : Int) + ((9 + b : Nat) : Int) - 9 = 8 * (a' : Int) + (b : Int) by omega, gX_pos (x := 8 * (a' : Int) + (b : Int)) (by omega) (by omega) (by omega), gX_pos (x := 8 * (a' : Int) + (b : Int)) (by omega) (by omega) (by omega), ea']
    rw [fM_moveBy_2, gX_pos (by omega) (by omega) (by omega), (lb a (by omega)).2, c4, gC_pos (x := ((9 + b : Nat) : Int)) (y := 0) (by omega) (by omega) (by omega) (by omega), if_neg (by omega), gX_pos (by omega) (by omega) (by omega), gC_pos (x := ((9 + b : Nat) : Int)) (y := 9) (by omega) (by omega) (by omega) (by omega), if_neg (by omega), show 8 * (a : Int) + ((9 + b : Nat) : Int) - 9 = 8 * (a : Int) + (b : Int) by omega, gX_pos (x := 8 * (a : Int) + (b : Int)) (by omega) (by omega) (by omega), gX_pos (x := 8 * (a : Int) + (b : Int)) (by omega) (by omega) (by omega), mr a b c1 c2, step]
    exact g1
theorem sm_moveBy {Lp W : Nat → Int} {sum : Int} {ok : Nat → Bool} (hB : B ≤ 8) (F : FL 9 B d Lp W m lf lk sum) (hL : ∀ i, i < 9 → Lp i ≤ 100000) (hW : ∀ j, j < B → W j ≤ 100000) (w : WY 9 B ok d m lf X tau) (D : DU 9 B d m lf (fun i => X.1 i) (fun j => X.1 (9 + j))) (mr : mRep B S m) (lb : mLab S X) (lf' : mLf B lf lk S) {s : Nat} (hs : s < B) (ks : 0 < lk s) (xs : X.1 (9 + s) < 1000000) {n : Nat} (hn : 100 ≤ n) : ∃ q S' m' lf2 lk2, fM_moveBy n S (s : Int) = some (q * X.1 (9 + s), S') ∧ 1 ≤ q ∧ FL 9 B d Lp W m' lf2 lk2 (sum + X.1 (9 + s) * q) ∧ DU 9 B d m' lf2 (fun i => X.1 i) (fun j => X.1 (9 + j)) ∧ mRep B S' m' ∧ mLf B lf2 lk2 S' ∧ zA S' 62 (s : Int) = lk s - q ∧ sumTo lk2 B = sumTo lk B - q ∧ frN 61 65 S S' := by
  obtain ⟨mb, lb1, lb2⟩ := FL_bd F hL hW
  obtain ⟨a, a1, a2, a3, a4, a5, a6⟩ := w.2.2 s hs xs
  obtain ⟨k, r, k1, k2⟩ := CH_ex w (tau a) a (Nat.le_refl _) a1 a4
  have k8 : k ≤ 8 := by
    have := ctn_less (f := fun w => decide (tau w < tau a)) (k := 9) a1 (decide_eq_false (by omega))
    omega
  have ks2 := lb2 s hs
  obtain ⟨n, rfl⟩ : ∃ k, n = k + 1 := ⟨n - 1, by omega⟩
  obtain ⟨q1, b1, b2, b3, b4⟩ := sm_move1 hB lb mr mb (s : Int) k a r n (lk s) k2 (by omega) (by omega) (by omega)
  obtain ⟨r1, r2, r3, r4, -⟩ := CH_end k2
  have lr := lb1 r r1
  obtain ⟨q, hq⟩ : ∃ q, min q1 (lf r) = q := ⟨_, rfl⟩
  have ch := CH_mono (show q ≤ q1 by omega) b4
  have ms := mb a s a1 hs
  have go1 : fM_moveBy_1 (n + 1) S (s : Int) (lk s) ((9 + s : Nat) : Int) = some (q1, (r : Int)) := by
    rw [fM_moveBy_1, gX_pos (by omega) (by omega) (by omega), (lb (9 + s) (by omega)).2, a3, gC_pos (x := (a : Int)) (y := 0) (by omega) (by omega) (by omega) (by omega), if_neg (show ¬ (a : Int) < 0 by omega), gX_pos (by omega) (by omega) (by omega), gC_pos (x := (a : Int)) (y := 9) (by omega) (by omega) (by omega) (by omega), if_pos (show (a : Int) < 9 by omega)]
    exact b1
  generalize hS1 : wA (wA S 61 (r : Int) (lf r - q)) 62 (s : Int) (lk s - q) = S1
  have f0 : frN 61 62 S S1 := by rw [← hS1]; exact frN_trans (frN_wA _ _ _ (by omega) (by omega)) (frN_wA _ _ _ (by omega) (by omega))
  have lb0 := mLab_fr f0 (by omega) lb
  have mr0 : mRep B S1 m := fun i j hi hj => (frN_A f0 (by omega) _).trans (mr i j hi hj)
  have lf0 : mLf B (gUp lf r (lf r - q)) (gUp lk s (lk s - q)) S1 := by
    rw [← hS1]
    refine ⟨fun i hi => ?_, fun j hj => ?_⟩
    · rw [zA_2a _ (by omega)]
      by_cases c : i = r
      · rw [if_pos (by omega), c, gUp_s]
      · rw [if_neg (by omega), gUp_o _ _ c]
        exact lf'.1 i hi
    · rw [zA_2b _ (by omega)]
      by_cases c : j = s
      · rw [if_pos (by omega), c, gUp_s]
      · rw [if_neg (by omega), gUp_o _ _ c]
        exact lf'.2 j hj
  have f1 : frN 63 63 S1 (wA S1 63 (8 * (a : Int) + (s : Int)) (m a s + q)) := frN_wA _ _ _ (by omega) (by omega)
  have mr1 : mRep B (wA S1 63 (8 * (a : Int) + (s : Int)) (m a s + q)) (g2 m a s (m a s + q)) := by
    intro i j hi hj
    rw [zA_wA, if_pos rfl]
    show _ = (if i = a ∧ j = s then m a s + q else m i j)
    by_cases k1 : i = a ∧ j = s
    · rw [if_pos (by omega), if_pos k1]
    · rw [if_neg (by omega), if_neg k1]
      exact mr0 i j hi hj
  have n1 : nng 9 B (g2 m a s (m a s + q)) := fun i j hi hj => by
    have := mb i j hi hj
    show 0 ≤ (if i = a ∧ j = s then m a s + q else m i j)
    split <;> omega
  have t1 : tgt 9 B d X (g2 m a s (m a s + q)) := fun i j hi hj hm => by
    have hm : 0 < (if i = a ∧ j = s then m a s + q else m i j) := hm
    by_cases k1 : i = a ∧ j = s
    · rw [k1.1, k1.2]; exact a5
    · rw [if_neg k1] at hm
      exact (D.2.2 i j hi hj).2 hm
  obtain ⟨S2, m', g1, g2', g3, g4⟩ := sm_move2 hB (show 1 ≤ q by omega) (s : Int) k a r n _ _ ch (by omega) (mLab_fr f1 (by omega) lb0) mr1 n1 t1 (fun i j hi hj _ => by
    show _ ≤ (if i = a ∧ j = s then m a s + q else m i j)
    by_cases k1 : i = a ∧ j = s
    · rw [if_pos k1, k1.1, k1.2]; omega
    · rw [if_neg k1]; exact Int.le_refl _)
  have go2 : fM_moveBy_2 (n + 1) S1 (s : Int) q ((9 + s : Nat) : Int) = some S2 := by
    rw [fM_moveBy_2, gX_pos (by omega) (by omega) (by omega), (lb0 (9 + s) (by omega)).2, a3, gC_pos (x := (a : Int)) (y := 0) (by omega) (by omega) (by omega) (by omega), if_neg (show ¬ (a : Int) < 0 by omega), gX_pos (by omega) (by omega) (by omega), gC_pos (x := (a : Int)) (y := 9) (by omega) (by omega) (by omega) (by omega), if_pos (show (a : Int) < 9 by omega), show 8 * (a : Int) + ((9 + s : Nat) : Int) - 9 = 8 * (a : Int) + (s : Int) by omega, gX_pos (x := 8 * (a : Int) + (s : Int)) (by omega) (by omega) (by omega), gX_pos (x := 8 * (a : Int) + (s : Int)) (by omega) (by omega) (by omega), mr0 a s a1 hs]
    exact g1
  obtain ⟨F', D'⟩ := aug F D a1 hs r1 r3 (show 0 ≤ q by omega) (show q ≤ lf r by omega) (show q ≤ lk s by omega) g2'
  have f2 := frN_trans f1 g3
  have lb2' := mLab_fr f2 (by omega) lb0
  have lf2' : mLf B (gUp lf r (lf r - q)) (gUp lk s (lk s - q)) S2 := mLf_fr f2 (by omega) lf0
  refine ⟨q, S2, m', gUp lf r (lf r - q), gUp lk s (lk s - q), ?_, (by omega), F', D', g4, lf2', ?_, ?_, frN_trans (frN_up f0 (by omega) (by omega)) (frN_up f2 (by omega) (by omega))⟩
  · have mn : (gC (lf r) q1 (if lf r < q1 then gX (r : Int) 9 (some (lf r)) else some q1)) = some q := by
      rw [gC_pos (by omega) (by omega) (by omega) (by omega), gX_pos (by omega) (by omega) (by omega)]
      by_cases c : lf r < q1
      · rw [if_pos c]; congr 1; omega
      · rw [if_neg c]; congr 1; omega
    unfold fM_moveBy
    rw [gX_pos (by omega) (by omega) (by omega), show (9 : Int) + (s : Int) = ((9 + s : Nat) : Int) by omega, lf'.2 s hs, go1, Option.bind_some]
    dsimp only
    rw [gX_pos (x := (r : Int)) (by omega) (by omega) (by omega), lf'.1 r r1, mn, Option.bind_some, gX_pos (x := (r : Int)) (by omega) (by omega) (by omega), gX_pos (x := (r : Int)) (by omega) (by omega) (by omega), gX_pos (x := (s : Int)) (by omega) (by omega) (by omega), gX_pos (x := (s : Int)) (by omega) (by omega) (by omega), hS1, go2, Option.bind_some, gX_pos (x := ((9 + s : Nat) : Int)) (by omega) (by omega) (by omega), (lb2' (9 + s) (by omega)).1]
  · rw [lf2'.2 s hs, gUp_s]
  · rw [sumTo_up _ _ hs]
    omega
end MMV
