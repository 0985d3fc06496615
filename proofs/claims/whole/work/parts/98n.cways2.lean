/-! ===== the class finds ways: rounds ===== -/
section CWB
variable {A B : Nat} {d m : Nat → Nat → Int} {lf hh ss : Nat → Int}
theorem sc_f5 (hA : A ≤ 9) (hB : B ≤ 8) (hd : dOk A B d) {pi : Nat → Int} (p0 : ∀ v, 0 ≤ pi v) (hp : ∀ e, e ∈ LLs A B (fun _ => true) d m → pi e.2.1 ≤ pi e.1 + e.2.2) (mb : ∀ i j, i < A → j < B → 0 ≤ m i j ∧ m i j ≤ 100000) (l2 : Int) {a : Nat} (ha : a < A) : ∀ (j b n : Nat) (S : ZS) (X : Lb) (f : Bool), b + j = B → j < n → cS A B d m S → clb A B S X → PB pi X → vOk X → ∃ S', fC_findWays_5 n S (bZ f) l2 (a : Int) (b : Int) = some (bZ (f || (gRun (rowL d m a j b) X).1), S') ∧ frL S S' ∧ clb A B S' (gRun (rowL d m a j b) X).2 := by
  intro j
  induction j with
  | zero =>
    intro b n S X f h1 h2 st lb pb vk
    obtain ⟨k, rfl⟩ : ∃ k, n = k + 1 := ⟨n - 1, by omega⟩
    rw [fC_findWays_5, st.2.1, gC_pos (by omega) (by omega) (by omega) (by omega), if_neg (by omega)]
    refine ⟨S, ?_, frL_rfl, lb⟩
    show some (bZ f, S) = some (bZ (f || false), S)
    rw [Bool.or_false]
  | succ j ih =>
    intro b n S X f h1 h2 st lb pb vk
    obtain ⟨k, rfl⟩ : ∃ k, n = k + 1 := ⟨n - 1, by omega⟩
    have hpp : ∀ e, e ∈ prL d m a b → pi e.2.1 ≤ pi e.1 + e.2.2 := fun e he => hp e (mem_all.mpr ⟨a, b, by omega, by omega, rfl, by omega, he⟩)
    obtain ⟨S1, e1, e2, e3⟩ := sc_shorten st lb vk hA hB hd p0 pb ha (show b < B by omega) hpp mb k
    have pb1 := PB_run (prL d m a b) X hpp pb
    have vk1 := vOk_run (prL d m a b) X (fun e he => LL_a (ok := fun _ => true) (d := d) (m := m) hA hB e (mem_all.mpr ⟨a, b, by omega, by omega, rfl, by omega, he⟩)) vk
    rw [fC_findWays_5, st.2.1, gC_pos (by omega) (by omega) (by omega) (by omega), if_pos (by omega), e1, Option.bind_some, rowL, run_app]
    dsimp only
    rw [gC_b]
    cases c : (gRun (prL d m a b) X).1 with
    | true =>
      obtain ⟨S', g1, g2, g3⟩ := ih (b + 1) k S1 (gRun (prL d m a b) X).2 true (by omega) (by omega) (cS_fr e2 st) e3 pb1 vk1
      rw [if_neg (show ¬ bZ true = 0 by decide)]
      refine ⟨S', ?_, frL_trans e2 g2, g3⟩
      rw [Bool.true_or, Bool.or_true]
      rw [Bool.true_or] at g1
      exact g1
    | false =>
      obtain ⟨S', g1, g2, g3⟩ := ih (b + 1) k S1 (gRun (prL d m a b) X).2 f (by omega) (by omega) (cS_fr e2 st) e3 pb1 vk1
      rw [if_pos (show bZ false = 0 from rfl)]
      refine ⟨S', ?_, frL_trans e2 g2, g3⟩
      rw [Bool.false_or]
      exact g1
theorem sc_f4 (hA : A ≤ 9) (hB : B ≤ 8) (hd : dOk A B d) {pi : Nat → Int} (p0 : ∀ v, 0 ≤ pi v) (hp : ∀ e, e ∈ LLs A B (fun _ => true) d m → pi e.2.1 ≤ pi e.1 + e.2.2) (mb : ∀ i j, i < A → j < B → 0 ≤ m i j ∧ m i j ≤ 100000) (l2 : Int) : ∀ (j a n : Nat) (S : ZS) (X : Lb) (f : Bool), a + j = A → j + 20 < n → cS A B d m S → clb A B S X → PB pi X → vOk X → ∃ S', fC_findWays_4 n S (bZ f) l2 (a : Int) = some (bZ (f || (gRun (allL (fun _ => true) d m B j a) X).1), S') ∧ frL S S' ∧ clb A B S' (gRun (allL (fun _ => true) d m B j a) X).2 := by
  intro j
  induction j with
  | zero =>
    intro a n S X f h1 h2 st lb pb vk
    obtain ⟨k, rfl⟩ : ∃ k, n = k + 1 := ⟨n - 1, by omega⟩
    rw [fC_findWays_4, st.1, gC_pos (by omega) (by omega) (by omega) (by omega), if_neg (by omega)]
    refine ⟨S, ?_, frL_rfl, lb⟩
    show some (bZ f, S) = some (bZ (f || false), S)
    rw [Bool.or_false]
  | succ j ih =>
    intro a n S X f h1 h2 st lb pb vk
    obtain ⟨k, rfl⟩ : ∃ k, n = k + 1 := ⟨n - 1, by omega⟩
    obtain ⟨S1, e1, e2, e3⟩ := sc_f5 hA hB hd p0 hp mb l2 (show a < A by omega) B 0 k S X f (by omega) (by omega) st lb pb vk
    have pb1 := PB_run (rowL d m a B 0) X (fun e he => hp e (by
      obtain ⟨b, -, b2, b3⟩ := mem_row.mp he
      exact mem_all.mpr ⟨a, b, by omega, by omega, rfl, by omega, b3⟩)) pb
    have vk1 := vOk_run (rowL d m a B 0) X (fun e he => LL_a (ok := fun _ => true) (d := d) (m := m) hA hB e (by
      obtain ⟨b, -, b2, b3⟩ := mem_row.mp he
      exact mem_all.mpr ⟨a, b, by omega, by omega, rfl, by omega, b3⟩)) vk
    rw [show ((0 : Nat) : Int) = 0 from rfl] at e1
    rw [fC_findWays_4, st.1, gC_pos (by omega) (by omega) (by omega) (by omega), if_pos (by omega), e1, Option.bind_some, allL, if_pos rfl, run_app]
    dsimp only
    obtain ⟨S', g1, g2, g3⟩ := ih (a + 1) k S1 (gRun (rowL d m a B 0) X).2 (f || (gRun (rowL d m a B 0) X).1) (by omega) (by omega) (cS_fr e2 st) e3 pb1 vk1
    refine ⟨S', ?_, frL_trans e2 g2, g3⟩
    rw [Bool.or_assoc] at g1
    exact g1
theorem sc_f3 (hA : A ≤ 9) (hB : B ≤ 8) (hd : dOk A B d) (D : DU A B d m lf hh ss) (mb : ∀ i j, i < A → j < B → 0 ≤ m i j ∧ m i j ≤ 100000) : ∀ (j k n : Nat) (S : ZS) (f : Bool), k + j = 17 → j + 60 < n → cS A B d m S → clb A B S (itr (LLs A B (fun _ => true) d m) k (x0F A lf, fun _ => -1)) → (f = false → (gRun (LLs A B (fun _ => true) d m) (itr (LLs A B (fun _ => true) d m) k (x0F A lf, fun _ => -1))).1 = false) → ∃ S', fC_findWays_3 n S (bZ f) (k : Int) = some S' ∧ frL S S' ∧ clb A B S' (fin (LLs A B (fun _ => true) d m) (x0F A lf)) := by
  have hp := LL_p (ok := fun _ => true) hA D
  have p0 := fun v => (pi_bd hA D v).1
  have pbk : ∀ k, PB (piF A B hh ss) (itr (LLs A B (fun _ => true) d m) k (x0F A lf, fun _ => -1)) := by
    intro k
    induction k with
    | zero => exact PB_start hA D
    | succ k ih => exact PB_run _ _ hp ih
  intro j
  induction j with
  | zero =>
    intro k n S f h1 h2 st lb hf
    obtain ⟨n, rfl⟩ : ∃ k, n = k + 1 := ⟨n - 1, by omega⟩
    obtain rfl : k = 17 := by omega
    refine ⟨S, ?_, frL_rfl, lb⟩
    rw [fC_findWays_3, gC_pos (by omega) (by omega) (by omega) (by omega), if_neg (by omega)]
  | succ j ih =>
    intro k n S f h1 h2 st lb hf
    obtain ⟨n, rfl⟩ : ∃ k, n = k + 1 := ⟨n - 1, by omega⟩
    rw [fC_findWays_3, gC_pos (x := (k : Int)) (y := 17) (by omega) (by omega) (by omega) (by omega), if_pos (by omega), gC_b]
    cases f with
    | false =>
      rw [if_pos (show bZ false = 0 from rfl)]
      rw [fin_of (LL_ne hA) (LL_a hA hB) (LL_b hA hB) hp (pi_x0 hA D) (Or.inr (hf rfl))] at lb
      exact ⟨S, rfl, frL_rfl, lb⟩
    | true =>
      obtain ⟨S1, e1, e2, e3⟩ := sc_f4 hA hB hd p0 hp mb (k : Int) A 0 n S _ false (by omega) (by omega) st lb (pbk k) (vOk_itr (LL_a hA hB) k _ (vOk_start hA))
      rw [show ((0 : Nat) : Int) = 0 from rfl, Bool.false_or, show bZ false = 0 from rfl] at e1
      rw [if_neg (show ¬ bZ true = 0 by decide), e1, Option.bind_some]
      dsimp only
      obtain ⟨S', g1, g2, g3⟩ := ih (k + 1) n S1 (gRun (LLs A B (fun _ => true) d m) (itr (LLs A B (fun _ => true) d m) k (x0F A lf, fun _ => -1))).1 (by omega) (by omega) (cS_fr e2 st) e3 (fun hc => by
        show (gRun (LLs A B (fun _ => true) d m) (gRun (LLs A B (fun _ => true) d m) (itr (LLs A B (fun _ => true) d m) k (x0F A lf, fun _ => -1))).2).1 = false
        rw [(run_id _ _ hc).1]
        exact hc)
      exact ⟨S', g1, frL_trans e2 g2, g3⟩
def cLf (A B : Nat) (lf lk : Nat → Int) (S : ZS) : Prop := (∀ a : Nat, a < A → zA S 35 (a : Int) = lf a) ∧ ∀ b : Nat, b < B → zA S 39 (b : Int) = lk b
theorem cLf_fr {lk : Nat → Int} {S S' : ZS} (f : frL S S') (h : cLf A B lf lk S) : cLf A B lf lk S' := ⟨fun a ha => (frL_A f (by omega) (by omega) (by omega) (by omega) _).trans (h.1 a ha), fun b hb => (frL_A f (by omega) (by omega) (by omega) (by omega) _).trans (h.2 b hb)⟩
theorem sc_f1 (hA : A ≤ 9) {lk : Nat → Int} (lb : ∀ a, a < A → 0 ≤ lf a ∧ lf a ≤ 100000) : ∀ (j a n : Nat) (S : ZS), a + j = A → j < n → cS A B d m S → cLf A B lf lk S → (∀ i : Nat, i < a → zA S 36 (i : Int) = x0F A lf i ∧ zA S 37 (i : Int) = -1) → ∃ S', fC_findWays_1 n S (a : Int) = some S' ∧ frL S S' ∧ ∀ i : Nat, i < A → zA S' 36 (i : Int) = x0F A lf i ∧ zA S' 37 (i : Int) = -1 := by
  intro j
  induction j with
  | zero =>
    intro a n S h1 h2 st lf' h
    obtain ⟨k, rfl⟩ : ∃ k, n = k + 1 := ⟨n - 1, by omega⟩
    refine ⟨S, ?_, frL_rfl, fun i hi => h i (by omega)⟩
    rw [fC_findWays_1, st.1, gC_pos (by omega) (by omega) (by omega) (by omega), if_neg (by omega)]
  | succ j ih =>
    intro a n S h1 h2 st lf' h
    obtain ⟨k, rfl⟩ : ∃ k, n = k + 1 := ⟨n - 1, by omega⟩
    have := lb a (by omega)
    have e : (gC (zA S 35 (a : Int)) 0 (if 0 < zA S 35 (a : Int) then some (0 : Int) else some 1000000)) = some (x0F A lf a) := by
      rw [lf'.1 a (by omega), gC_pos (by omega) (by omega) (by omega) (by omega)]
      unfold x0F
      by_cases c : 0 < lf a
      · rw [if_pos c, if_pos ⟨by omega, c⟩]
      · rw [if_neg c, if_neg (fun z => c z.2)]
    rw [fC_findWays_1, st.1, gC_pos (by omega) (by omega) (by omega) (by omega), if_pos (by omega), gX_pos (by omega) (by omega) (by omega), e, Option.bind_some, gX_pos (by omega) (by omega) (by omega), gX_pos (by omega) (by omega) (by omega)]
    have f1 : frL S (wA (wA S 36 (a : Int) (x0F A lf a)) 37 (a : Int) (-1)) := frL_trans (frL_wA _ _ _ (by omega)) (frL_wA _ _ _ (by omega))
    obtain ⟨S', g1, g2, g3⟩ := ih (a + 1) k _ (by omega) (by omega) (cS_fr f1 st) (cLf_fr f1 lf') (fun i hi => by
      rw [zA_2a _ (by omega), zA_2b _ (by omega)]
      by_cases c : i = a
      · rw [if_pos (by omega), if_pos (by omega), c]
        exact ⟨rfl, rfl⟩
      · rw [if_neg (by omega), if_neg (by omega)]
        exact h i (by omega))
    exact ⟨S', g1, frL_trans f1 g2, g3⟩
theorem sc_f2 (hB : B ≤ 8) {P : Nat → Int} : ∀ (j b n : Nat) (S : ZS), b + j = B → j < n → cS A B d m S → (∀ i : Nat, i < b → zA S 40 (i : Int) = 1000000 ∧ zA S 41 (i : Int) = -1) → (∀ i : Nat, i < A → zA S 36 (i : Int) = P i ∧ zA S 37 (i : Int) = -1) → ∃ S', fC_findWays_2 n S (b : Int) = some S' ∧ frL S S' ∧ (∀ i : Nat, i < B → zA S' 40 (i : Int) = 1000000 ∧ zA S' 41 (i : Int) = -1) ∧ ∀ i : Nat, i < A → zA S' 36 (i : Int) = P i ∧ zA S' 37 (i : Int) = -1 := by
  intro j
  induction j with
  | zero =>
    intro b n S h1 h2 st h hP
    obtain ⟨k, rfl⟩ : ∃ k, n = k + 1 := ⟨n - 1, by omega⟩
    refine ⟨S, ?_, frL_rfl, fun i hi => h i (by omega), hP⟩
    rw [fC_findWays_2, st.2.1, gC_pos (by omega) (by omega) (by omega) (by omega), if_neg (by omega)]
  | succ j ih =>
    intro b n S h1 h2 st h hP
    obtain ⟨k, rfl⟩ : ∃ k, n = k + 1 := ⟨n - 1, by omega⟩
    rw [fC_findWays_2, st.2.1, gC_pos (by omega) (by omega) (by omega) (by omega), if_pos (by omega), gX_pos (by omega) (by omega) (by omega), gX_pos (by omega) (by omega) (by omega)]
    have f1 : frL S (wA (wA S 40 (b : Int) 1000000) 41 (b : Int) (-1)) := frL_trans (frL_wA _ _ _ (by omega)) (frL_wA _ _ _ (by omega))
    obtain ⟨S', g1, g2, g3⟩ := ih (b + 1) k _ (by omega) (by omega) (cS_fr f1 st) (fun i hi => by
      rw [zA_2a _ (by omega), zA_2b _ (by omega)]
      by_cases c : i = b
      · rw [if_pos (by omega), if_pos (by omega)]
        exact ⟨rfl, rfl⟩
      · rw [if_neg (by omega), if_neg (by omega)]
        exact h i (by omega)) (fun i hi => by
      rw [zA_wA, if_neg (by omega), zA_wA, if_neg (by omega), zA_wA, if_neg (by omega), zA_wA, if_neg (by omega)]
      exact hP i hi)
    exact ⟨S', g1, frL_trans f1 g2, g3⟩
theorem sc_findWays (hA : A ≤ 9) (hB : B ≤ 8) (hd : dOk A B d) (D : DU A B d m lf hh ss) {lk : Nat → Int} (mb : ∀ i j, i < A → j < B → 0 ≤ m i j ∧ m i j ≤ 100000) (lb : ∀ a, a < A → 0 ≤ lf a ∧ lf a ≤ 100000) {S : ZS} (st : cS A B d m S) (lf' : cLf A B lf lk S) {n : Nat} (hn : 100 ≤ n) : ∃ S', fC_findWays n S = some S' ∧ frL S S' ∧ clb A B S' (fin (LLs A B (fun _ => true) d m) (x0F A lf)) := by
  obtain ⟨S1, a1, a2, a3⟩ := sc_f1 hA lb A 0 n S (by omega) (by omega) st lf' (fun i hi => absurd hi (by omega))
  obtain ⟨S2, b1, b2, b3, b4⟩ := sc_f2 hB B 0 n S1 (by omega) (by omega) (cS_fr a2 st) (fun i hi => absurd hi (by omega)) a3
  have c0 : clb A B S2 (x0F A lf, fun _ => -1) := ⟨fun a ha => ⟨(b4 a ha).1, Or.inl ⟨rfl, (b4 a ha).2⟩⟩, fun b hb => ⟨by rw [(b3 b hb).1]; exact (if_neg (fun z => by omega)).symm, (b3 b hb).2⟩⟩
  obtain ⟨S3, c1, c2, c3⟩ := sc_f3 hA hB hd D mb 17 0 n S2 true (by omega) (by omega) (cS_fr b2 (cS_fr a2 st)) c0 (fun h => by cases h)
  refine ⟨S3, ?_, frL_trans a2 (frL_trans b2 c2), c3⟩
  rw [show ((0 : Nat) : Int) = 0 from rfl] at a1 b1 c1
  rw [show bZ true = 1 from rfl] at c1
  unfold fC_findWays
  rw [a1, Option.bind_some, b1, Option.bind_some, c1, Option.bind_some]
theorem sc_near1 (hA : A ≤ 9) (hB : B ≤ 8) {X : Lb} {lk : Nat → Int} (xb : ∀ v, 0 ≤ X.1 v ∧ X.1 v ≤ 1000000) (kb : ∀ b, b < B → 0 ≤ lk b ∧ lk b ≤ 100000) {S : ZS} (st : cS A B d m S) (lb : clb A B S X) (vk : vOk X) (lf' : cLf A B lf lk S) : ∀ (j b n : Nat) (best : Int), b + j = B → j < n → (best = -1 ∧ (∀ i, i < b → ¬ (0 < lk i ∧ X.1 (9 + i) < 1000000)) ∨ ∃ c : Nat, best = (c : Int) ∧ c < B ∧ 0 < lk c ∧ X.1 (9 + c) < 1000000) → ∃ best', fC_nearestSite_1 n S best (b : Int) = some best' ∧ (best' = -1 ∧ (∀ i, i < B → ¬ (0 < lk i ∧ X.1 (9 + i) < 1000000)) ∨ ∃ c : Nat, best' = (c : Int) ∧ c < B ∧ 0 < lk c ∧ X.1 (9 + c) < 1000000) := by
  intro j
  induction j with
  | zero =>
    intro b n best h1 h2 h
    obtain ⟨k, rfl⟩ : ∃ k, n = k + 1 := ⟨n - 1, by omega⟩
    refine ⟨best, ?_, h.imp (fun z => ⟨z.1, fun i hi => z.2 i (by omega)⟩) id⟩
    rw [fC_nearestSite_1, st.2.1, gC_pos (by omega) (by omega) (by omega) (by omega), if_neg (by omega)]
  | succ j ih =>
    intro b n best h1 h2 h
    obtain ⟨k, rfl⟩ : ∃ k, n = k + 1 := ⟨n - 1, by omega⟩
    have e39 := lf'.2 b (by omega)
    have e40 := (lb.2 b (by omega)).1
    have kb' := kb b (by omega)
    have xb' := xb (9 + b)
    have e41 := (lb.2 b (by omega)).2
    have v9 := vk (9 + b) (by omega)
    rw [fC_nearestSite_1, st.2.1, gC_pos (by omega) (by omega) (by omega) (by omega), if_pos (by omega), gX_pos (by omega) (by omega) (by omega), e39, e40, e41, gC_pos (x := lk b) (y := 0) (by omega) (by omega) (by omega) (by omega)]
    by_cases c1 : 0 < lk b
    · rw [if_pos c1, gX_pos (by omega) (by omega) (by omega), gC_pos (x := X.2 (9 + b)) (y := 0) (by omega) (by omega) (by omega) (by omega)]
      by_cases c2 : X.1 (9 + b) < 1000000
      · rw [if_neg (show ¬ X.2 (9 + b) < 0 by omega)]
        rcases h with ⟨rfl, h⟩ | ⟨c, rfl, h3, h4, h5⟩
        · rw [gC_pos (x := -1) (y := 0) (by omega) (by omega) (by omega) (by omega), if_pos (show (-1 : Int) < 0 by decide), Option.bind_some]
          exact ih (b + 1) k _ (by omega) (by omega) (Or.inr ⟨b, rfl, (by omega), c1, c2⟩)
        · have := xb (9 + c)
          rw [gC_pos (x := (c : Int)) (y := 0) (by omega) (by omega) (by omega) (by omega), if_neg (show ¬ (c : Int) < 0 by omega), gX_pos (by omega) (by omega) (by omega), gX_pos (x := (c : Int)) (by omega) (by omega) (by omega), (lb.2 c h3).1, gC_pos (x := X.1 (9 + b)) (y := X.1 (9 + c)) (by omega) (by omega) (by omega) (by omega)]
          by_cases c3 : X.1 (9 + b) < X.1 (9 + c)
          · rw [if_pos c3, Option.bind_some]
            exact ih (b + 1) k _ (by omega) (by omega) (Or.inr ⟨b, rfl, (by omega), c1, c2⟩)
          · rw [if_neg c3, Option.bind_some]
            exact ih (b + 1) k _ (by omega) (by omega) (Or.inr ⟨c, rfl, h3, h4, h5⟩)
      · rw [if_pos (show X.2 (9 + b) < 0 by omega), Option.bind_some]
        refine ih (b + 1) k _ (by omega) (by omega) (h.imp (fun z => ⟨z.1, fun i hi => ?_⟩) id)
        by_cases e : i = b
        · rw [e]; exact fun z => c2 z.2
        · exact z.2 i (by omega)
    · rw [if_neg c1, Option.bind_some]
      refine ih (b + 1) k _ (by omega) (by omega) (h.imp (fun z => ⟨z.1, fun i hi => ?_⟩) id)
      by_cases e : i = b
      · rw [e]; exact fun z => c1 z.1
      · exact z.2 i (by omega)
end CWB
