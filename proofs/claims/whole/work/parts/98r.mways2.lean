/-! ===== the reference finds ways: rounds ===== -/
section MWB
variable {T : TW} {m : Nat → Nat → Int} {lf lk hh ss : Nat → Int}
theorem mRep_fr {lo hi B : Nat} {S S' : ZS} (f : frN lo hi S S') (h1 : 63 < lo) (h : mRep B S m) : mRep B S' m := fun a b ha hb => (frN_A f (by omega) _).trans (h a b ha hb)
theorem sm_f4n (w : wfR T) {a : Nat} (ha : a < 9) (hok : okM T a = false) (f : Bool) : ∀ (j b n : Nat) (S : ZS), b + j = T.2 6 → j < n → mAt S T → fM_findWay_4 n S (bZ f) (a : Int) (b : Int) = some (bZ f, S) := by
  have w6 := w.1
  have hok := of_decide_eq_false hok
  intro j
  induction j with
  | zero =>
    intro b n S h1 h2 hm
    obtain ⟨k, rfl⟩ : ∃ k, n = k + 1 := ⟨n - 1, by omega⟩
    rw [f4_eq, hm.1.1, gC_pos (by omega) (by omega) (by omega) (by omega), if_neg (by omega)]
  | succ j ih =>
    intro b n S h1 h2 hm
    obtain ⟨k, rfl⟩ : ∃ k, n = k + 1 := ⟨n - 1, by omega⟩
    have e1 : disT k S (a : Int) (b : Int) = some 1000000 := by
      unfold disT
      rw [hm.1.1, gC_pos (by omega) (by omega) (by omega) (by omega), if_neg (by omega), gC_pos (x := (a : Int)) (y := 8) (by omega) (by omega) (by omega) (by omega), if_neg (by omega)]
    have e2 : tryA k S (bZ f) (a : Int) (b : Int) 1000000 = some (bZ f, S) := by
      unfold tryA
      rw [gC_pos (x := 1000000) (y := 1000000) (by omega) (by omega) (by omega) (by omega), if_neg (show ¬ (1000000 : Int) < 1000000 by decide)]
    have e3 : tryB k (bZ f, S) (a : Int) (b : Int) 1000000 = some (bZ f, S) := by
      unfold tryB
      rw [gC_pos (x := 1000000) (y := 1000000) (by omega) (by omega) (by omega) (by omega), if_neg (show ¬ (1000000 : Int) < 1000000 by decide)]
    rw [f4_eq, hm.1.1, gC_pos (x := (b : Int)) (y := (T.2 6 : Int)) (by omega) (by omega) (by omega) (by omega), if_pos (by omega), e1, Option.bind_some, e2, Option.bind_some, e3, Option.bind_some]
    exact ih (b + 1) k S (by omega) (by omega) hm
theorem sm_f4 (w : wfR T) {pi : Nat → Int} (p0 : ∀ v, 0 ≤ pi v) (hp : ∀ e, e ∈ LLs 9 (T.2 6) (okM T) (dM T) m → pi e.2.1 ≤ pi e.1 + e.2.2) (mb : ∀ i j, i < 9 → j < T.2 6 → 0 ≤ m i j ∧ m i j ≤ 100000) {a : Nat} (ha : a < 9) (hok : okM T a = true) : ∀ (j b n : Nat) (S : ZS) (X : Lb) (f : Bool), b + j = T.2 6 → j < n → mAt S T → mRep (T.2 6) S m → mLab S X → PB pi X → ∃ S', fM_findWay_4 n S (bZ f) (a : Int) (b : Int) = some (bZ (f || (gRun (rowL (dM T) m a j b) X).1), S') ∧ frN 64 65 S S' ∧ mLab S' (gRun (rowL (dM T) m a j b) X).2 := by
  have w6 := w.1
  have hok' := of_decide_eq_true hok
  intro j
  induction j with
  | zero =>
    intro b n S X f h1 h2 hm mr lb pb
    obtain ⟨k, rfl⟩ : ∃ k, n = k + 1 := ⟨n - 1, by omega⟩
    rw [f4_eq, hm.1.1, gC_pos (by omega) (by omega) (by omega) (by omega), if_neg (by omega)]
    refine ⟨S, ?_, frN_rfl, lb⟩
    show some (bZ f, S) = some (bZ (f || false), S)
    rw [Bool.or_false]
  | succ j ih =>
    intro b n S X f h1 h2 hm mr lb pb
    obtain ⟨k, rfl⟩ : ∃ k, n = k + 1 := ⟨n - 1, by omega⟩
    have hb : b < T.2 6 := (by omega)
    have e1 : disT k S (a : Int) (b : Int) = some (dM T a b) := by
      unfold disT
      rw [hm.1.1, sm_apart hm w hok hb, Option.bind_some, gC_pos (by omega) (by omega) (by omega) (by omega)]
      by_cases c : a < T.2 6
      · rw [if_pos (by omega)]
      · rw [if_neg (by omega), gC_pos (by omega) (by omega) (by omega) (by omega), if_pos (by omega)]
    have db := dM_bd w hok hb
    have hpp : ∀ e, e ∈ prL (dM T) m a b → pi e.2.1 ≤ pi e.1 + e.2.2 := fun e he => hp e (mem_all.mpr ⟨a, b, by omega, by omega, hok, hb, he⟩)
    have xb : ∀ {Y : Lb}, PB pi Y → ∀ v, 0 ≤ Y.1 v ∧ Y.1 v ≤ 1000000 := fun hY v => by
      have h1 := hY v
      have h2 := p0 v
      omega
    obtain ⟨S1, a1, a2, a3⟩ := sm_tryA lb ha (show b < 8 by omega) db.1 db.2 (xb pb) f k
    have pb1 : PB pi (rlx X (a, 9 + b, dM T a b)) := PB_rlx (hpp _ (mem_pr.mpr (Or.inl rfl))) pb
    obtain ⟨S2, b1, b2, b3⟩ := sm_tryB w6 a3 (mRep_fr a2 (by omega) mr) ha hb db.1 db.2 (xb pb1) (mb a b ha hb) (f || cnd X (a, 9 + b, dM T a b)) k
    have pb2 := PB_run (prL (dM T) m a b) X hpp pb
    have f2 := frN_trans a2 b2
    obtain ⟨S', g1, g2, g3⟩ := ih (b + 1) k S2 (gRun (prL (dM T) m a b) X).2 ((f || cnd X (a, 9 + b, dM T a b)) || (gRun (if 0 < m a b then [(9 + b, a, -(dM T a b))] else []) (rlx X (a, 9 + b, dM T a b))).1) (by omega) (by omega) (frN_m f2 (by omega) hm) (mRep_fr f2 (by omega) mr) b3 pb2
    refine ⟨S', ?_, frN_trans f2 g2, ?_⟩
    · rw [f4_eq, hm.1.1, gC_pos (x := (b : Int)) (y := (T.2 6 : Int)) (by omega) (by omega) (by omega) (by omega), if_pos (by omega), e1, Option.bind_some, a1, Option.bind_some, b1, Option.bind_some, rowL, run_app]
      dsimp only
      have eb : (f || ((gRun (prL (dM T) m a b) X).1 || (gRun (rowL (dM T) m a j (b + 1)) (gRun (prL (dM T) m a b) X).2).1)) = (((f || cnd X (a, 9 + b, dM T a b)) || (gRun (if 0 < m a b then [(9 + b, a, -(dM T a b))] else []) (rlx X (a, 9 + b, dM T a b))).1) || (gRun (rowL (dM T) m a j (b + 1)) (gRun (prL (dM T) m a b) X).2).1) := by
        have : (gRun (prL (dM T) m a b) X).1 = (cnd X (a, 9 + b, dM T a b) || (gRun (if 0 < m a b then [(9 + b, a, -(dM T a b))] else []) (rlx X (a, 9 + b, dM T a b))).1) := rfl
        rw [this]
        simp only [Bool.or_assoc]
      rw [eb]
      exact g1
    · rw [rowL, run_app]
      exact g3
theorem sm_f3 (w : wfR T) {pi : Nat → Int} (p0 : ∀ v, 0 ≤ pi v) (hp : ∀ e, e ∈ LLs 9 (T.2 6) (okM T) (dM T) m → pi e.2.1 ≤ pi e.1 + e.2.2) (mb : ∀ i j, i < 9 → j < T.2 6 → 0 ≤ m i j ∧ m i j ≤ 100000) : ∀ (j a n : Nat) (S : ZS) (X : Lb) (f : Bool), a + j = 9 → j + 20 < n → mAt S T → mRep (T.2 6) S m → mLab S X → PB pi X → ∃ S', fM_findWay_3 n S (bZ f) (a : Int) = some (bZ (f || (gRun (allL (okM T) (dM T) m (T.2 6) j a) X).1), S') ∧ frN 64 65 S S' ∧ mLab S' (gRun (allL (okM T) (dM T) m (T.2 6) j a) X).2 := by
  have w6 := w.1
  intro j
  induction j with
  | zero =>
    intro a n S X f h1 h2 hm mr lb pb
    obtain ⟨k, rfl⟩ : ∃ k, n = k + 1 := ⟨n - 1, by omega⟩
    rw [fM_findWay_3, gC_pos (by omega) (by omega) (by omega) (by omega), if_neg (by omega)]
    refine ⟨S, ?_, frN_rfl, lb⟩
    show some (bZ f, S) = some (bZ (f || false), S)
    rw [Bool.or_false]
  | succ j ih =>
    intro a n S X f h1 h2 hm mr lb pb
    obtain ⟨k, rfl⟩ : ∃ k, n = k + 1 := ⟨n - 1, by omega⟩
    rw [fM_findWay_3, gC_pos (by omega) (by omega) (by omega) (by omega), if_pos (by omega), allL]
    by_cases c : okM T a = true
    · obtain ⟨S1, e1, e2, e3⟩ := sm_f4 w p0 hp mb (show a < 9 by omega) c (T.2 6) 0 k S X f (by omega) (by omega) hm mr lb pb
      have pb1 := PB_run (rowL (dM T) m a (T.2 6) 0) X (fun e he => hp e (by
        obtain ⟨b, -, b2, b3⟩ := mem_row.mp he
        exact mem_all.mpr ⟨a, b, by omega, by omega, c, by omega, b3⟩)) pb
      rw [show ((0 : Nat) : Int) = 0 from rfl] at e1
      rw [e1, Option.bind_some, if_pos c, run_app]
      dsimp only
      obtain ⟨S', g1, g2, g3⟩ := ih (a + 1) k S1 (gRun (rowL (dM T) m a (T.2 6) 0) X).2 (f || (gRun (rowL (dM T) m a (T.2 6) 0) X).1) (by omega) (by omega) (frN_m e2 (by omega) hm) (mRep_fr e2 (by omega) mr) e3 pb1
      refine ⟨S', ?_, frN_trans e2 g2, g3⟩
      rw [Bool.or_assoc] at g1
      exact g1
    · have e1 := sm_f4n w (show a < 9 by omega) (ne_b c) f (T.2 6) 0 k S (by omega) (by omega) hm
      rw [show ((0 : Nat) : Int) = 0 from rfl] at e1
      rw [e1, Option.bind_some, if_neg c, List.nil_append]
      exact ih (a + 1) k S X f (by omega) (by omega) hm mr lb pb
theorem sm_f2 (w : wfR T) (hd : dOk 9 (T.2 6) (dM T)) (D : DU 9 (T.2 6) (dM T) m lf hh ss) (mb : ∀ i j, i < 9 → j < T.2 6 → 0 ≤ m i j ∧ m i j ≤ 100000) {K : Nat} (hK : (gRun (LLs 9 (T.2 6) (okM T) (dM T) m) (itr (LLs 9 (T.2 6) (okM T) (dM T) m) K (x0F 9 lf, fun _ => -1))).1 = false) : ∀ (j k n : Nat) (S : ZS) (f : Bool), k + j = K + 1 → j + 60 < n → mAt S T → mRep (T.2 6) S m → mLab S (itr (LLs 9 (T.2 6) (okM T) (dM T) m) k (x0F 9 lf, fun _ => -1)) → (f = true → k ≤ K) → (f = false → (gRun (LLs 9 (T.2 6) (okM T) (dM T) m) (itr (LLs 9 (T.2 6) (okM T) (dM T) m) k (x0F 9 lf, fun _ => -1))).1 = false) → ∃ S', fM_findWay_2 n S (bZ f) = some S' ∧ frN 64 65 S S' ∧ mLab S' (fin (LLs 9 (T.2 6) (okM T) (dM T) m) (x0F 9 lf)) := by
  have hp := LL_p (ok := okM T) (Nat.le_refl 9) D
  have p0 := fun v => (pi_bd (Nat.le_refl 9) D v).1
  have pbk : ∀ k, PB (piF 9 (T.2 6) hh ss) (itr (LLs 9 (T.2 6) (okM T) (dM T) m) k (x0F 9 lf, fun _ => -1)) := by
    intro k
    induction k with
    | zero => exact PB_start (Nat.le_refl 9) D
    | succ k ih => exact PB_run _ _ hp ih
  intro j
  induction j with
  | zero =>
    intro k n S f h1 h2 hm mr lb hf hg
    obtain ⟨n, rfl⟩ : ∃ k, n = k + 1 := ⟨n - 1, by omega⟩
    cases f with
    | true => exact absurd (hf rfl) (by omega)
    | false =>
      rw [fin_of (LL_ne (Nat.le_refl 9)) (LL_a (Nat.le_refl 9) w.1) (LL_b (Nat.le_refl 9) w.1) hp (pi_x0 (Nat.le_refl 9) D) (Or.inr (hg rfl))] at lb
      refine ⟨S, ?_, frN_rfl, lb⟩
      rw [fM_findWay_2, gC_b, if_pos (show bZ false = 0 from rfl)]
  | succ j ih =>
    intro k n S f h1 h2 hm mr lb hf hg
    obtain ⟨n, rfl⟩ : ∃ k, n = k + 1 := ⟨n - 1, by omega⟩
    cases f with
    | false =>
      rw [fin_of (LL_ne (Nat.le_refl 9)) (LL_a (Nat.le_refl 9) w.1) (LL_b (Nat.le_refl 9) w.1) hp (pi_x0 (Nat.le_refl 9) D) (Or.inr (hg rfl))] at lb
      refine ⟨S, ?_, frN_rfl, lb⟩
      rw [fM_findWay_2, gC_b, if_pos (show bZ false = 0 from rfl)]
    | true =>
      obtain ⟨S1, e1, e2, e3⟩ := sm_f3 w p0 hp mb 9 0 n S _ false (by omega) (by omega) hm mr lb (pbk k)
      rw [show ((0 : Nat) : Int) = 0 from rfl, Bool.false_or, show bZ false = 0 from rfl] at e1
      rw [fM_findWay_2, gC_b, if_neg (show ¬ bZ true = 0 by decide), e1, Option.bind_some]
      dsimp only
      obtain ⟨S', g1, g2, g3⟩ := ih (k + 1) n S1 (gRun (LLs 9 (T.2 6) (okM T) (dM T) m) (itr (LLs 9 (T.2 6) (okM T) (dM T) m) k (x0F 9 lf, fun _ => -1))).1 (by omega) (by omega) (frN_m e2 (by omega) hm) (mRep_fr e2 (by omega) mr) e3 (fun hc => by
        by_cases q : K ≤ k
        · have := (itr_fix hK (k - K)).2
          rw [show K + (k - K) = k by omega, hc] at this
          cases this
        · omega) (fun hc => by
        show (gRun (LLs 9 (T.2 6) (okM T) (dM T) m) (gRun (LLs 9 (T.2 6) (okM T) (dM T) m) (itr (LLs 9 (T.2 6) (okM T) (dM T) m) k (x0F 9 lf, fun _ => -1))).2).1 = false
        rw [(run_id _ _ hc).1]
        exact hc)
      exact ⟨S', g1, frN_trans e2 g2, g3⟩
def mLf (B : Nat) (lf lk : Nat → Int) (S : ZS) : Prop := (∀ a : Nat, a < 9 → zA S 61 (a : Int) = lf a) ∧ ∀ b : Nat, b < B → zA S 62 (b : Int) = lk b
theorem mLf_fr {lo hi B : Nat} {S S' : ZS} (f : frN lo hi S S') (h1 : 62 < lo) (h : mLf B lf lk S) : mLf B lf lk S' := ⟨fun a ha => (frN_A f (by omega) _).trans (h.1 a ha), fun b hb => (frN_A f (by omega) _).trans (h.2 b hb)⟩
theorem sm_f1 {B : Nat} (lb : ∀ a, a < 9 → 0 ≤ lf a ∧ lf a ≤ 100000) : ∀ (j a n : Nat) (S : ZS), a + j = 17 → j < n → mLf B lf lk S → (∀ i : Nat, i < a → zA S 64 (i : Int) = x0F 9 lf i ∧ zA S 65 (i : Int) = -1) → ∃ S', fM_findWay_1 n S (a : Int) = some S' ∧ frN 64 65 S S' ∧ mLab S' (x0F 9 lf, fun _ => -1) := by
  intro j
  induction j with
  | zero =>
    intro a n S h1 h2 lf' h
    obtain ⟨k, rfl⟩ : ∃ k, n = k + 1 := ⟨n - 1, by omega⟩
    refine ⟨S, ?_, frN_rfl, fun i hi => h i (by omega)⟩
    rw [fM_findWay_1, gC_pos (by omega) (by omega) (by omega) (by omega), if_neg (by omega)]
  | succ j ih =>
    intro a n S h1 h2 lf' h
    obtain ⟨k, rfl⟩ : ∃ k, n = k + 1 := ⟨n - 1, by omega⟩
    have e : (gC (a : Int) 9 (if (a : Int) < 9 then gX (a : Int) 9 (gC (zA S 61 (a : Int)) 0 (if 0 < (zA S 61 (a : Int)) then some (0 : Int) else some 1000000)) else some 1000000)) = some (x0F 9 lf a) := by
      rw [gC_pos (by omega) (by omega) (by omega) (by omega)]
      unfold x0F
      by_cases c9 : a < 9
      · have := lb a c9
        rw [if_pos (by omega), gX_pos (by omega) (by omega) (by omega), lf'.1 a c9, gC_pos (by omega) (by omega) (by omega) (by omega)]
        by_cases c : 0 < lf a
        · rw [if_pos c, if_pos ⟨c9, c⟩]
        · rw [if_neg c, if_neg (fun z => c z.2)]
      · rw [if_neg (by omega), if_neg (fun z => c9 z.1)]
    rw [fM_findWay_1, gC_pos (x := (a : Int)) (y := 17) (by omega) (by omega) (by omega) (by omega), if_pos (by omega), e, Option.bind_some, gX_pos (by omega) (by omega) (by omega), gX_pos (by omega) (by omega) (by omega)]
    have f1 : frN 64 65 S (wA (wA S 64 (a : Int) (x0F 9 lf a)) 65 (a : Int) (-1)) := frN_trans (frN_wA _ _ _ (by omega) (by omega)) (frN_wA _ _ _ (by omega) (by omega))
    obtain ⟨S', g1, g2, g3⟩ := ih (a + 1) k _ (by omega) (by omega) (mLf_fr f1 (by omega) lf') (fun i hi => by
      rw [zA_2a _ (by omega), zA_2b _ (by omega)]
      by_cases c : i = a
      · rw [if_pos (by omega), if_pos (by omega), c]
        exact ⟨rfl, rfl⟩
      · rw [if_neg (by omega), if_neg (by omega)]
        exact h i (by omega))
    exact ⟨S', g1, frN_trans f1 g2, g3⟩
theorem sm_near1 (w : wfR T) {X : Lb} (xb : ∀ v, 0 ≤ X.1 v ∧ X.1 v ≤ 1000000) (kb : ∀ b, b < T.2 6 → 0 ≤ lk b ∧ lk b ≤ 100000) {S : ZS} (hm : mAt S T) (lb : mLab S X) (lf' : mLf (T.2 6) lf lk S) : ∀ (j b n : Nat) (best : Int), b + j = T.2 6 → j < n → (best = -4 ∧ (∀ i, i < b → ¬ (0 < lk i ∧ X.1 (9 + i) < 1000000)) ∨ ∃ c : Nat, best = (c : Int) ∧ c < T.2 6 ∧ 0 < lk c ∧ X.1 (9 + c) < 1000000) → ∃ best', fM_findWay_5 n S best (b : Int) = some best' ∧ (best' = -4 ∧ (∀ i, i < T.2 6 → ¬ (0 < lk i ∧ X.1 (9 + i) < 1000000)) ∨ ∃ c : Nat, best' = (c : Int) ∧ c < T.2 6 ∧ 0 < lk c ∧ X.1 (9 + c) < 1000000) := by
  have w6 := w.1
  intro j
  induction j with
  | zero =>
    intro b n best h1 h2 h
    obtain ⟨k, rfl⟩ : ∃ k, n = k + 1 := ⟨n - 1, by omega⟩
    refine ⟨best, ?_, h.imp (fun z => ⟨z.1, fun i hi => z.2 i (by omega)⟩) id⟩
    rw [fM_findWay_5, hm.1.1, gC_pos (by omega) (by omega) (by omega) (by omega), if_neg (by omega)]
  | succ j ih =>
    intro b n best h1 h2 h
    obtain ⟨k, rfl⟩ : ∃ k, n = k + 1 := ⟨n - 1, by omega⟩
    have e39 := lf'.2 b (by omega)
    have e40 := (lb (9 + b) (by omega)).1
    have kb' := kb b (by omega)
    have xb' := xb (9 + b)
    rw [fM_findWay_5, hm.1.1, gC_pos (by omega) (by omega) (by omega) (by omega), if_pos (by omega), gX_pos (by omega) (by omega) (by omega), e39, show (9 : Int) + (b : Int) = ((9 + b : Nat) : Int) by omega, e40, gC_pos (x := lk b) (y := 0) (by omega) (by omega) (by omega) (by omega)]
    by_cases c1 : 0 < lk b
    · rw [if_pos c1, gX_pos (by omega) (by omega) (by omega), gC_pos (x := X.1 (9 + b)) (y := 1000000) (by omega) (by omega) (by omega) (by omega)]
      by_cases c2 : X.1 (9 + b) < 1000000
      · rw [if_pos c2]
        rcases h with ⟨rfl, h⟩ | ⟨c, rfl, h3, h4, h5⟩
        · rw [gC_pos (x := -4) (y := 0) (by omega) (by omega) (by omega) (by omega), if_pos (show (-4 : Int) < 0 by decide), Option.bind_some]
          exact ih (b + 1) k _ (by omega) (by omega) (Or.inr ⟨b, rfl, (by omega), c1, c2⟩)
        · have := xb (9 + c)
          rw [gC_pos (x := (c : Int)) (y := 0) (by omega) (by omega) (by omega) (by omega), if_neg (show ¬ (c : Int) < 0 by omega), gX_pos (by omega) (by omega) (by omega), show (9 : Int) + (c : Int) = ((9 + c : Nat) : Int) by omega, gX_pos (x := ((9 + c : Nat) : Int)) (by omega) (by omega) (by omega), (lb (9 + c) (by omega)).1, gC_pos (x := X.1 (9 + b)) (y := X.1 (9 + c)) (by omega) (by omega) (by omega) (by omega)]
          by_cases c3 : X.1 (9 + b) < X.1 (9 + c)
          · rw [if_pos c3, Option.bind_some]
            exact ih (b + 1) k _ (by omega) (by omega) (Or.inr ⟨b, rfl, (by omega), c1, c2⟩)
          · rw [if_neg c3, Option.bind_some]
            exact ih (b + 1) k _ (by omega) (by omega) (Or.inr ⟨c, rfl, h3, h4, h5⟩)
      · rw [if_neg c2, Option.bind_some]
        refine ih (b + 1) k _ (by omega) (by omega) (h.imp (fun z => ⟨z.1, fun i hi => ?_⟩) id)
        by_cases e : i = b
        · rw [e]; exact fun z => c2 z.2
        · exact z.2 i (by omega)
    · rw [if_neg c1, Option.bind_some]
      refine ih (b + 1) k _ (by omega) (by omega) (h.imp (fun z => ⟨z.1, fun i hi => ?_⟩) id)
      by_cases e : i = b
      · rw [e]; exact fun z => c1 z.1
      · exact z.2 i (by omega)
theorem sm_findWay (w : wfR T) (hd : dOk 9 (T.2 6) (dM T)) (D : DU 9 (T.2 6) (dM T) m lf hh ss) (mb : ∀ i j, i < 9 → j < T.2 6 → 0 ≤ m i j ∧ m i j ≤ 100000) (lb : ∀ a, a < 9 → 0 ≤ lf a ∧ lf a ≤ 100000) (kb : ∀ b, b < T.2 6 → 0 ≤ lk b ∧ lk b ≤ 100000) {S : ZS} (hm : mAt S T) (mr : mRep (T.2 6) S m) (lf' : mLf (T.2 6) lf lk S) (xb : ∀ v, 0 ≤ (fin (LLs 9 (T.2 6) (okM T) (dM T) m) (x0F 9 lf)).1 v ∧ (fin (LLs 9 (T.2 6) (okM T) (dM T) m) (x0F 9 lf)).1 v ≤ 1000000) {n : Nat} (hn : 18000000 ≤ n) : ∃ best S', fM_findWay n S = some (best, S') ∧ frN 64 65 S S' ∧ mLab S' (fin (LLs 9 (T.2 6) (okM T) (dM T) m) (x0F 9 lf)) ∧ (best = -4 ∧ (∀ i, i < T.2 6 → ¬ (0 < lk i ∧ (fin (LLs 9 (T.2 6) (okM T) (dM T) m) (x0F 9 lf)).1 (9 + i) < 1000000)) ∨ ∃ c : Nat, best = (c : Int) ∧ c < T.2 6 ∧ 0 < lk c ∧ (fin (LLs 9 (T.2 6) (okM T) (dM T) m) (x0F 9 lf)).1 (9 + c) < 1000000) := by
  have w6 := w.1
  obtain ⟨S1, a1, a2, a3⟩ := sm_f1 lb 17 0 n S (by omega) (by omega) lf' (fun i hi => absurd hi (by omega))
  rw [show ((0 : Nat) : Int) = 0 from rfl] at a1
  have J0 := JJ_start (L := LLs 9 (T.2 6) (okM T) (dM T) m) (pi_x0 (Nat.le_refl 9) D)
  have mu0 : mus (piF 9 (T.2 6) hh ss) (x0F 9 lf, fun _ => -1) ≤ ((17000000 : Nat) : Int) := by
    unfold mus
    have h1 := sumTo_le (f := fun v => x0F 9 lf v - piF 9 (T.2 6) hh ss v) (g := fun _ => 1000000) (k := 17) (fun v _ => by
      have h1 := (pi_bd (Nat.le_refl 9) D v).1
      have h2 : x0F 9 lf v ≤ 1000000 := by unfold x0F; split <;> omega
      show x0F 9 lf v - piF 9 (T.2 6) hh ss v ≤ 1000000
      omega)
    have h2 : sumTo (fun _ => (1000000 : Int)) 17 = 17000000 := by decide
    rw [h2] at h1
    exact h1
  obtain ⟨K, hK1, hK2⟩ := itr_ends (LL_ne (Nat.le_refl 9)) (LL_b (Nat.le_refl 9) w.1) (LL_p (Nat.le_refl 9) D) 17000000 _ _ J0 mu0
  obtain ⟨S2, b1, b2, b3⟩ := sm_f2 w hd D mb hK2 (K + 1) 0 n S1 true (by omega) (by omega) (frN_m a2 (by omega) hm) (mRep_fr a2 (by omega) mr) a3 (fun _ => Nat.zero_le _) (fun h => by cases h)
  rw [show bZ true = 1 from rfl] at b1
  have f2 := frN_trans a2 b2
  obtain ⟨best, g1, g2⟩ := sm_near1 w xb kb (frN_m f2 (by omega) hm) b3 (mLf_fr f2 (by omega) lf') (T.2 6) 0 n (-4) (by omega) (by omega) (Or.inl ⟨rfl, fun i hi => absurd hi (by omega)⟩)
  rw [show ((0 : Nat) : Int) = 0 from rfl] at g1
  refine ⟨best, S2, ?_, f2, b3, g2⟩
  unfold fM_findWay
  rw [a1, Option.bind_some, b1, Option.bind_some, g1, Option.bind_some]
end MWB
