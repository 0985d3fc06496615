/-! ===== builders: the reference's weeks of one; build ===== -/
section BW
variable {S : ZS} {T : TW} {od : Nat → Nat}
theorem sm_oneD (hm : mAt S T) (w : wfT T) (hO : ∀ i : Nat, i < T.2 6 → zA S 66 (i : Int) = (od i : Int) ∧ od i < T.2 6) {n : Nat} (hn : 100 ≤ n) : fM_buildBy n S 1 0 = match pkD T od with
    | some q => some (1, dwS S T q.1 q.2)
    | none => some (0, S) := by
  have w6 := w.1.1
  have hq := pw_le w6
  have h8 := w.2.1.1
  have h9 := w.2.1.2.1
  have inner : ∀ a, a < T.2 6 → ∀ n, 60 ≤ n → fM_buildBy_2 n S 1 0 (a : Int) (if (dnS T).testBit (od a) = true then ((2 ^ od a : Nat) : Int) else 0) 0 = if pdB T od a = true then some (.inl (1, dwS S T (2 ^ od a) 0)) else some (.inr ()) := by
    intro a ha n hn
    have oa := (hO a ha).2
    have pa : 2 ^ od a < 2 ^ T.2 6 := Nat.pow_lt_pow_of_lt (by omega) oa
    have hp1 := pw_pos (od a)
    obtain ⟨k, rfl⟩ : ∃ k, n = k + 1 + 1 := ⟨n - 2, by omega⟩
    have last : ∀ g, fM_buildBy_2 (k + 1) S 1 0 (a : Int) g (0 + 1) = some (.inr ()) := by
      intro g
      rw [fM_buildBy_2, gC_pos (x := 0) (y := 0) (by omega) (by omega) (by omega) (by omega), if_pos rfl, Option.bind_some, gC_pos (by omega) (by omega) (by omega) (by omega), if_neg (by omega)]
    rw [fM_buildBy_2, gC_pos (x := 0) (y := 0) (by omega) (by omega) (by omega) (by omega), if_pos rfl, Option.bind_some, gC_pos (x := 0) (y := 1) (by omega) (by omega) (by omega) (by omega), if_pos (by omega), gC_pos (x := 0) (y := 0) (by omega) (by omega) (by omega) (by omega), if_pos rfl, Option.bind_some]
    unfold pdB
    cases h1 : (dnS T).testBit (od a) with
    | false =>
      rw [if_neg (show ¬ false = true by decide), gC_pos (x := 0) (y := 0) (by omega) (by omega) (by omega) (by omega), if_pos rfl, Option.bind_some, gC_pos (x := 0) (y := 1) (by omega) (by omega) (by omega) (by omega), if_neg (by omega), last]
      rfl
    | true =>
      obtain ⟨k1, -, -, -⟩ := nDf_2p h1
      have el := sm_law (n := k + 1) hm w pa (c := 0) (pw_pos _) k1 (Nat.zero_and _) (by omega)
      have ed := sm_doWeek (n := k + 1) hm w pa (c := 0) (pw_pos _) (by omega)
      have el : fM_isLawful (k + 1) S (zF S 49 2) (zF S 49 4) ((2 ^ od a : Nat) : Int) 0 = _ := el
      have ed : fM_doWeek (k + 1) S ((2 ^ od a : Nat) : Int) 0 = _ := ed
      rw [if_pos rfl, gC_pos (x := ((2 ^ od a : Nat) : Int)) (y := 0) (by omega) (by omega) (by omega) (by omega), if_neg (by omega), Option.bind_some, gC_pos (x := 1) (y := 1) (by omega) (by omega) (by omega) (by omega), if_pos rfl, gC_pos (x := 0) (y := 0) (by omega) (by omega) (by omega) (by omega), if_pos rfl, Option.bind_some, gC_pos (x := 0) (y := 0) (by omega) (by omega) (by omega) (by omega), if_pos rfl, el, Option.bind_some, gC_b]
      cases h3 : lawB T (2 ^ od a) 0 with
      | false => rw [if_pos (show bZ false = 0 from rfl), last]; rfl
      | true =>
        rw [if_neg (show ¬ bZ true = 0 by decide), ed, Option.bind_some, gB_1]
        rfl
  have outer : ∀ n a : Nat, a < T.2 6 → 60 ≤ n → fM_buildBy_1 (n + 1) S 1 0 (a : Int) = if pdB T od a = true then some (.inl (1, dwS S T (2 ^ od a) 0)) else fM_buildBy_1 n S 1 0 ((a : Int) + 1) := by
    intro n a ha hn
    have oa := (hO a ha).2
    rw [fM_buildBy_1, gC_pos (x := 1) (y := 0) (by omega) (by omega) (by omega) (by omega), if_neg (by omega), Option.bind_some, hm.1.1, gC_pos (by omega) (by omega) (by omega) (by omega), if_pos (by omega), gC_pos (x := 1) (y := 0) (by omega) (by omega) (by omega) (by omega), if_neg (by omega), gX_pos (by omega) (by omega) (by omega), (hO a ha).1, hm.1.2.2.2.1, hm.1.2.2.1, goZ (by omega) (by omega) (by omega), Option.bind_some, show nDf (T.2 8) (T.2 9) = dnS T from rfl, inner a ha n (by omega)]
    by_cases c : pdB T od a = true
    · rw [if_pos c, if_pos c]; rfl
    · rw [if_neg c, if_neg c]; rfl
  have e := loop_ex (F := fun n (_ : Unit) p => fM_buildBy_1 n S 1 0 p) (fun _ => ()) (T.2 6) 60 (pdB T od) (fun a => some (.inl (1, dwS S T (2 ^ od a) 0))) (res := some (.inr ())) ?_ ?_ ?_ n (by omega)
  · unfold fM_buildBy pkD
    rw [show fM_buildBy_1 n S 1 0 0 = _ from e]
    cases firstTo (pdB T od) (T.2 6) with
    | none => exact gB_0
    | some a => rfl
  · intro n a ha hn hc
    refine (outer n a ha hn).trans ?_
    rw [if_neg (by rw [hc]; decide)]
  · intro n a ha hn hc _
    refine (outer n a ha hn).trans ?_
    rw [if_pos hc]
  · intro n _ _
    show fM_buildBy_1 (n + 1) S 1 0 (T.2 6 : Int) = _
    rw [fM_buildBy_1, gC_pos (x := 1) (y := 0) (by omega) (by omega) (by omega) (by omega), if_neg (by omega), Option.bind_some, hm.1.1, gC_pos (by omega) (by omega) (by omega) (by omega), if_neg (by omega)]
theorem sm_oneU (hm : mAt S T) (w : wfT T) (hO : ∀ i : Nat, i < T.2 6 → zA S 66 (i : Int) = (od i : Int) ∧ od i < T.2 6) {n : Nat} (hn : 100 ≤ n) : fM_buildBy n S 0 1 = match pkU T od with
    | some q => some (1, dwS S T q.1 q.2)
    | none => some (0, S) := by
  have w6 := w.1.1
  have hq := pw_le w6
  have h8 := w.2.1.1
  have h9 := w.2.1.2.1
  have step : ∀ n b : Nat, b < T.2 6 → 30 ≤ n → fM_buildBy_2 (n + 1) S 0 1 0 0 (b : Int) = if puB T od b = true then some (.inl (1, dwS S T 0 (2 ^ od b))) else fM_buildBy_2 n S 0 1 0 0 ((b : Int) + 1) := by
    intro n b hb hn
    have ob := (hO b hb).2
    have pb : 2 ^ od b < 2 ^ T.2 6 := Nat.pow_lt_pow_of_lt (by omega) ob
    have hp2 := pw_pos (od b)
    have el := sm_law (n := n) hm w (g := 0) (c := 2 ^ od b) (pw_pos _) pb (by unfold nDf; simp)
    have ed := sm_doWeek (n := n) hm w (g := 0) (pw_pos _) pb (by omega)
    have ed : fM_doWeek n S 0 ((2 ^ od b : Nat) : Int) = _ := ed
    rw [fM_buildBy_2, gC_pos (x := 1) (y := 0) (by omega) (by omega) (by omega) (by omega), if_neg (by omega), Option.bind_some, hm.1.1, gC_pos (by omega) (by omega) (by omega) (by omega), if_pos (by omega), gC_pos (x := 1) (y := 0) (by omega) (by omega) (by omega) (by omega), if_neg (by omega), gX_pos (by omega) (by omega) (by omega), (hO b hb).1, hm.1.2.2.2.1, hm.1.2.2.1, goZ (by omega) (by omega) (by omega), Option.bind_some, show nDf (T.2 9) (T.2 8) = upS T from rfl, gC_pos (x := 0) (y := 0) (by omega) (by omega) (by omega) (by omega), if_pos rfl, Option.bind_some, gC_pos (x := 0) (y := 0) (by omega) (by omega) (by omega) (by omega), if_pos rfl]
    unfold puB
    cases h2 : (upS T).testBit (od b) with
    | false =>
      rw [if_neg (show ¬ false = true by decide), gC_pos (x := 0) (y := 0) (by omega) (by omega) (by omega) (by omega), if_pos rfl, Option.bind_some, gC_pos (by omega) (by omega) (by omega) (by omega), if_neg (by omega)]
      rfl
    | true =>
      obtain ⟨-, k2, -, -⟩ := nDf_2p h2
      have el := el k2 (by omega)
      rw [hm.1.2.2.1] at el
      have el : fM_isLawful n S (T.2 8 : Int) (zF S 49 4) 0 ((2 ^ od b : Nat) : Int) = _ := el
      rw [if_pos rfl, gC_pos (by omega) (by omega) (by omega) (by omega), if_neg (by omega), Option.bind_some, gC_pos (by omega) (by omega) (by omega) (by omega), if_pos rfl, el, Option.bind_some, gC_b]
      cases h3 : lawB T 0 (2 ^ od b) with
      | false => rw [if_pos (show bZ false = 0 from rfl)]; rfl
      | true =>
        rw [if_neg (show ¬ bZ true = 0 by decide), ed, Option.bind_some, gB_1]
        rfl
  have inner : ∀ n, 60 ≤ n → fM_buildBy_2 n S 0 1 0 0 0 = match firstTo (puB T od) (T.2 6) with
      | some b => some (.inl (1, dwS S T 0 (2 ^ od b)))
      | none => some (.inr ()) := by
    intro n hn
    refine loop_ex (F := fun n (_ : Unit) p => fM_buildBy_2 n S 0 1 0 0 p) (fun _ => ()) (T.2 6) 30 (puB T od) (fun b => some (.inl (1, dwS S T 0 (2 ^ od b)))) (res := some (.inr ())) ?_ ?_ ?_ n (by omega)
    · intro n b hb hn hc
      refine (step n b hb hn).trans ?_
      rw [if_neg (by rw [hc]; decide)]
    · intro n b hb hn hc _
      refine (step n b hb hn).trans ?_
      rw [if_pos hc]
    · intro n _ _
      show fM_buildBy_2 (n + 1) S 0 1 0 0 (T.2 6 : Int) = _
      rw [fM_buildBy_2, gC_pos (x := 1) (y := 0) (by omega) (by omega) (by omega) (by omega), if_neg (by omega), Option.bind_some, hm.1.1, gC_pos (by omega) (by omega) (by omega) (by omega), if_neg (by omega)]
  unfold fM_buildBy pkU
  obtain ⟨k, rfl⟩ : ∃ k, n = k + 1 + 1 := ⟨n - 2, by omega⟩
  have last : fM_buildBy_1 (k + 1) S 0 1 (0 + 1) = some (.inr ()) := by
    rw [fM_buildBy_1, gC_pos (x := 0) (y := 0) (by omega) (by omega) (by omega) (by omega), if_pos rfl, Option.bind_some, gC_pos (by omega) (by omega) (by omega) (by omega), if_neg (by omega)]
  rw [fM_buildBy_1, gC_pos (x := 0) (y := 0) (by omega) (by omega) (by omega) (by omega), if_pos rfl, Option.bind_some, gC_pos (x := 0) (y := 1) (by omega) (by omega) (by omega) (by omega), if_pos (by omega), gC_pos (x := 0) (y := 0) (by omega) (by omega) (by omega) (by omega), if_pos rfl, Option.bind_some, inner (k + 1) (by omega)]
  cases firstTo (puB T od) (T.2 6) with
  | some b => rfl
  | none =>
    show zR (fM_buildBy_1 (k + 1) S 0 1 (0 + 1)) _ = _
    rw [last]
    exact gB_0
/-- a builder's weeks -/
def bRun (od : Nat → Nat) : Nat → TW → Nat × TW
  | 0, T => (0, T)
  | k + 1, T => match pkA T od with
    | some q => ((bRun od k (tW T q.1 q.2)).1 + 1, (bRun od k (tW T q.1 q.2)).2)
    | none => (0, T)
theorem bRun_some {k : Nat} {q : Nat × Nat} (h : pkA T od = some q) : bRun od (k + 1) T = ((bRun od k (tW T q.1 q.2)).1 + 1, (bRun od k (tW T q.1 q.2)).2) := by
  show (match pkA T od with
    | some q => ((bRun od k (tW T q.1 q.2)).1 + 1, (bRun od k (tW T q.1 q.2)).2)
    | none => (0, T)) = _
  rw [h]
theorem pkA_ok (w : wfT T) (hO : ∀ i : Nat, i < T.2 6 → od i < T.2 6) {q : Nat × Nat} (h : pkA T od = some q) : q.1 < 2 ^ T.2 6 ∧ q.2 < 2 ^ T.2 6 ∧ lawB T q.1 q.2 = true ∧ apart q.1 q.2 := by
  have pw : ∀ i, i < T.2 6 → 2 ^ od i < 2 ^ T.2 6 := fun i hi => Nat.pow_lt_pow_of_lt (by omega) (hO i hi)
  unfold pkA at h
  split at h
  · next q' hq =>
    cases h
    unfold pk2 at hq
    split at hq
    · next a ha =>
      split at hq
      · next b hb =>
        cases hq
        have h1 := findFrom_some ha
        obtain ⟨-, h2, h3, -⟩ := findFrom_some hb
        unfold p2B at h3
        rw [Bool.and_eq_true, Bool.and_eq_true] at h3
        obtain ⟨k1, -, -, -⟩ := nDf_2p h3.1.1
        obtain ⟨-, k2, -, -⟩ := nDf_2p h3.1.2
        exact ⟨pw a (by omega), pw b (by omega), h3.2, wk_apart k1 k2⟩
      · cases hq
    · cases hq
  · split at h
    · next q' hq =>
      cases h
      unfold pkD at hq
      split at hq
      · next a ha =>
        cases hq
        obtain ⟨-, h2, h3, -⟩ := findFrom_some ha
        unfold pdB at h3
        rw [Bool.and_eq_true] at h3
        exact ⟨pw a (by omega), pw_pos _, h3.2, Nat.and_zero _⟩
      · cases hq
    · unfold pkU at h
      split at h
      · next a ha =>
        cases h
        obtain ⟨-, h2, h3, -⟩ := findFrom_some ha
        unfold puB at h3
        rw [Bool.and_eq_true] at h3
        exact ⟨pw_pos _, pw a (by omega), h3.2, Nat.zero_and _⟩
      · cases h
theorem psS_at (ht : tAt S 1 T) {g c : Nat} (h : lawB T g c = true) : tAt (psS S T g c) 1 (tW T g c) := by
  obtain ⟨h0, -⟩ := law_firm h
  have := tN_at (j := 10) (v := (min 999 ((T.2 10 : Int) + Ov T g c)).toNat) ht (by omega)
  rw [show (((min 999 ((T.2 10 : Int) + Ov T g c)).toNat : Nat) : Int) = min 999 ((T.2 10 : Int) + Ov T g c) by omega] at this
  exact tN_at this (by omega)
theorem dwS_at (hm : mAt S T) {g c : Nat} (h : lawB T g c = true) (ha : apart g c) : mAt (dwS S T g c) (tW T g c) := by
  obtain ⟨h0, -⟩ := law_firm h
  obtain ⟨⟨m1, m2, m3, m4, m5, m6⟩, m7, m8⟩ := hm
  have e4 : zF (dwS S T g c) 49 4 = ((tW T g c).2 10 : Int) := by
    show min 999 ((T.2 10 : Int) + Mo T g c) = (((min 999 ((T.2 10 : Int) + Ov T g c)).toNat : Nat) : Int)
    rw [Mo_Ov ha]
    omega
  exact ⟨⟨m1, m2, rfl, m4, e4, m6⟩, m7, m8⟩
theorem sp_run {M : Nat} (hM : M ≤ 60) : ∀ (k d n : Nat) (S : ZS) (T : TW), d + k = M → k + 110 < n → tAt S 1 T → wfT T → (∀ i : Nat, i < T.2 6 → zA S 44 (i : Int) = (od i : Int) ∧ od i < T.2 6) → ∃ S', fD_build_1 n S (M : Int) (d : Int) = some (((d + (bRun od k T).1 : Nat) : Int), S') ∧ tAt S' 1 (bRun od k T).2 ∧ wfT (bRun od k T).2 ∧ fr 1000 0 1 S S' := by
  intro k
  induction k with
  | zero =>
    intro d n S T hd hn ht w hO
    obtain ⟨j, rfl⟩ : ∃ j, n = j + 1 := ⟨n - 1, by omega⟩
    refine ⟨S, ?_, ht, w, fr_rfl⟩
    rw [fD_build_1, gC_pos (by omega) (by omega) (by omega) (by omega), if_neg (by omega)]
    rfl
  | succ k ih =>
    intro d n S T hd hn ht w hO
    obtain ⟨j, rfl⟩ : ∃ j, n = j + 1 := ⟨n - 1, by omega⟩
    have eg := sp_goOn (n := j) ht w hO (by omega)
    rw [fD_build_1, gC_pos (by omega) (by omega) (by omega) (by omega), if_pos (by omega), eg]
    cases hp : pkA T od with
    | none =>
      refine ⟨S, ?_, ?_, ?_, fr_rfl⟩
      · show gC 0 0 (if (0 : Int) = 0 then some ((d : Int), S) else _) = _
        rw [gC_pos (by omega) (by omega) (by omega) (by omega), if_pos rfl]
        unfold bRun
        rw [hp]
        rfl
      · unfold bRun
        rw [hp]
        exact ht
      · unfold bRun
        rw [hp]
        exact w
    | some q =>
      obtain ⟨q1, q2, q3, q4⟩ := pkA_ok w (fun i hi => (hO i hi).2) hp
      have fq : fr 1000 0 1 S (psS S T q.1 q.2) := fr_trans (fr_wF _ 10 _) (fr_wF _ 8 _)
      obtain ⟨S', e1, e2, e3, e4⟩ := ih (d + 1) j (psS S T q.1 q.2) (tW T q.1 q.2) (by omega) (by omega) (psS_at ht q3) (tW_wf w q2 q3) (fun i hi => ⟨(fr_A fq (by omega) _).trans (hO i hi).1, (hO i hi).2⟩)
      refine ⟨S', ?_, ?_, ?_, fr_trans fq e4⟩
      · show gC 1 0 (if (1 : Int) = 0 then _ else fD_build_1 j (psS S T q.1 q.2) (M : Int) ((d : Int) + 1)) = _
        rw [gC_pos (by omega) (by omega) (by omega) (by omega), if_neg (by omega), show (d : Int) + 1 = ((d + 1 : Nat) : Int) from rfl, e1]
        rw [bRun_some hp]
        show some (((d + 1 + (bRun od k (tW T q.1 q.2)).1 : Nat) : Int), S') = some (((d + ((bRun od k (tW T q.1 q.2)).1 + 1) : Nat) : Int), S')
        rw [show d + 1 + (bRun od k (tW T q.1 q.2)).1 = d + ((bRun od k (tW T q.1 q.2)).1 + 1) by omega]
      · unfold bRun
        rw [hp]
        exact e2
      · unfold bRun
        rw [hp]
        exact e3
theorem sm_run {M : Nat} (hM : M ≤ 60) : ∀ (k d n : Nat) (S : ZS) (T : TW), d + k = M → k + 110 < n → mAt S T → wfT T → (∀ i : Nat, i < T.2 6 → zA S 66 (i : Int) = (od i : Int) ∧ od i < T.2 6) → ∃ S', fM_build_1 n S (M : Int) (d : Int) = some (((d + (bRun od k T).1 : Nat) : Int), S') ∧ mAt S' (bRun od k T).2 ∧ frM S S' := by
  intro k
  induction k with
  | zero =>
    intro d n S T hd hn hm w hO
    obtain ⟨j, rfl⟩ : ∃ j, n = j + 1 := ⟨n - 1, by omega⟩
    refine ⟨S, ?_, hm, frM_rfl⟩
    rw [fM_build_1, gC_pos (by omega) (by omega) (by omega) (by omega), if_neg (by omega)]
    rfl
  | succ k ih =>
    intro d n S T hd hn hm w hO
    obtain ⟨j, rfl⟩ : ∃ j, n = j + 1 := ⟨n - 1, by omega⟩
    have e2 := sm_two (n := j) hm w hO (by omega)
    have eD := sm_oneD (n := j) hm w hO (by omega)
    have eU := sm_oneU (n := j) hm w hO (by omega)
    have go : ∀ q, pkA T od = some q → ∃ S', fM_build_1 j (dwS S T q.1 q.2) (M : Int) ((d : Int) + 1) = some (((d + (bRun od (k + 1) T).1 : Nat) : Int), S') ∧ mAt S' (bRun od (k + 1) T).2 ∧ frM S S' := by
      intro q hp
      obtain ⟨q1, q2, q3, q4⟩ := pkA_ok w (fun i hi => (hO i hi).2) hp
      have fq : frM S (dwS S T q.1 q.2) := frM_trans (frM_wF _ _ (by omega)) (frM_wF _ _ (by omega))
      obtain ⟨S', e1, e2, e4⟩ := ih (d + 1) j (dwS S T q.1 q.2) (tW T q.1 q.2) (by omega) (by omega) (dwS_at hm q3 q4) (tW_wf w q2 q3) (fun i hi => ⟨(frM_A fq (by omega) (by omega) _).trans (hO i hi).1, (hO i hi).2⟩)
      refine ⟨S', ?_, ?_, frM_trans fq e4⟩
      · rw [show (d : Int) + 1 = ((d + 1 : Nat) : Int) from rfl, e1]
        rw [bRun_some hp]
        show some (((d + 1 + (bRun od k (tW T q.1 q.2)).1 : Nat) : Int), S') = some (((d + ((bRun od k (tW T q.1 q.2)).1 + 1) : Nat) : Int), S')
        rw [show d + 1 + (bRun od k (tW T q.1 q.2)).1 = d + ((bRun od k (tW T q.1 q.2)).1 + 1) by omega]
      · unfold bRun
        rw [hp]
        exact e2
    rw [fM_build_1, gC_pos (by omega) (by omega) (by omega) (by omega), if_pos (by omega), e2]
    cases hp : pk2 T od with
    | some q =>
      obtain ⟨S', h1, h2, h3⟩ := go q (by unfold pkA; rw [hp])
      refine ⟨S', ?_, h2, h3⟩
      show gC 1 0 (if (1 : Int) = 0 then _ else fM_build_1 j (dwS S T q.1 q.2) (M : Int) ((d : Int) + 1)) = _
      rw [gC_pos (by omega) (by omega) (by omega) (by omega), if_neg (by omega), h1]
    | none =>
      show ∃ S', gC 0 0 (if (0 : Int) = 0 then (fM_buildBy j S 1 0).bind _ else _) = _ ∧ _
      rw [gC_pos (x := 0) (y := 0) (by omega) (by omega) (by omega) (by omega), if_pos rfl, eD]
      cases hp2 : pkD T od with
      | some q =>
        obtain ⟨S', h1, h2, h3⟩ := go q (by unfold pkA; rw [hp, hp2])
        refine ⟨S', ?_, h2, h3⟩
        show gC 1 0 (if (1 : Int) = 0 then _ else fM_build_1 j (dwS S T q.1 q.2) (M : Int) ((d : Int) + 1)) = _
        rw [gC_pos (by omega) (by omega) (by omega) (by omega), if_neg (by omega), h1]
      | none =>
        show ∃ S', gC 0 0 (if (0 : Int) = 0 then (fM_buildBy j S 0 1).bind _ else _) = _ ∧ _
        rw [gC_pos (x := 0) (y := 0) (by omega) (by omega) (by omega) (by omega), if_pos rfl, eU]
        cases hp3 : pkU T od with
        | some q =>
          obtain ⟨S', h1, h2, h3⟩ := go q (by unfold pkA; rw [hp, hp2]; exact hp3)
          refine ⟨S', ?_, h2, h3⟩
          show gC 1 0 (if (1 : Int) = 0 then _ else fM_build_1 j (dwS S T q.1 q.2) (M : Int) ((d : Int) + 1)) = _
          rw [gC_pos (by omega) (by omega) (by omega) (by omega), if_neg (by omega), h1]
        | none =>
          have hA : pkA T od = none := by unfold pkA; rw [hp, hp2]; exact hp3
          refine ⟨S, ?_, ?_, frM_rfl⟩
          · show gC 0 0 (if (0 : Int) = 0 then some ((d : Int), S) else _) = _
            rw [gC_pos (by omega) (by omega) (by omega) (by omega), if_pos rfl]
            unfold bRun
            rw [hA]
            rfl
          · unfold bRun
            rw [hA]
            exact hm
theorem good_row {S S' : ZS} {h : Nat} (hh : h = 44 ∨ h = 66) (hG : Good S) (f : Int → Int) (e : S' = wR S h f) : Good S' := by
  subst e
  obtain ⟨T, ⟨h1, h2, h3⟩, h4, h5, h6, h7, h8⟩ := hG
  have f1 : fr h h 1000 S (wR S h f) := fr_wR _ _ (by omega) (by omega)
  exact ⟨T, ⟨fr_tAt f1 h1 (by omega) (by omega), fr_mAt f1 h2 (by omega) (by omega), h3⟩, fr_gTape f1 h4 (by omega) (by omega) (by omega), fr_gImg f1 h5 (by omega) (by omega) (by omega) (by omega), fr_gSh f1 h6 (by omega), fr_gWay f1 h7 (by omega) (by omega), fr_gRoom f1 h8⟩
theorem fr_wR2 {lo hi ob h : Nat} {S S' : ZS} (hf : fr lo hi ob S S') (f : Int → Int) : fr lo hi ob (wR S h f) (wR S' h f) := by
  refine ⟨fun h' hh => ?_, hf.2.1, hf.2.2⟩
  show (if h' = h then f else S'.1 h') = (if h' = h then f else S.1 h')
  rw [hf.1 h' hh]
theorem q_build (hG : Good S) {b m : Int} (h1 : -2147483648 ≤ b) (h2 : b < 2147483648) (h3 : -2147483648 ≤ m) (h4 : m < 2147483648) : ∃ n v S1 S2, fD_build n S b m = some (v, S1) ∧ fM_build n S1 b m = some (v, S2) ∧ Good S2 := by
  obtain ⟨T, ⟨ht, hm, wT⟩, -⟩ := id hG
  have no : ∀ b : Bool, b = false → bZ b = 0 := fun b h => by rw [h]; rfl
  have yes : ∀ b : Bool, b = true → ¬ bZ b = 0 := fun b h => by rw [h]; decide
  refine ⟨400, ?_⟩
  unfold fD_build fB_isBuilder
  rw [gC_pos (by omega) (by omega) (by omega) (by omega), gB_0, gB_1]
  by_cases c1 : 0 ≤ b ∧ b ≤ 3
  rotate_left
  · refine ⟨-1, S, S, ?_, ?_, hG⟩
    · by_cases d : b < 0
      · rw [if_pos d, Option.bind_some, gC_pos (by omega) (by omega) (by omega) (by omega), if_pos rfl]
      · rw [if_neg d, gC_pos (by omega) (by omega) (by omega) (by omega), if_pos (by omega), Option.bind_some, gC_pos (by omega) (by omega) (by omega) (by omega), if_pos rfl]
    · unfold fM_build
      rw [gC_pos (by omega) (by omega) (by omega) (by omega), sp_in S 400 (by omega) (by omega) (by omega) (by omega) (by omega) (by omega), decide_eq_false c1, Option.bind_some, gC_b, if_pos (no _ rfl)]
  rw [if_neg (by omega), gC_pos (by omega) (by omega) (by omega) (by omega), if_neg (by omega), Option.bind_some, gC_pos (by omega) (by omega) (by omega) (by omega), if_neg (by omega)]
  have E : ∀ S' : ZS, fM_build 400 S' b m = if 1 ≤ m ∧ m ≤ 60 then (fM_findOrder 400 S' b).bind fun z3 => (fM_build_1 400 z3 m 0).bind fun z4 => some (z4.1, z4.2) else some (-1, S') := by
    intro S'
    unfold fM_build
    rw [gC_pos (by omega) (by omega) (by omega) (by omega), sp_in S' 400 (by omega) (by omega) (by omega) (by omega) (by omega) (by omega), decide_eq_true c1, Option.bind_some, gC_b, if_neg (yes _ rfl), gC_pos (by omega) (by omega) (by omega) (by omega), sp_in S' 400 (by omega) (by omega) (by omega) (by omega) (by omega) (by omega), Option.bind_some, gC_b]
    by_cases k : 1 ≤ m ∧ m ≤ 60
    · rw [decide_eq_true k, if_neg (yes _ rfl), if_pos k]
    · rw [decide_eq_false k, if_pos (no _ rfl), if_neg k]
  by_cases c2 : 1 ≤ m ∧ m ≤ 60
  rotate_left
  · refine ⟨-1, S, S, ?_, ?_, hG⟩
    · rw [gC_pos (by omega) (by omega) (by omega) (by omega)]
      by_cases d : m < 1
      · rw [if_pos d]
      · rw [if_neg d, gC_pos (by omega) (by omega) (by omega) (by omega), if_pos (by omega)]
    · rw [E S, if_neg c2]
  rw [gC_pos (by omega) (by omega) (by omega) (by omega), if_neg (by omega), gC_pos (by omega) (by omega) (by omega) (by omega), if_neg (by omega)]
  obtain ⟨M, rfl⟩ : ∃ k : Nat, m = (k : Int) := ⟨m.toNat, by omega⟩
  obtain ⟨F, hF, hGo⟩ := orders ht wT.1 c1.1 c1.2
  have fa : fr 44 44 1000 S (wR S 44 F) := fr_wR _ _ (by omega) (by omega)
  have ta : tAt (wR S 44 F) 1 T := fr_tAt fa ht (by omega) (by omega)
  have ma : mAt (wR S 44 F) T := fr_mAt fa hm (by omega) (by omega)
  have HO : ∀ G, odEq F G (T.2 6) (T.2 6) → ∀ i : Nat, i < T.2 6 → F (i : Int) = ((fun i : Nat => (F (i : Int)).toNat) i : Int) ∧ (fun i : Nat => (F (i : Int)).toNat) i < T.2 6 := by
    intro G h i hi
    have := h i hi
    show F (i : Int) = ((F (i : Int)).toNat : Int) ∧ (F (i : Int)).toNat < T.2 6
    omega
  obtain ⟨G0, -, od0⟩ := hGo S hm
  obtain ⟨S0, r1, r2, r3, r4⟩ := sp_run (od := fun i : Nat => (F (i : Int)).toNat) (M := M) (by omega) M 0 400 (wR S 44 F) T (by omega) (by omega) ta wT (fun i hi => HO G0 od0 i hi)
  have f27 : fr 2 7 1 (wR S 44 F) S0 := ⟨fun h _ => r4.1 h (by omega), r4.2⟩
  have m1 : mAt (fgt S0) T := fgt_mAt f27 ma
  obtain ⟨G, g1, g2⟩ := hGo (fgt S0) m1
  have fb : fr 66 66 1000 (fgt S0) (wR (fgt S0) 66 G) := fr_wR _ _ (by omega) (by omega)
  obtain ⟨S2, u1, u2, u3⟩ := sm_run (od := fun i : Nat => (F (i : Int)).toNat) (M := M) (by omega) M 0 400 (wR (fgt S0) 66 G) T (by omega) (by omega) (fr_mAt fb m1 (by omega) (by omega)) wT (fun i hi => ⟨(g2 i hi).1.symm.trans (HO G g2 i hi).1, (HO G g2 i hi).2⟩)
  refine ⟨((0 + (bRun (fun i : Nat => (F (i : Int)).toNat) M T).1 : Nat) : Int), fgt S0, S2, ?_, ?_, ?_⟩
  · rw [hF 400 (by omega), Option.bind_some, show (0 : Int) = ((0 : Nat) : Int) from rfl, r1, Option.bind_some, sp_forget, Option.bind_some]
  · rw [E (fgt S0), if_pos c2, g1 400 (by omega), Option.bind_some, show (0 : Int) = ((0 : Nat) : Int) from rfl, u1, Option.bind_some]
  · have Ga : Good (wR (wR S 44 F) 66 G) := good_row (Or.inr rfl) (good_row (Or.inl rfl) hG F rfl) G rfl
    have fc : fr 66 66 1000 S0 (wR S0 66 G) := fr_wR _ _ (by omega) (by omega)
    exact good_upd Ga (fr_wR2 f27 G) u3 (fr_tAt fc r2 (by omega) (by omega)) u2 r3
theorem p_build : P_build Inv := by
  intro x0 x1
  have e0 : (Value.int x0) = .int (zI x0.toInt) := by rw [zI_of]
  have e1 : (Value.int x1) = .int (zI x1.toInt) := by rw [zI_of]
  rw [e0, e1]
  exact mkPair (fun n S => fD_build n S x0.toInt x1.toInt) (fun n S => fM_build n S x0.toInt x1.toInt) (fun o n S w h => sD_build o n S _ _ h) (fun o n S w h => sM_build o n S _ _ h) (fun S hG => q_build hG (rngI x0).1 (rngI x0).2 (rngI x1).1 (rngI x1).2)
end BW
