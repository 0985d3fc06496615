/-! ===== pairs: set, told, count, may, week ===== -/
section PR
variable {S : ZS}
theorem q_set (hG : Good S) {x y : Int} (h1 : -2147483648 ≤ x) (h2 : x < 2147483648) (h3 : -2147483648 ≤ y) (h4 : y < 2147483648) : ∃ n v S1 S2, fD_set n S x y = some (v, S1) ∧ fM_set n S1 x y = some (v, S2) ∧ Good S2 := by
  obtain ⟨T, ⟨ht, hm, w, wn, wf⟩, hr⟩ := id hG
  have hq := pw_le w.1
  by_cases c0 : x = 0
  · subst c0
    by_cases d : 0 ≤ y ∧ y ≤ 999
    · obtain ⟨a, rfl⟩ : ∃ a : Nat, y = (a : Int) := ⟨y.toNat, by omega⟩
      have f0 : fr 2 7 1 S (wF S 1 10 (a : Int)) := fr_wF S 10 _
      have m0 := fgt_mAt f0 hm
      have w' := tN_wfR (T := T) (j := 10) (v := a) (by omega) w
      refine ⟨30, T.2 10, fgt (wF S 1 10 (a : Int)), wF (wF (fgt (wF S 1 10 (a : Int))) 49 4 (a : Int)) 49 5 (zF (fgt (wF S 1 10 (a : Int))) 49 5), ?_, ?_, ?_⟩
      · unfold fD_set
        rw [gC_pos (by omega) (by omega) (by omega) (by omega), if_pos rfl, gC_pos (by omega) (by omega) (by omega) (by omega), if_neg (by omega), gC_pos (by omega) (by omega) (by omega) (by omega), if_neg (by omega), sp_forget, Option.bind_some, ht.1 10 (by omega) (by omega)]
      · unfold fM_set
        rw [gC_pos (by omega) (by omega) (by omega) (by omega), sp_in _ 30 (by omega) (by omega) (by omega) (by omega) (by omega) (by omega), decide_eq_true (by omega), Option.bind_some, gC_b, if_neg (show ¬ bZ true = 0 by decide), gC_pos (by omega) (by omega) (by omega) (by omega), gC_pos (by omega) (by omega) (by omega) (by omega), sp_in _ 30 (by omega) (by omega) (by omega) (by omega) (by omega) (by omega), decide_eq_true (by omega), Option.bind_some, gC_b, if_neg (show ¬ bZ true = 0 by decide), gC_pos (by omega) (by omega) (by omega) (by omega), if_pos rfl, Option.bind_some, gC_pos (by omega) (by omega) (by omega) (by omega), if_pos rfl, Option.bind_some, gC_pos (by omega) (by omega) (by omega) (by omega), if_neg (by omega), m0.1.2.2.2.2.1]
      · refine good_upd hG f0 (frM_trans (frM_wF _ _ (by omega)) (frM_wF _ _ (by omega))) (tN_at ht (by omega)) ⟨⟨m0.1.1, m0.1.2.1, m0.1.2.2.1, m0.1.2.2.2.1, rfl, m0.1.2.2.2.2.2⟩, m0.2.1, m0.2.2⟩ ⟨w', ⟨wn.1, wn.2.1, ?_, wn.2.2.2⟩, ?_⟩
        · show a ≤ 999
          omega
        · exact (tN_firm (by omega) _).trans wf
    · refine ⟨30, -1, S, S, ?_, ?_, hG⟩
      · unfold fD_set
        rw [gC_pos (by omega) (by omega) (by omega) (by omega), if_pos rfl, gC_pos (by omega) (by omega) (by omega) (by omega)]
        by_cases c : y < 0
        · rw [if_pos c, gC_pos (by omega) (by omega) (by omega) (by omega), if_neg (by omega)]
        · rw [if_neg c, gC_pos (by omega) (by omega) (by omega) (by omega), if_pos (by omega), gC_pos (by omega) (by omega) (by omega) (by omega), if_neg (by omega)]
      · unfold fM_set
        rw [gC_pos (by omega) (by omega) (by omega) (by omega), sp_in _ 30 (by omega) (by omega) (by omega) (by omega) (by omega) (by omega), decide_eq_true (by omega), Option.bind_some, gC_b, if_neg (show ¬ bZ true = 0 by decide), gC_pos (by omega) (by omega) (by omega) (by omega), gC_pos (by omega) (by omega) (by omega) (by omega), sp_in _ 30 (by omega) (by omega) (by omega) (by omega) (by omega) (by omega), decide_eq_false (by omega), Option.bind_some, gC_b, if_pos (show bZ false = 0 from rfl)]
  · by_cases c1 : x = 1
    · subst c1
      by_cases d : 1 ≤ y ∧ y ≤ 999
      · obtain ⟨a, rfl⟩ : ∃ a : Nat, y = (a : Int) := ⟨y.toNat, by omega⟩
        have f0 : fr 2 7 1 S (wF S 1 11 (a : Int)) := fr_wF S 11 _
        have m0 := fgt_mAt f0 hm
        have w' := tN_wfR (T := T) (j := 11) (v := a) (by omega) w
        refine ⟨30, T.2 11, fgt (wF S 1 11 (a : Int)), wF (wF (fgt (wF S 1 11 (a : Int))) 49 4 (zF (fgt (wF S 1 11 (a : Int))) 49 4)) 49 5 (a : Int), ?_, ?_, ?_⟩
        · unfold fD_set
          rw [gC_pos (by omega) (by omega) (by omega) (by omega), if_neg (by omega), gC_pos (by omega) (by omega) (by omega) (by omega), if_pos rfl, gC_pos (by omega) (by omega) (by omega) (by omega), if_neg (by omega), gC_pos (by omega) (by omega) (by omega) (by omega), if_neg (by omega), sp_forget, Option.bind_some, ht.1 11 (by omega) (by omega)]
        · unfold fM_set
          rw [gC_pos (by omega) (by omega) (by omega) (by omega), sp_in _ 30 (by omega) (by omega) (by omega) (by omega) (by omega) (by omega), decide_eq_true (by omega), Option.bind_some, gC_b, if_neg (show ¬ bZ true = 0 by decide), gC_pos (by omega) (by omega) (by omega) (by omega), gC_pos (by omega) (by omega) (by omega) (by omega), sp_in _ 30 (by omega) (by omega) (by omega) (by omega) (by omega) (by omega), decide_eq_true (by omega), Option.bind_some, gC_b, if_neg (show ¬ bZ true = 0 by decide), gC_pos (by omega) (by omega) (by omega) (by omega), if_neg (by omega), Option.bind_some, gC_pos (by omega) (by omega) (by omega) (by omega), if_neg (by omega), Option.bind_some, gC_pos (by omega) (by omega) (by omega) (by omega), if_pos rfl, m0.1.2.2.2.2.2]
        · refine good_upd hG f0 (frM_trans (frM_wF _ _ (by omega)) (frM_wF _ _ (by omega))) (tN_at ht (by omega)) ⟨⟨m0.1.1, m0.1.2.1, m0.1.2.2.1, m0.1.2.2.2.1, m0.1.2.2.2.2.1, rfl⟩, m0.2.1, m0.2.2⟩ ⟨w', ⟨wn.1, wn.2.1, wn.2.2.1, ?_⟩, ?_⟩
          · show 1 ≤ a ∧ a ≤ 999
            omega
          · exact (tN_firm (by omega) _).trans wf
      · refine ⟨30, -1, S, S, ?_, ?_, hG⟩
        · unfold fD_set
          rw [gC_pos (by omega) (by omega) (by omega) (by omega), if_neg (by omega), gC_pos (by omega) (by omega) (by omega) (by omega), if_pos rfl, gC_pos (by omega) (by omega) (by omega) (by omega)]
          by_cases c : y < 1
          · rw [if_pos c]
          · rw [if_neg c, gC_pos (by omega) (by omega) (by omega) (by omega), if_pos (by omega)]
        · unfold fM_set
          rw [gC_pos (by omega) (by omega) (by omega) (by omega), sp_in _ 30 (by omega) (by omega) (by omega) (by omega) (by omega) (by omega), decide_eq_true (by omega), Option.bind_some, gC_b, if_neg (show ¬ bZ true = 0 by decide), gC_pos (by omega) (by omega) (by omega) (by omega), gC_pos (by omega) (by omega) (by omega) (by omega), sp_in _ 30 (by omega) (by omega) (by omega) (by omega) (by omega) (by omega), decide_eq_false (by omega), Option.bind_some, gC_b, if_pos (show bZ false = 0 from rfl)]
    · refine ⟨30, -1, S, S, ?_, ?_, hG⟩
      · unfold fD_set
        rw [gC_pos (by omega) (by omega) (by omega) (by omega), if_neg c0, gC_pos (by omega) (by omega) (by omega) (by omega), if_neg c1]
      · unfold fM_set
        rw [gC_pos (by omega) (by omega) (by omega) (by omega), sp_in _ 30 (by omega) (by omega) (by omega) (by omega) (by omega) (by omega), decide_eq_false (by omega), Option.bind_some, gC_b, if_pos (show bZ false = 0 from rfl)]
theorem p_set : P_set Inv := by
  intro x0 x1
  have e0 : (Value.int x0) = .int (zI x0.toInt) := by rw [zI_of]
  have e1 : (Value.int x1) = .int (zI x1.toInt) := by rw [zI_of]
  rw [e0, e1]
  exact mkPair (fun n S => fD_set n S x0.toInt x1.toInt) (fun n S => fM_set n S x0.toInt x1.toInt) (fun o n S w h => sD_set o n S _ _ h) (fun o n S w h => sM_set o n S _ _ h) (fun S hG => q_set hG (rngI x0).1 (rngI x0).2 (rngI x1).1 (rngI x1).2)
/-- pure pairs: the same answer, nothing changes -/
theorem mkPure {kx km : Nat} {as : List Value} (fx fm : Nat → ZS → Option Int) (sx : ∀ (o : eO) (n : Nat) (S : ZS) (w : Int), fx n S = some w → eG o kx 0 (eEnt kx (.ref 0 :: as)) [] (rd S) (rv (some (.int (zI w))) (rd S))) (sm : ∀ (o : eO) (n : Nat) (S : ZS) (w : Int), fm n S = some w → eG o km 0 (eEnt km (.ref 49 :: as)) [] (rd S) (rv (some (.int (zI w))) (rd S))) (hp : ∀ S, Good S → ∃ n v, fx n S = some v ∧ fm n S = some v) : Pair Inv kx km as := by
  refine mkPair (fun n S => pur (fx n S) S) (fun n S => pur (fm n S) S) (fun o n S w h => ?_) (fun o n S w h => ?_) (fun S hG => ?_)
  · obtain ⟨h1, h2⟩ := pur_inv h
    rw [← h2]
    exact sx o n S _ h1
  · obtain ⟨h1, h2⟩ := pur_inv h
    rw [← h2]
    exact sm o n S _ h1
  · obtain ⟨n, v, h1, h2⟩ := hp S hG
    exact ⟨n, v, S, S, by show pur (fx n S) S = _; rw [h1]; rfl, by show pur (fm n S) S = _; rw [h2]; rfl, hG⟩
theorem q_told (hG : Good S) {x y : Int} (h1 : -2147483648 ≤ x) (h2 : x < 2147483648) (h3 : -2147483648 ≤ y) (h4 : y < 2147483648) : ∃ n v, fD_told n S x y = some v ∧ fM_told n S x y = some v := by
  obtain ⟨T, ⟨ht, hm, w, wn, wf⟩, hr⟩ := id hG
  have hq := pw_le w.1
  have h6 := w.1
  refine ⟨30, ?_⟩
  unfold fD_told fM_told fT_isPart
  rw [ht.1 6 (by omega) (by omega), hm.1.1, gC_pos (by omega) (by omega) (by omega) (by omega), gC_pos (by omega) (by omega) (by omega) (by omega), gC_pos (by omega) (by omega) (by omega) (by omega), gB_0, gB_1, gC_pos (by omega) (by omega) (by omega) (by omega), sp_in S 30 (by omega) (by omega) (by omega) (by omega) (by omega) (by omega), Option.bind_some, gC_b]
  by_cases c : 0 ≤ x ∧ x < (T.2 6 : Int)
  · obtain ⟨a, rfl⟩ : ∃ a : Nat, x = (a : Int) := ⟨x.toNat, by omega⟩
    have ha : a < T.2 6 := by omega
    rw [if_neg (by omega), if_pos (by omega), decide_eq_true (by omega), if_neg (show ¬ bZ true = 0 by decide), Option.bind_some, gC_pos (by omega) (by omega) (by omega) (by omega), if_neg (by omega), gC_pos (by omega) (by omega) (by omega) (by omega), sp_in S 30 (by omega) (by omega) (by omega) (by omega) (by omega) (by omega), Option.bind_some, gC_b]
    by_cases y0 : y = 0
    · subst y0
      have e1 := ht.2.1 1 a (by omega) (by omega) ha
      have e2 := hm.2.1 0 a (by omega) ha
      have e1 : zA S 2 (a : Int) = (T.1 1 a : Int) := e1
      have e2 : zA S 50 (5 * (a : Int) + 0) = (T.1 1 a : Int) := e2
      refine ⟨T.1 1 a, ?_, ?_⟩
      · rw [if_pos rfl, gX_pos (by omega) (by omega) (by omega), e1]
      · rw [decide_eq_true (by omega), if_neg (show ¬ bZ true = 0 by decide), gC_pos (by omega) (by omega) (by omega) (by omega), if_pos (by omega), gX_pos (by omega) (by omega) (by omega), e2, gC_pos (by omega) (by omega) (by omega) (by omega)]
    rw [if_neg y0]
    by_cases y1 : y = 1
    · subst y1
      have e1 := ht.2.1 2 a (by omega) (by omega) ha
      have e2 := hm.2.1 1 a (by omega) ha
      have e1 : zA S 3 (a : Int) = (T.1 2 a : Int) := e1
      have e2 : zA S 50 (5 * (a : Int) + 1) = (T.1 2 a : Int) := e2
      refine ⟨T.1 2 a, ?_, ?_⟩
      · rw [if_pos rfl, gX_pos (by omega) (by omega) (by omega), e1]
      · rw [decide_eq_true (by omega), if_neg (show ¬ bZ true = 0 by decide), gC_pos (by omega) (by omega) (by omega) (by omega), if_pos (by omega), gX_pos (by omega) (by omega) (by omega), e2, gC_pos (by omega) (by omega) (by omega) (by omega)]
    rw [if_neg y1]
    by_cases y2 : y = 2
    · subst y2
      have e1 := ht.2.1 3 a (by omega) (by omega) ha
      have e2 := hm.2.1 2 a (by omega) ha
      have e1 : zA S 4 (a : Int) = (T.1 3 a : Int) := e1
      have e2 : zA S 50 (5 * (a : Int) + 2) = (T.1 3 a : Int) := e2
      refine ⟨T.1 3 a, ?_, ?_⟩
      · rw [if_pos rfl, gX_pos (by omega) (by omega) (by omega), e1]
      · rw [decide_eq_true (by omega), if_neg (show ¬ bZ true = 0 by decide), gC_pos (by omega) (by omega) (by omega) (by omega), if_pos (by omega), gX_pos (by omega) (by omega) (by omega), e2, gC_pos (by omega) (by omega) (by omega) (by omega)]
    rw [if_neg y2]
    by_cases y3 : y = 3
    · subst y3
      have e1 := ht.2.1 4 a (by omega) (by omega) ha
      have e2 := hm.2.1 3 a (by omega) ha
      have e1 : zA S 5 (a : Int) = (T.1 4 a : Int) := e1
      have e2 : zA S 50 (5 * (a : Int) + 3) = (T.1 4 a : Int) := e2
      refine ⟨T.1 4 a, ?_, ?_⟩
      · rw [if_pos rfl, gX_pos (by omega) (by omega) (by omega), e1]
      · rw [decide_eq_true (by omega), if_neg (show ¬ bZ true = 0 by decide), gC_pos (by omega) (by omega) (by omega) (by omega), if_pos (by omega), gX_pos (by omega) (by omega) (by omega), e2, gC_pos (by omega) (by omega) (by omega) (by omega)]
    rw [if_neg y3]
    by_cases y4 : y = 4
    · subst y4
      have e1 := ht.2.1 5 a (by omega) (by omega) ha
      have e2 := hm.2.1 4 a (by omega) ha
      have e1 : zA S 6 (a : Int) = (T.1 5 a : Int) := e1
      have e2 : zA S 50 (5 * (a : Int) + 4) = (T.1 5 a : Int) := e2
      refine ⟨T.1 5 a, ?_, ?_⟩
      · rw [if_pos rfl, gX_pos (by omega) (by omega) (by omega), e1]
      · rw [decide_eq_true (by omega), if_neg (show ¬ bZ true = 0 by decide), gC_pos (by omega) (by omega) (by omega) (by omega), if_pos (by omega), gX_pos (by omega) (by omega) (by omega), e2, gC_pos (by omega) (by omega) (by omega) (by omega)]
    rw [if_neg y4]
    by_cases y5 : y = 5
    · subst y5
      refine ⟨zand (zshr (T.2 8 : Int) (a : Int)) 1, ?_, ?_⟩
      · rw [if_pos rfl, ht.1 8 (by omega) (by omega)]
      · rw [decide_eq_true (by omega), if_neg (show ¬ bZ true = 0 by decide), gC_pos (by omega) (by omega) (by omega) (by omega), if_neg (by omega), hm.1.2.2.1, gC_pos (by omega) (by omega) (by omega) (by omega)]
    rw [if_neg y5]
    refine ⟨-1, rfl, ?_⟩
    rw [decide_eq_false (by omega), if_pos (show bZ false = 0 from rfl), gC_pos (by omega) (by omega) (by omega) (by omega)]
  · refine ⟨-1, ?_, ?_⟩
    · by_cases d : x < 0
      · rw [if_pos d, Option.bind_some, gC_pos (by omega) (by omega) (by omega) (by omega), if_pos rfl]
      · rw [if_neg d, if_neg (by omega), Option.bind_some, gC_pos (by omega) (by omega) (by omega) (by omega), if_pos rfl]
    · rw [decide_eq_false (by omega), if_pos (show bZ false = 0 from rfl), gC_pos (by omega) (by omega) (by omega) (by omega)]
theorem p_told : P_told Inv := by
  intro x0 x1
  have e0 : (Value.int x0) = .int (zI x0.toInt) := by rw [zI_of]
  have e1 : (Value.int x1) = .int (zI x1.toInt) := by rw [zI_of]
  rw [e0, e1]
  exact mkPure (fun n S => fD_told n S x0.toInt x1.toInt) (fun n S => fM_told n S x0.toInt x1.toInt) (fun o n S w h => sD_told o n S _ _ h) (fun o n S w h => sM_told o n S _ _ h) (fun S hG => q_told hG (rngI x0).1 (rngI x0).2 (rngI x1).1 (rngI x1).2)
theorem q_count (hG : Good S) {x : Int} (h1 : -2147483648 ≤ x) (h2 : x < 2147483648) : ∃ n v, fD_count n S x = some v ∧ fM_count n S x = some v := by
  obtain ⟨T, ⟨ht, hm, w, wn, wf⟩, hr⟩ := id hG
  have hq := pw_le w.1
  have h8 := wn.1
  refine ⟨30, ?_⟩
  unfold fD_count fM_count
  obtain ⟨m1, m2, m3, m4, m5, m6⟩ := hm.1
  rw [gC_pos (by omega) (by omega) (by omega) (by omega), gC_pos (by omega) (by omega) (by omega) (by omega), ht.1 6 (by omega) (by omega), ht.1 8 (by omega) (by omega), ht.1 10 (by omega) (by omega), ht.1 7 (by omega) (by omega), m1, m3, m5, m2, sp_yardsOf (n := 30) ht w (by omega) (by omega), sp_sheltered (n := 30) ht w (by omega) (by omega), sm_yardsOf (n := 30) hm w (by omega) (by omega), sm_sheltered (n := 30) hm w (by omega) (by omega)]
  by_cases c0 : x = 0
  · exact ⟨T.2 6, by rw [if_pos c0], by rw [if_pos c0]⟩
  rw [if_neg c0]
  by_cases c1 : x = 1
  · exact ⟨T.2 8, by rw [if_pos c1], by rw [if_pos c1]⟩
  rw [if_neg c1]
  by_cases c2 : x = 2
  · exact ⟨T.2 10, by rw [if_pos c2], by rw [if_pos c2]⟩
  rw [if_neg c2]
  by_cases c3 : x = 3
  · exact ⟨T.2 7, by rw [if_pos c3], by rw [if_pos c3]⟩
  rw [if_neg c3]
  by_cases c4 : x = 4
  · exact ⟨_, by rw [if_pos c4]; rfl, by rw [if_pos c4]; rfl⟩
  rw [if_neg c4]
  by_cases c5 : x = 5
  · exact ⟨_, by rw [if_pos c5]; rfl, by rw [if_pos c5]; rfl⟩
  rw [if_neg c5]
  exact ⟨_, rfl, rfl⟩
theorem p_count : P_count Inv := by
  intro x0
  have e0 : (Value.int x0) = .int (zI x0.toInt) := by rw [zI_of]
  rw [e0]
  exact mkPure (fun n S => fD_count n S x0.toInt) (fun n S => fM_count n S x0.toInt) (fun o n S w h => sD_count o n S _ h) (fun o n S w h => sM_count o n S _ h) (fun S hG => q_count hG (rngI x0).1 (rngI x0).2)
theorem wk_split {T : TW} {s : Nat} {x y : Int} (h : wkB T s x y = true) : ∃ a b : Nat, x = (a : Int) ∧ y = (b : Int) ∧ a < 2 ^ T.2 6 ∧ b < 2 ^ T.2 6 ∧ nDf a s = 0 ∧ b &&& s = 0 := by
  unfold wkB at h
  rw [Bool.and_eq_true, Bool.and_eq_true, Bool.and_eq_true] at h
  obtain ⟨⟨⟨h1, h2⟩, h3⟩, h4⟩ := h
  obtain ⟨a, rfl, ha⟩ := inSet_nat h1
  obtain ⟨b, rfl, hb⟩ := inSet_nat h2
  exact ⟨a, b, rfl, rfl, ha, hb, by simpa using h3, by simpa using h4⟩
theorem q_may (hG : Good S) {x y : Int} (h1 : -2147483648 ≤ x) (h2 : x < 2147483648) (h3 : -2147483648 ≤ y) (h4 : y < 2147483648) : ∃ n v, fD_may n S x y = some v ∧ fM_may n S x y = some v := by
  obtain ⟨T, ⟨ht, hm, w, wn, wf⟩, hr⟩ := id hG
  have hq := pw_le w.1
  have h8 := wn.1
  have h10 := wn.2.2.1
  refine ⟨30, ?_⟩
  unfold fD_may fM_may
  rw [gC_pos (by omega) (by omega) (by omega) (by omega), gC_pos (by omega) (by omega) (by omega) (by omega), gC_pos (by omega) (by omega) (by omega) (by omega), gC_pos (by omega) (by omega) (by omega) (by omega), sp_isWeek ht w h8 30 (by omega) (by omega) (by omega) (by omega), hm.1.2.2.1, sm_isWeek hm w h8 30 (by omega) (by omega) (by omega) (by omega), Option.bind_some, Option.bind_some, gC_b, gC_b]
  by_cases c : wkB T (T.2 8) x y = true
  · obtain ⟨a, b, rfl, rfl, ha, hb, e1, e2⟩ := wk_split c
    rw [c, if_neg (show ¬ bZ true = 0 by decide), if_neg (show ¬ bZ true = 0 by decide), sp_isLawful ht w wn ha hb (by omega), hm.1.2.2.2.2.1, sm_isLawful hm w wn.2.2.2.2 (by omega) (by omega) h8 ha hb (by omega), law_eq e1 e2]
    cases lawB T a b <;> exact ⟨_, rfl, rfl⟩
  · rw [ne_b c]
    exact ⟨_, rfl, rfl⟩
theorem p_may : P_may Inv := by
  intro x0 x1
  have e0 : (Value.int x0) = .int (zI x0.toInt) := by rw [zI_of]
  have e1 : (Value.int x1) = .int (zI x1.toInt) := by rw [zI_of]
  rw [e0, e1]
  exact mkPure (fun n S => fD_may n S x0.toInt x1.toInt) (fun n S => fM_may n S x0.toInt x1.toInt) (fun o n S w h => sD_may o n S _ _ h) (fun o n S w h => sM_may o n S _ _ h) (fun S hG => q_may hG (rngI x0).1 (rngI x0).2 (rngI x1).1 (rngI x1).2)
end PR
