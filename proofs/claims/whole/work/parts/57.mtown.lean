/-! ===== the reference's town ===== -/
section MS
variable {S : ZS} {T : TW}
theorem sp_in (S : ZS) (n : Nat) {x a b : Int} (h1 : -9223372036854775808 ≤ x) (h2 : x < 9223372036854775808) (h3 : -9223372036854775808 ≤ a) (h4 : a < 9223372036854775808) (h5 : -9223372036854775808 ≤ b) (h6 : b < 9223372036854775808) : fM_in n S x a b = some (bZ (decide (a ≤ x ∧ x ≤ b))) := by
  unfold fM_in
  rw [gL_pos h1 h2 h3 h4, gC_cmp, gL_pos h1 h2 h5 h6, gC_cmp]
  by_cases c : x < a
  · rw [if_pos (zcmp_lt.mpr c), gB_0, decide_eq_false (by omega)]
    rfl
  · rw [if_neg (fun q => c (zcmp_lt.mp q))]
    by_cases d : b < x
    · rw [if_pos (zcmp_gt.mpr d), gB_0, decide_eq_false (by omega)]
      rfl
    · rw [if_neg (fun q => d (zcmp_gt.mp q)), gB_1, decide_eq_true (by omega)]
      rfl
theorem sm_isSet (h : mAt S T) (w : wfR T) (n : Nat) {x : Int} (h1 : -9223372036854775808 ≤ x) (h2 : x < 9223372036854775808) : fM_isSet n S x = some (bZ (inSet T x)) := by
  have h3 := pw_le w.1
  have h4 := pw_pos (T.2 6)
  have h5 := w.1
  unfold fM_isSet inSet
  rw [h.1.1, zshl_1 (by omega), gC_pos (by omega) (by omega) (by omega) (by omega), sp_in S n h1 h2 (by omega) (by omega) (by omega) (by omega), Option.bind_some, gB_b]
  congr 2
  rw [decide_eq_decide]
  omega
theorem sm_has (S : ZS) {s p : Nat} (hs : s < 2147483648) (hp : p < 31) (n : Nat) : fM_has n S (s : Int) (p : Int) = some (bZ (s.testBit p)) := by
  unfold fM_has
  rw [zbit_n hs hp]
  cases s.testBit p <;> (rw [gC_pos (by omega) (by omega) (by omega) (by omega)]; rfl)
theorem sm_yardsOf (h : mAt S T) (w : wfR T) {s : Nat} (hs : s < 256) {n : Nat} (hn : 20 ≤ n) : fM_yardsOf n S (s : Int) = some (Yd T s) := by
  have h1 := w.1
  have e := loop_for (F := fun n a p => fM_yardsOf_1 n S (s : Int) a p) (sumTo (yF T s)) (T.2 6) 0 (res := some (Yd T s)) ?_ ?_ n (by omega)
  · unfold fM_yardsOf
    rw [show fM_yardsOf_1 n S (s : Int) 0 0 = some (Yd T s) from e]
    rfl
  · intro n p hp _
    show fM_yardsOf_1 (n + 1) S (s : Int) (sumTo (yF T s) p) (p : Int) = fM_yardsOf_1 n S (s : Int) (sumTo (yF T s) p + yF T s p) ((p : Int) + 1)
    have hz := h.2.1 1 p (by omega) hp
    rw [show ((1 : Nat) : Int) = 1 from rfl] at hz
    rw [fM_yardsOf_1, h.1.1, gC_pos (by omega) (by omega) (by omega) (by omega), if_pos (by omega), sm_has S (by omega) (by omega), Option.bind_some, gC_b]
    unfold yF
    cases b : s.testBit p with
    | true => rw [if_neg (show ¬ bZ true = 0 by decide), gX_pos (by omega) (by omega) (by omega), hz, if_pos rfl]
    | false => rw [if_pos (show bZ false = 0 from rfl), if_neg (by decide)]
  · intro n _
    show fM_yardsOf_1 (n + 1) S (s : Int) (sumTo (yF T s) (T.2 6)) (T.2 6 : Int) = _
    rw [fM_yardsOf_1, h.1.1, gC_pos (by omega) (by omega) (by omega) (by omega), if_neg (by omega)]
    rfl
theorem sm_rests (h : mAt S T) (w : wfR T) {s : Nat} (hs : s < 256) {n : Nat} (hn : 20 ≤ n) : fM_rests n S (s : Int) = some (bZ (firmB T s)) := by
  have h1 := w.1
  have hq := pw_le h1
  have e := loop_for (F := fun n a p => fM_rests_1 n S (s : Int) a p) (fun p => bZ (allTo (fun p => !fF T s p) p)) (T.2 6) 0 (res := some (bZ (firmB T s))) ?_ ?_ n (by omega)
  · unfold fM_rests
    rw [show fM_rests_1 n S (s : Int) 1 0 = _ from e, Option.bind_some, gB_b]
  · intro n p hp _
    show fM_rests_1 (n + 1) S (s : Int) (bZ (allTo (fun p => !fF T s p) p)) (p : Int) = fM_rests_1 n S (s : Int) (bZ (allTo (fun p => !fF T s p) p && !fF T s p)) ((p : Int) + 1)
    have hz := h.2.1 4 p (by omega) hp
    have hz : zA S 50 (5 * (p : Int) + 4) = (T.1 5 p : Int) := hz
    have hr := (w.2.2.1 p hp).2.2.2.2.2
    have hle := nDf_le (T.1 5 p) s
    rw [fM_rests_1, h.1.1, gC_pos (by omega) (by omega) (by omega) (by omega), if_pos (by omega), gC_b, sm_has S (by omega) (by omega), Option.bind_some, gC_b]
    cases allTo (fun p => !fF T s p) p with
    | false => rfl
    | true =>
      rw [if_neg (show ¬ bZ true = 0 by decide)]
      unfold fF
      cases b : s.testBit p with
      | false => rfl
      | true =>
        rw [if_neg (show ¬ bZ true = 0 by decide), gX_pos (by omega) (by omega) (by omega), hz, zdf_n (by omega) (by omega), gC_pos (by omega) (by omega) (by omega) (by omega)]
        by_cases d : nDf (T.1 5 p) s = 0
        · rw [d]; rfl
        · rw [if_neg (by omega), show (nDf (T.1 5 p) s == 0) = false by simp [d]]
          rfl
  · intro n _
    show fM_rests_1 (n + 1) S (s : Int) _ (T.2 6 : Int) = _
    rw [fM_rests_1, h.1.1, gC_pos (by omega) (by omega) (by omega) (by omega), if_neg (by omega)]
    rfl
theorem zor_0 {a : Nat} (ha : a < 2147483648) : zor (a : Int) 0 = (a : Int) := by
  rw [show (0 : Int) = ((0 : Nat) : Int) from rfl, zor_n ha (by omega), Nat.or_zero]
theorem sm_sheltered (h : mAt S T) (w : wfR T) {s : Nat} (hs : s < 256) {n : Nat} (hn : 20 ≤ n) : fM_shelteredBy n S (s : Int) = some ((shM T s : Nat) : Int) := by
  have h1 := w.2.1
  have hq := pw_le w.1
  have e := loop_for (F := fun n a p => fM_shelteredBy_1 n S (s : Int) a p) (fun p => ((maskTo (sF T s) p : Nat) : Int)) (T.2 7) 0 (res := some ((shM T s : Nat) : Int)) ?_ ?_ n (by omega)
  · unfold fM_shelteredBy
    rw [show fM_shelteredBy_1 n S (s : Int) 0 0 = _ from e]
    rfl
  · intro n p hp _
    show fM_shelteredBy_1 (n + 1) S (s : Int) ((maskTo (sF T s) p : Nat) : Int) (p : Int) = fM_shelteredBy_1 n S (s : Int) ((maskTo (sF T s) (p + 1) : Nat) : Int) ((p : Int) + 1)
    have hr := w.2.2.2 p hp
    have hle : T.1 6 p &&& s ≤ s := Nat.and_le_right
    have hm := maskTo_lt (sF T s) p
    have hm2 : 2 ^ p ≤ 256 := pw_le (by omega)
    rw [fM_shelteredBy_1, h.1.2.1, gC_pos (by omega) (by omega) (by omega) (by omega), if_pos (by omega), gX_pos (by omega) (by omega) (by omega), h.2.2 p hp, zand_n (by omega) (by omega), gC_pos (by omega) (by omega) (by omega) (by omega)]
    by_cases b : T.1 6 p &&& s = 0
    · rw [b, if_pos (show ((0 : Nat) : Int) = 0 from rfl), zor_0 (by omega)]
      have : sF T s p = false := by unfold sF; rw [b]; rfl
      simp only [maskTo, this]
      rfl
    · rw [if_neg (by omega), mask_or (by omega)]
      have : sF T s p = true := by unfold sF; simp [b]
      simp only [maskTo, this]
      rfl
  · intro n _
    show fM_shelteredBy_1 (n + 1) S (s : Int) _ (T.2 7 : Int) = _
    rw [fM_shelteredBy_1, h.1.2.1, gC_pos (by omega) (by omega) (by omega) (by omega), if_neg (by omega)]
    rfl
theorem sm_gg (h : mAt S T) (w : wfR T) {p : Nat} (hp : p < T.2 6) (n : Nat) : fM_givenBy n S (p : Int) = some (gg T p) := by
  have h1 := w.1
  have h2 := w.2.2.1 p hp
  have hz := h.2.1 0 p (by omega) hp
  have hy := h.2.1 1 p (by omega) hp
  rw [show ((0 : Nat) : Int) = 0 from rfl, Int.add_zero] at hz
  rw [show ((1 : Nat) : Int) = 1 from rfl] at hy
  unfold fM_givenBy gg
  rw [gX_pos (by omega) (by omega) (by omega), gX_pos (by omega) (by omega) (by omega), hz, hy]
  simp only [Nat.zero_add, Nat.reduceAdd]
  rw [gC_pos (by omega) (by omega) (by omega) (by omega)]
  by_cases c1 : T.1 1 p = 1
  · rw [if_pos (by omega), if_pos c1]
  · rw [if_neg (by omega), if_neg c1, gC_pos (by omega) (by omega) (by omega) (by omega)]
    by_cases c2 : T.1 1 p = 2
    · rw [if_pos (by omega), if_pos c2]
    · rw [if_neg (by omega), if_neg c2, gC_pos (by omega) (by omega) (by omega) (by omega)]
      by_cases c3 : T.1 1 p = 3
      · rw [if_pos (by omega), gV_pos (by omega) (by omega) (by omega) (by omega), if_pos c3]
        rfl
      · rw [if_neg (by omega), if_neg c3]
theorem sm_gc (h : mAt S T) (w : wfR T) {p : Nat} (hp : p < T.2 6) (n : Nat) : fM_takenBy n S (p : Int) = some (-gc T p) := by
  have h1 := w.1
  have h2 := w.2.2.1 p hp
  have hz := h.2.1 0 p (by omega) hp
  have hy := h.2.1 1 p (by omega) hp
  rw [show ((0 : Nat) : Int) = 0 from rfl, Int.add_zero] at hz
  rw [show ((1 : Nat) : Int) = 1 from rfl] at hy
  unfold fM_takenBy gc
  rw [gX_pos (by omega) (by omega) (by omega), hz, hy]
  simp only [Nat.zero_add, Nat.reduceAdd]
  rw [gC_pos (by omega) (by omega) (by omega) (by omega)]
  by_cases c1 : T.1 1 p = 2
  · rw [if_pos (by omega), gX_pos (by omega) (by omega) (by omega), if_pos c1]
  · rw [if_neg (by omega), gX_pos (by omega) (by omega) (by omega), if_neg c1, Int.neg_neg]
def mF (T : TW) (go come : Nat) : Nat → Int := fun p => (if go.testBit p = true then gg T p else 0) + (if come.testBit p = true then gc T p else 0)
def Mo (T : TW) (go come : Nat) : Int := sumTo (mF T go come) (T.2 6)
theorem Mo_bd (w : wfR T) (go come : Nat) : -1600 ≤ Mo T go come ∧ Mo T go come ≤ 1600 := by
  have := sumTo_bd (f := mF T go come) (B := 198) (T.2 6) (fun i hi => by
    have h1 := gg_bd w hi
    have h2 := gc_bd w hi
    unfold mF
    split <;> split <;> omega)
  have h1 := w.1
  unfold Mo
  omega
theorem sm_moreBy (h : mAt S T) (w : wfR T) {go come : Nat} (hg : go < 256) (hc : come < 256) {n : Nat} (hn : 20 ≤ n) : fM_moreBy n S (go : Int) (come : Int) = some (Mo T go come) := by
  have h1 := w.1
  have e := loop_for (F := fun n a p => fM_moreBy_1 n S (go : Int) (come : Int) a p) (sumTo (mF T go come)) (T.2 6) 0 (res := some (Mo T go come)) ?_ ?_ n (by omega)
  · unfold fM_moreBy
    rw [show fM_moreBy_1 n S (go : Int) (come : Int) 0 0 = _ from e]
    rfl
  · intro n p hp _
    show fM_moreBy_1 (n + 1) S (go : Int) (come : Int) (sumTo (mF T go come) p) (p : Int) = fM_moreBy_1 n S (go : Int) (come : Int) (sumTo (mF T go come) p + mF T go come p) ((p : Int) + 1)
    rw [fM_moreBy_1, h.1.1, gC_pos (by omega) (by omega) (by omega) (by omega), if_pos (by omega), sm_has S (by omega) (by omega), sm_has S (by omega) (by omega), Option.bind_some, gC_b, sm_gg h w hp, sm_gc h w hp, Option.bind_some]
    unfold mF
    cases b : go.testBit p with
    | true =>
      rw [if_neg (show ¬ bZ true = 0 by decide), Option.bind_some, Option.bind_some, gC_b, if_pos rfl]
      cases d : come.testBit p with
      | true => rw [if_neg (show ¬ bZ true = 0 by decide), if_pos rfl, Option.bind_some, Int.sub_neg]
      | false => rw [if_pos (show bZ false = 0 from rfl), if_neg (show ¬ false = true by decide), Int.sub_zero, Int.add_zero]
    | false =>
      rw [if_pos (show bZ false = 0 from rfl), Option.bind_some, Option.bind_some, gC_b, if_neg (show ¬ false = true by decide)]
      cases d : come.testBit p with
      | true => rw [if_neg (show ¬ bZ true = 0 by decide), if_pos rfl, Option.bind_some, Int.sub_neg]
      | false => rw [if_pos (show bZ false = 0 from rfl), if_neg (show ¬ false = true by decide)]; simp only [Int.sub_zero, Int.add_zero]
  · intro n _
    show fM_moreBy_1 (n + 1) S (go : Int) (come : Int) _ (T.2 6 : Int) = _
    rw [fM_moreBy_1, h.1.1, gC_pos (by omega) (by omega) (by omega) (by omega), if_neg (by omega)]
    rfl
theorem sm_most (S : ZS) (n : Nat) {x : Int} (h1 : -2147483648 ≤ x) (h2 : x < 2147483648) : fM_most n S x = some (min 999 x) := by
  unfold fM_most
  rw [gC_pos h1 h2 (by omega) (by omega)]
  by_cases c : 999 < x
  · rw [if_pos c, Int.min_eq_left (by omega)]
  · rw [if_neg c, Int.min_eq_right (by omega)]
def elB (T : TW) (from_ go come : Nat) : Bool := decide (Yd T go + Yd T come ≤ (T.2 11 : Int)) && firmB T (nDf from_ go ||| come) && dryB T (from_ &&& (nDf from_ go ||| come))
theorem sm_mayElse (h : mAt S T) (w : wfR T) (hw : T.2 11 ≤ 999) {from_ go come : Nat} (hf : from_ < 2 ^ T.2 6) (hg : go < 2 ^ T.2 6) (hc : come < 2 ^ T.2 6) {n : Nat} (hn : 20 ≤ n) : fM_mayElse n S (from_ : Int) (go : Int) (come : Int) = some (bZ (elB T from_ go come)) := by
  have hq := pw_le w.1
  have h1 := w.2.1
  have hy1 := Yd_bd w go
  have hy2 := Yd_bd w come
  have hto : nDf from_ go ||| come < 2 ^ T.2 6 := Nat.or_lt_two_pow (nDf_lt hf) hc
  have hdf : nDf from_ go < 2 ^ T.2 6 := nDf_lt hf
  have loop : ∀ b : Bool, ∀ n : Nat, 20 ≤ n → fM_mayElse_1 n S (from_ : Int) ((nDf from_ go ||| come : Nat) : Int) (bZ b) 0 = some (bZ (b && dryB T (from_ &&& (nDf from_ go ||| come)))) := by
    intro b n hn
    cases b with
    | false =>
      obtain ⟨m, rfl⟩ : ∃ m, n = m + 1 := ⟨n - 1, by omega⟩
      rw [fM_mayElse_1, h.1.2.1, gC_pos (by omega) (by omega) (by omega) (by omega)]
      by_cases c : (0 : Int) < (T.2 7 : Int)
      · rw [if_pos c, gC_b]; rfl
      · rw [if_neg c]; rfl
    | true =>
      have e := loop_ex (F := fun n a p => fM_mayElse_1 n S (from_ : Int) ((nDf from_ go ||| come : Nat) : Int) a p) (fun _ => bZ true) (T.2 7) 1 (fun p => !sF T (from_ &&& (nDf from_ go ||| come)) p) (fun _ => some 0) (res := some 1) ?_ ?_ ?_ n (by omega)
      · rw [show fM_mayElse_1 n S (from_ : Int) ((nDf from_ go ||| come : Nat) : Int) (bZ true) 0 = _ from e, Bool.true_and]
        unfold dryB
        cases hf : firstTo (fun p => !sF T (from_ &&& (nDf from_ go ||| come)) p) (T.2 7) with
        | none =>
          have := firstTo_all.mp hf
          simp only [Bool.not_not] at this
          rw [this]
          rfl
        | some k =>
          have : allTo (sF T (from_ &&& (nDf from_ go ||| come))) (T.2 7) = false := by
            cases ha : allTo (sF T (from_ &&& (nDf from_ go ||| come))) (T.2 7) with
            | false => rfl
            | true =>
              rw [firstTo_all.mpr (by simp only [Bool.not_not]; exact ha)] at hf
              cases hf
          rw [this]
          rfl
      · intro n p hp _ hc
        show fM_mayElse_1 (n + 1) S (from_ : Int) ((nDf from_ go ||| come : Nat) : Int) (bZ true) (p : Int) = fM_mayElse_1 n S (from_ : Int) ((nDf from_ go ||| come : Nat) : Int) 1 ((p : Int) + 1)
        have hr := w.2.2.2 p hp
        have hl1 : T.1 6 p &&& from_ ≤ from_ := Nat.and_le_right
        have hl2 : T.1 6 p &&& from_ &&& (nDf from_ go ||| come) ≤ T.1 6 p &&& from_ := Nat.and_le_left
        rw [fM_mayElse_1, h.1.2.1, gC_pos (by omega) (by omega) (by omega) (by omega), if_pos (by omega), gC_b, if_neg (show ¬ bZ true = 0 by decide), gX_pos (by omega) (by omega) (by omega), h.2.2 p hp, zand_n (by omega) (by omega), zand_n (by omega) (by omega), gC_pos (by omega) (by omega) (by omega) (by omega), if_neg]
        intro q
        unfold sF at hc
        rw [← Nat.and_assoc, show T.1 6 p &&& from_ &&& (nDf from_ go ||| come) = 0 by omega] at hc
        cases hc
      · intro n p hp hn1 hc _
        show fM_mayElse_1 (n + 1) S (from_ : Int) ((nDf from_ go ||| come : Nat) : Int) (bZ true) (p : Int) = some 0
        have hr := w.2.2.2 p hp
        have hl1 : T.1 6 p &&& from_ ≤ from_ := Nat.and_le_right
        have hl2 : T.1 6 p &&& from_ &&& (nDf from_ go ||| come) ≤ T.1 6 p &&& from_ := Nat.and_le_left
        have hz : T.1 6 p &&& from_ &&& (nDf from_ go ||| come) = 0 := by
          unfold sF at hc
          rw [← Nat.and_assoc] at hc
          simpa using hc
        rw [fM_mayElse_1, h.1.2.1, gC_pos (by omega) (by omega) (by omega) (by omega), if_pos (by omega), gC_b, if_neg (show ¬ bZ true = 0 by decide), gX_pos (by omega) (by omega) (by omega), h.2.2 p hp, zand_n (by omega) (by omega), zand_n (by omega) (by omega), hz, gC_pos (by omega) (by omega) (by omega) (by omega), if_pos (show ((0 : Nat) : Int) = 0 from rfl)]
        obtain ⟨m, rfl⟩ : ∃ m, n = m + 1 := ⟨n - 1, by omega⟩
        rw [fM_mayElse_1, h.1.2.1, gC_pos (by omega) (by omega) (by omega) (by omega)]
        by_cases c : (p : Int) + 1 < (T.2 7 : Int)
        · rw [if_pos c, gC_pos (by omega) (by omega) (by omega) (by omega)]; rfl
        · rw [if_neg c]
      · intro n _ _
        show fM_mayElse_1 (n + 1) S (from_ : Int) ((nDf from_ go ||| come : Nat) : Int) (bZ true) (T.2 7 : Int) = _
        rw [fM_mayElse_1, h.1.2.1, gC_pos (by omega) (by omega) (by omega) (by omega), if_neg (by omega)]
        rfl
  unfold fM_mayElse elB
  rw [sm_yardsOf h w (by omega) hn, Option.bind_some, sm_yardsOf h w (by omega) hn, Option.bind_some, h.1.2.2.2.2.2, gC_pos (by omega) (by omega) (by omega) (by omega), zdf_n (by omega) (by omega), zor_n (by omega) (by omega), sm_rests h w (by omega) hn, Option.bind_some, gC_b]
  by_cases c1 : (T.2 11 : Int) < Yd T go + Yd T come
  · rw [if_pos c1, decide_eq_false (by omega), Option.bind_some, show (0 : Int) = bZ false from rfl, show fM_mayElse_1 n S (from_ : Int) ((nDf from_ go ||| come : Nat) : Int) (bZ false) (bZ false) = _ from loop false n hn, Option.bind_some, gB_b]
    rfl
  · rw [if_neg c1, decide_eq_true (by omega)]
    cases hfm : firmB T (nDf from_ go ||| come) with
    | false =>
      rw [if_pos (show bZ false = 0 from rfl), Option.bind_some, show fM_mayElse_1 n S (from_ : Int) ((nDf from_ go ||| come : Nat) : Int) 0 0 = _ from loop false n hn, Option.bind_some, gB_b]
      rfl
    | true =>
      rw [if_neg (show ¬ bZ true = 0 by decide), Option.bind_some, show fM_mayElse_1 n S (from_ : Int) ((nDf from_ go ||| come : Nat) : Int) 1 0 = _ from loop true n hn, Option.bind_some, gB_b]
      rfl
theorem sm_isWeek (h : mAt S T) (w : wfR T) {from_ : Nat} (hN : from_ < 2 ^ T.2 6) (n : Nat) {x y : Int} (h1 : -9223372036854775808 ≤ x) (h2 : x < 9223372036854775808) (h3 : -9223372036854775808 ≤ y) (h4 : y < 9223372036854775808) : fM_isWeek n S (from_ : Int) x y = some (bZ (wkB T from_ x y)) := by
  have hq := pw_le w.1
  unfold fM_isWeek wkB
  rw [sm_isSet h w n h1 h2, Option.bind_some, gC_b, sm_isSet h w n h3 h4, Option.bind_some, gC_b]
  cases hx : inSet T x with
  | false => rw [if_pos (show bZ false = 0 from rfl)]; rfl
  | true =>
    rw [if_neg (show ¬ bZ true = 0 by decide)]
    cases hy : inSet T y with
    | false => rw [if_pos (show bZ false = 0 from rfl)]; rfl
    | true =>
      rw [if_neg (show ¬ bZ true = 0 by decide)]
      obtain ⟨a, rfl, ha⟩ := inSet_nat hx
      obtain ⟨b, rfl, hb⟩ := inSet_nat hy
      have hd := nDf_le a from_
      have ha2 : b &&& from_ ≤ b := Nat.and_le_left
      rw [zldf_n (by omega) (by omega), zlan_n (by omega) (by omega), zxor_m1 (by omega), gC_pos (by omega) (by omega) (by omega) (by omega), gL_pos (by omega) (by omega) (by omega) (by omega), gC_cmp, gC_pos (by omega) (by omega) (by omega) (by omega), gL_pos (by omega) (by omega) (by omega) (by omega), gC_cmp]
      simp only [Int.toNat_natCast, Bool.true_and]
      by_cases c : nDf a from_ = 0
      · rw [c, if_pos (by decide)]
        by_cases d : b &&& from_ = 0
        · rw [d, if_pos (by decide)]
          exact gB_1
        · rw [if_neg (fun q => d (by have := zcmp_eq.mp q; omega))]
          rw [show ((b &&& from_) == 0) = false by simp [d]]
          exact gB_0
      · rw [if_neg (fun q => c (by have := zcmp_eq.mp q; omega))]
        rw [show (nDf a from_ == 0) = false by simp [c]]
        exact gB_0
def lwB (T : TW) (from_ : Nat) (has : Int) (go come : Nat) : Bool := elB T from_ go come && decide (0 ≤ has + Mo T go come)
theorem sm_isLawful (h : mAt S T) (w : wfR T) (hw : T.2 11 ≤ 999) {from_ go come : Nat} {has : Int} (h0 : 0 ≤ has) (h9 : has ≤ 999) (hf : from_ < 2 ^ T.2 6) (hg : go < 2 ^ T.2 6) (hc : come < 2 ^ T.2 6) {n : Nat} (hn : 20 ≤ n) : fM_isLawful n S (from_ : Int) has (go : Int) (come : Int) = some (bZ (lwB T from_ has go come)) := by
  have hq := pw_le w.1
  have hm := Mo_bd w go come
  unfold fM_isLawful lwB
  rw [sm_mayElse h w hw hf hg hc hn, Option.bind_some, gC_b, sm_moreBy h w (by omega) (by omega) hn, Option.bind_some, gC_pos (by omega) (by omega) (by omega) (by omega), gB_0, gB_1]
  cases elB T from_ go come with
  | false => rfl
  | true =>
    rw [if_neg (show ¬ bZ true = 0 by decide)]
    by_cases c : has + Mo T go come < 0
    · rw [if_pos c, decide_eq_false (by omega)]; rfl
    · rw [if_neg c, decide_eq_true (by omega)]; rfl
end MS
/-! ===== both alike ===== -/
theorem sumTo_cg {f g : Nat → Int} : ∀ {k : Nat}, (∀ i, i < k → f i = g i) → sumTo f k = sumTo g k := by
  intro k
  induction k with
  | zero => intro _; rfl
  | succ k ih =>
    intro h
    unfold sumTo
    rw [ih (fun i hi => h i (by omega)), h k (by omega)]
theorem sumTo_add (f g : Nat → Int) (k : Nat) : sumTo (fun i => f i + g i) k = sumTo f k + sumTo g k := by
  induction k with
  | zero => rfl
  | succ k ih => unfold sumTo; rw [ih]; omega
def apart (a b : Nat) : Prop := a &&& b = 0
theorem apart_bit {a b : Nat} (h : apart a b) (i : Nat) : ¬ (a.testBit i = true ∧ b.testBit i = true) := by
  intro q
  have : (a &&& b).testBit i = true := by rw [Nat.testBit_and, q.1, q.2]; rfl
  rw [h] at this
  simp at this
theorem Mo_Ov {T : TW} {go come : Nat} (h : apart go come) : Mo T go come = Ov T go come := by
  apply sumTo_cg
  intro i _
  have := apart_bit h i
  unfold mF oF
  cases h1 : go.testBit i <;> cases h2 : come.testBit i <;> simp_all
theorem Yd_or {T : TW} {go come : Nat} (h : apart go come) : Yd T (go ||| come) = Yd T go + Yd T come := by
  unfold Yd
  rw [← sumTo_add]
  apply sumTo_cg
  intro i _
  have := apart_bit h i
  unfold yF
  rw [Nat.testBit_or]
  cases h1 : go.testBit i <;> cases h2 : come.testBit i <;> simp_all
theorem wk_apart {a b s : Nat} (h1 : nDf a s = 0) (h2 : b &&& s = 0) : apart a b := by
  apply Nat.eq_of_testBit_eq
  intro i
  rw [Nat.testBit_and, Nat.zero_testBit]
  have e1 : (nDf a s).testBit i = false := by rw [h1]; simp
  have e2 : (b &&& s).testBit i = false := by rw [h2]; simp
  rw [nDf_bit] at e1
  rw [Nat.testBit_and] at e2
  cases ha : a.testBit i <;> cases hb : b.testBit i <;> simp_all
theorem wk_both {a b s : Nat} (h2 : b &&& s = 0) : s &&& (nDf s a ||| b) = nDf s a := by
  apply Nat.eq_of_testBit_eq
  intro i
  have e2 : (b &&& s).testBit i = false := by rw [h2]; simp
  rw [Nat.testBit_and] at e2
  rw [Nat.testBit_and, Nat.testBit_or, nDf_bit]
  cases ha : a.testBit i <;> cases hb : b.testBit i <;> cases hs : s.testBit i <;> simp_all
theorem law_eq {T : TW} {go come : Nat} (h1 : nDf go (T.2 8) = 0) (h2 : come &&& T.2 8 = 0) : lwB T (T.2 8) (T.2 10 : Int) go come = lawB T go come := by
  unfold lwB elB lawB
  rw [Mo_Ov (wk_apart h1 h2), Yd_or (wk_apart h1 h2), wk_both h2]
  cases decide (0 ≤ (T.2 10 : Int) + Ov T go come) <;> cases decide (Yd T go + Yd T come ≤ (T.2 11 : Int)) <;> cases firmB T (nDf (T.2 8) go ||| come) <;> cases dryB T (nDf (T.2 8) go) <;> rfl
