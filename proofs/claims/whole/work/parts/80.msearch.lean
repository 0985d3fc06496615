/-! ===== the reference's search ===== -/
def mT (S : ZS) (T : TW) : Prop := ∀ s : Nat, s < 2 ^ T.2 6 → zA S 54 (s : Int) = Yd T s ∧ zA S 55 (s : Int) = bZ (firmB T s) ∧ zA S 56 (s : Int) = Mo T s 0 ∧ zA S 57 (s : Int) = -(Mo T 0 s)
theorem frR_mAt {lo hi : Nat} {S S' : ZS} (h : frR lo hi S S') {T : TW} (hm : mAt S T) (h1 : 51 < lo) : mAt S' T := fr_mAt (frR_fr h 1000) hm (Or.inl h1) (by omega)
theorem zR_inr {α β : Type} (x : β) (f : β → Option α) : zR (some (.inr x)) f = f x := rfl
section MS2
variable {S : ZS} {T : TW} {mv : Nat}
theorem sm_sets (hm : mAt S T) (w : wfR T) {n : Nat} (hn : 400 ≤ n) : ∃ S', fM_findSets n S = some S' ∧ mT S' T ∧ frR 54 57 S S' := by
  have hq := pw_le w.1
  have hp := pw_pos (T.2 6)
  have w6 := w.1
  have e := loop_inv (F := fun n a p => fM_findSets_1 n a p) (fun p a => (∀ s : Nat, s < p → zA a 54 (s : Int) = Yd T s ∧ zA a 55 (s : Int) = bZ (firmB T s) ∧ zA a 56 (s : Int) = Mo T s 0 ∧ zA a 57 (s : Int) = -(Mo T 0 s)) ∧ frR 54 57 S a) (fun a => mT a T ∧ frR 54 57 S a) (2 ^ T.2 6) 50 ?_ ?_ n S (by omega) ⟨fun s hs => absurd hs (by omega), frR_rfl⟩
  · obtain ⟨S', e1, e2, e3⟩ := e
    refine ⟨S', ?_, e2, e3⟩
    unfold fM_findSets
    rw [e1]
    rfl
  · intro n s a hs hn ⟨h1, h2⟩
    have m0 := frR_mAt h2 hm (by omega)
    have g1 : frR 54 57 a (wA a 54 (s : Int) (Yd T s)) := frR_wA _ _ _ (by omega) (by omega)
    have m1 := frR_mAt g1 m0 (by omega)
    have g2 : frR 54 57 (wA a 54 (s : Int) (Yd T s)) (wA (wA a 54 (s : Int) (Yd T s)) 55 (s : Int) (bZ (firmB T s))) := frR_wA _ _ _ (by omega) (by omega)
    have m2 := frR_mAt g2 m1 (by omega)
    have g3 : frR 54 57 (wA (wA a 54 (s : Int) (Yd T s)) 55 (s : Int) (bZ (firmB T s))) (wA (wA (wA a 54 (s : Int) (Yd T s)) 55 (s : Int) (bZ (firmB T s))) 56 (s : Int) (Mo T s 0)) := frR_wA _ _ _ (by omega) (by omega)
    have m3 := frR_mAt g3 m2 (by omega)
    have g4 : frR 54 57 (wA (wA (wA a 54 (s : Int) (Yd T s)) 55 (s : Int) (bZ (firmB T s))) 56 (s : Int) (Mo T s 0)) (wA (wA (wA (wA a 54 (s : Int) (Yd T s)) 55 (s : Int) (bZ (firmB T s))) 56 (s : Int) (Mo T s 0)) 57 (s : Int) (-(Mo T 0 s))) := frR_wA _ _ _ (by omega) (by omega)
    have e3 := sm_moreBy m2 w (go := s) (come := 0) (by omega) (by omega) (n := n) (by omega)
    have e4 := sm_moreBy m3 w (go := 0) (come := s) (by omega) (by omega) (n := n) (by omega)
    have e3 : fM_moreBy n (wA (wA a 54 (s : Int) (Yd T s)) 55 (s : Int) (bZ (firmB T s))) (s : Int) 0 = some (Mo T s 0) := e3
    have e4 : fM_moreBy n (wA (wA (wA a 54 (s : Int) (Yd T s)) 55 (s : Int) (bZ (firmB T s))) 56 (s : Int) (Mo T s 0)) 0 (s : Int) = some (Mo T 0 s) := e4
    refine ⟨wA (wA (wA (wA a 54 (s : Int) (Yd T s)) 55 (s : Int) (bZ (firmB T s))) 56 (s : Int) (Mo T s 0)) 57 (s : Int) (-(Mo T 0 s)), ⟨fun s' hs' => ?_, frR_trans h2 (frR_trans g1 (frR_trans g2 (frR_trans g3 g4)))⟩, ?_⟩
    · simp only [zA_wA]
      by_cases c : s' = s
      · subst c
        simp
      · have c' : ¬ (s' : Int) = (s : Int) := by omega
        simp [c']
        exact h1 s' (by omega)
    · show fM_findSets_1 (n + 1) a (s : Int) = _
      rw [fM_findSets_1, m0.1.1, zshl_1 (by omega), gC_pos (by omega) (by omega) (by omega) (by omega), if_pos (by omega), sm_yardsOf m0 w (by omega) (by omega), Option.bind_some, gX_pos (by omega) (by omega) (by omega), sm_rests m1 w (by omega) (by omega), Option.bind_some, gB_b, gX_pos (by omega) (by omega) (by omega), e3, Option.bind_some, gX_pos (by omega) (by omega) (by omega), e4, Option.bind_some, gX_pos (by omega) (by omega) (by omega)]
  · intro n a hn ⟨h1, h2⟩
    have m0 := frR_mAt h2 hm (by omega)
    refine ⟨a, ?_, fun s hs => h1 s hs, h2⟩
    show fM_findSets_1 (n + 1) a ((2 ^ T.2 6 : Nat) : Int) = _
    rw [fM_findSets_1, m0.1.1, zshl_1 (by omega), gC_pos (by omega) (by omega) (by omega) (by omega), if_neg (by omega)]
theorem Mo_gv (s to : Nat) : Mo T (nDf s to) 0 - -(Mo T 0 (nDf to s)) = gv T s to := by
  have h1 : Mo T (nDf s to) 0 = Ov T (nDf s to) 0 := Mo_Ov (Nat.and_zero _)
  have h2 : Mo T 0 (nDf to s) = Ov T 0 (nDf to s) := Mo_Ov (Nat.zero_and _)
  have h3 := Ov_split (T := T) (df_apart s to)
  unfold gv
  omega
theorem sm_needBy (hm : mAt S T) (w : wfT T) (ht : mT S T) {s to : Nat} {v : Int} (hs : s < 2 ^ T.2 6) (hto : to < 2 ^ T.2 6) (hv : 0 ≤ v ∧ v ≤ 1000000) {n : Nat} (hn : 20 ≤ n) : fM_needBy n S (s : Int) (to : Int) v = some (nb T s to v) := by
  have hq := pw_le w.1.1
  have w7 := w.1.2.1
  have h11 := w.2.1.2.2.2.2
  have h1 : nDf s to < 2 ^ T.2 6 := nDf_lt hs
  have h2 : nDf to s < 2 ^ T.2 6 := nDf_lt hto
  have y1 := Yd_bd w.1 (nDf s to)
  have y2 := Yd_bd w.1 (nDf to s)
  have gb := gv_bd w.1 s to
  have mg := Mo_gv (T := T) s to
  have loop : ∀ n, 20 ≤ n → fM_needBy_1 n S (s : Int) (to : Int) v ((nDf s to : Nat) : Int) ((nDf to s : Nat) : Int) 0 = if dryB T (s &&& to) = true then some (.inr ()) else some (.inl 1000000) := by
    intro n hn
    have e := loop_ex (F := fun n (_ : Unit) p => fM_needBy_1 n S (s : Int) (to : Int) v ((nDf s to : Nat) : Int) ((nDf to s : Nat) : Int) p) (fun _ => ()) (T.2 7) 0 (fun p => !sF T (s &&& to) p) (fun _ => some (.inl 1000000)) (res := some (.inr ())) ?_ ?_ ?_ n (by omega)
    · refine (show fM_needBy_1 n S (s : Int) (to : Int) v ((nDf s to : Nat) : Int) ((nDf to s : Nat) : Int) 0 = _ from e).trans ?_
      unfold dryB
      cases hf : firstTo (fun p => !sF T (s &&& to) p) (T.2 7) with
      | none =>
        have := firstTo_all.mp hf
        simp only [Bool.not_not] at this
        rw [if_pos this]
      | some k =>
        rw [if_neg]
        intro ha
        rw [firstTo_all.mpr (by simp only [Bool.not_not]; exact ha)] at hf
        cases hf
    · intro n p hp _ hc
      show fM_needBy_1 (n + 1) S (s : Int) (to : Int) v ((nDf s to : Nat) : Int) ((nDf to s : Nat) : Int) (p : Int) = fM_needBy_1 n S (s : Int) (to : Int) v ((nDf s to : Nat) : Int) ((nDf to s : Nat) : Int) ((p : Int) + 1)
      have hr := w.1.2.2.2 p hp
      have l1 : T.1 6 p &&& s ≤ s := Nat.and_le_right
      have l2 : T.1 6 p &&& s &&& to ≤ to := Nat.and_le_right
      rw [fM_needBy_1, hm.1.2.1, gC_pos (by omega) (by omega) (by omega) (by omega), if_pos (by omega), gX_pos (by omega) (by omega) (by omega), hm.2.2 p hp, zand_n (by omega) (by omega), zand_n (by omega) (by omega), gC_pos (by omega) (by omega) (by omega) (by omega), if_neg]
      intro q
      have hc : sF T (s &&& to) p = true := by simpa using hc
      unfold sF at hc
      rw [← Nat.and_assoc, show T.1 6 p &&& s &&& to = 0 by omega] at hc
      cases hc
    · intro n p hp _ hc _
      show fM_needBy_1 (n + 1) S (s : Int) (to : Int) v ((nDf s to : Nat) : Int) ((nDf to s : Nat) : Int) (p : Int) = _
      have hr := w.1.2.2.2 p hp
      have l1 : T.1 6 p &&& s ≤ s := Nat.and_le_right
      have hz : T.1 6 p &&& s &&& to = 0 := by
        have hc : sF T (s &&& to) p = false := by simpa using hc
        unfold sF at hc
        rw [← Nat.and_assoc] at hc
        simpa using hc
      rw [fM_needBy_1, hm.1.2.1, gC_pos (by omega) (by omega) (by omega) (by omega), if_pos (by omega), gX_pos (by omega) (by omega) (by omega), hm.2.2 p hp, zand_n (by omega) (by omega), zand_n (by omega) (by omega), hz, gC_pos (by omega) (by omega) (by omega) (by omega), if_pos (show ((0 : Nat) : Int) = 0 from rfl)]
    · intro n _ _
      show fM_needBy_1 (n + 1) S (s : Int) (to : Int) v ((nDf s to : Nat) : Int) ((nDf to s : Nat) : Int) (T.2 7 : Int) = _
      rw [fM_needBy_1, hm.1.2.1, gC_pos (by omega) (by omega) (by omega) (by omega), if_neg (by omega)]
  unfold fM_needBy nb
  rw [gC_pos (x := v) (y := 999) (by omega) (by omega) (by omega) (by omega)]
  by_cases c1 : 999 < v
  · rw [if_pos c1, if_pos c1]
  · rw [if_neg c1, if_neg c1, zdf_n (by omega) (by omega), zdf_n (by omega) (by omega), gX_pos (by omega) (by omega) (by omega), gX_pos (by omega) (by omega) (by omega), (ht _ h1).1, (ht _ h2).1, hm.1.2.2.2.2.2, gC_pos (x := Yd T (nDf s to) + Yd T (nDf to s)) (by omega) (by omega) (by omega) (by omega)]
    by_cases c2 : (T.2 11 : Int) < Yd T (nDf s to) + Yd T (nDf to s)
    · rw [if_pos c2, if_pos c2]
    · rw [if_neg c2, if_neg c2, gX_pos (by omega) (by omega) (by omega), (ht _ hto).2.1, gC_b]
      cases c3 : firmB T to with
      | false => rfl
      | true =>
        rw [if_neg (show ¬ bZ true = 0 by decide), if_pos rfl, loop n hn]
        cases c4 : dryB T (s &&& to) with
        | false => rfl
        | true =>
          rw [if_pos rfl, if_pos rfl]
          rw [zR_inr, gX_pos (by omega) (by omega) (by omega), gX_pos (by omega) (by omega) (by omega), (ht _ h1).2.2.1, (ht _ h2).2.2.2, mg, gC_pos (x := v - gv T s to) (by omega) (by omega) (by omega) (by omega)]
          have ez : (if -gv T s to < v - gv T s to then some (v - gv T s to) else some (-gv T s to)) = some (v - gv T s to) := by
            by_cases k : -gv T s to < v - gv T s to
            · rw [if_pos k]
            · rw [if_neg k, show -gv T s to = v - gv T s to by omega]
          rw [ez, Option.bind_some, gC_pos (x := v - gv T s to) (by omega) (by omega) (by omega) (by omega)]
          by_cases c5 : 999 < v - gv T s to
          · rw [if_pos c5, if_pos c5]
          · rw [if_neg c5, if_neg c5, gC_pos (x := v - gv T s to) (by omega) (by omega) (by omega) (by omega)]
            by_cases c6 : v - gv T s to < 0
            · rw [if_pos c6, if_pos c6]
            · rw [if_neg c6, if_neg c6]
/-- rows up to t -/
def eRow (S : ZS) (T : TW) (mv t : Nat) : Prop := ∀ i : Nat, i ≤ t → ∀ s : Nat, s < 2 ^ T.2 6 → zA S 58 (256 * (i : Int) + (s : Int)) = Ex T mv i s
theorem sm_n4 (hm : mAt S T) (w : wfT T) (ht : mT S T) (hmv : mv < 256) {q s : Nat} (hq2 : q ≤ 254) (hrow : eRow S T mv q) (hs : s < 2 ^ T.2 6) (has b : Int) {n : Nat} (hn : 400 ≤ n) : fM_findNeeds_4 n S (mv : Int) has ((q + 1 : Nat) : Int) b (s : Int) 1000000 0 = some (Ex T mv (q + 1) s) := by
  have hq := pw_le w.1.1
  have w6 := w.1.1
  have bd : ∀ k, 0 ≤ mnE (exF T mv (Ex T mv q) s) k ∧ mnE (exF T mv (Ex T mv q) s) k ≤ 1000000 := by
    intro k
    have := mnE_bd (g := exF T mv (Ex T mv q) s) (k := k) (fun i _ => exF_bd _ s i)
    omega
  refine loop_for (F := fun n a p => fM_findNeeds_4 n S (mv : Int) has ((q + 1 : Nat) : Int) b (s : Int) a p) (fun p => mnE (exF T mv (Ex T mv q) s) p) (2 ^ T.2 6) 30 (res := some (Ex T mv (q + 1) s)) ?_ ?_ n (by omega)
  · intro n to hto hn
    show fM_findNeeds_4 (n + 1) S (mv : Int) has ((q + 1 : Nat) : Int) b (s : Int) (mnE (exF T mv (Ex T mv q) s) to) (to : Int) = fM_findNeeds_4 n S (mv : Int) has ((q + 1 : Nat) : Int) b (s : Int) (min (mnE (exF T mv (Ex T mv q) s) to) (exF T mv (Ex T mv q) s to)) ((to : Int) + 1)
    have cur : zA S 58 (256 * (((q + 1 : Nat) : Int) - 1) + (to : Int)) = Ex T mv q to := by
      rw [show ((q + 1 : Nat) : Int) - 1 = (q : Int) by omega]
      exact hrow q (Nat.le_refl _) to hto
    have eb := Ex_bd (T := T) (mv := mv) q to
    have mb := bd to
    have hx : s ^^^ to < 2 ^ T.2 6 := Nat.xor_lt_two_pow hs hto
    have hd := nDf_le (s ^^^ to) mv
    have fb := nb_bd (T := T) s to (Ex T mv q to)
    rw [fM_findNeeds_4, hm.1.1, zshl_1 (by omega), gC_pos (by omega) (by omega) (by omega) (by omega), if_pos (by omega), gX_pos (by omega) (by omega) (by omega), cur, gC_pos (x := Ex T mv q to) (by omega) (by omega) (by omega) (by omega)]
    by_cases c1 : 999 < Ex T mv q to
    · have e : exF T mv (Ex T mv q) s to = 1000000 := if_neg (fun z => by omega)
      rw [if_pos c1, e, Int.min_eq_left mb.2]
    · rw [if_neg c1, zxor_n (by omega) (by omega), zdf_n (by omega) (by omega), gC_pos (by omega) (by omega) (by omega) (by omega)]
      by_cases c2 : nDf (s ^^^ to) mv = 0
      · have e : exF T mv (Ex T mv q) s to = nb T s to (Ex T mv q to) := if_pos ⟨(by omega), c2⟩
        rw [c2, if_pos (show ((0 : Nat) : Int) = 0 from rfl), sm_needBy hm w ht hs hto (by omega) (by omega), Option.bind_some, gC_pos (x := nb T s to (Ex T mv q to)) (by omega) (by omega) (by omega) (by omega), e]
        by_cases c3 : nb T s to (Ex T mv q to) < mnE (exF T mv (Ex T mv q) s) to
        · rw [if_pos c3, Int.min_eq_right (by omega), gX_pos (by omega) (by omega) (by omega)]
        · rw [if_neg c3, Int.min_eq_left (by omega), gX_pos (by omega) (by omega) (by omega)]
      · have e : exF T mv (Ex T mv q) s to = 1000000 := if_neg (fun z => c2 z.2)
        rw [if_neg (by omega), e, Int.min_eq_left mb.2]
  · intro n hn
    show fM_findNeeds_4 (n + 1) S (mv : Int) has ((q + 1 : Nat) : Int) b (s : Int) _ ((2 ^ T.2 6 : Nat) : Int) = _
    rw [fM_findNeeds_4, hm.1.1, zshl_1 (by omega), gC_pos (by omega) (by omega) (by omega) (by omega), if_neg (by omega)]
    rfl
end MS2
