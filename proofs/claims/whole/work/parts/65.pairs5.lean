/-! ===== pairs: restore, person ===== -/
section SH
variable {S : ZS}
theorem frM_wR (S : ZS) {h : Nat} (f : Int → Int) (hh : h = 50 ∨ h = 51) : frM S (wR S h f) := ⟨fun h' a b => by show (if h' = h then _ else _) = _; rw [if_neg (by omega)], fun _ _ _ => rfl, rfl⟩
theorem q_restore (hG : Good S) : ∃ n w S1 S2, fD_restore n S = some (w, S1) ∧ fM_restore n S1 = some (w, S2) ∧ Good S2 := by
  obtain ⟨T, ⟨ht, hm, wT⟩, g2, g3, g4, g5, g6⟩ := id hG
  refine ⟨300, ?_⟩
  rcases g3 with ⟨i1, i2⟩ | ⟨i1, i2, K, k1, ⟨⟨d1, d2, d3, d4, d5, d6⟩, d7, d8⟩, kw⟩
  · refine ⟨-4, S, S, ?_, ?_, hG⟩
    · unfold fD_restore
      rw [i1, gC_pos (by omega) (by omega) (by omega) (by omega), if_pos rfl]
    · unfold fM_restore
      rw [i2, gC_pos (by omega) (by omega) (by omega) (by omega), if_pos rfl]
  · have w6 := kw.1.1
    have w7 := kw.1.2.1
    obtain ⟨S0, e0, f0, t0⟩ := sp_take18 k1 kw.1 300
    have ff := fr_fgt 1000 0 S0
    have A : ∀ h i, ¬ (2 ≤ h ∧ h ≤ 7) → zA (fgt S0) h i = zA S h i := fun h i hh => fr_A f0 (by omega) i
    have F28 : zF (fgt S0) 49 28 = 1 := by rw [fr_F ff (by omega), fr_F f0 (by omega)]; exact i2
    have e1 := sm_re1 (fgt S0) (n := 300) (by omega)
    have e2 := sm_re2 (wR (fgt S0) 50 (cpy ((fgt S0).1 68) ((fgt S0).1 50) 0 0 40)) (n := 300) (by omega)
    have q1 : frM (fgt S0) (wR (wR (fgt S0) 50 (cpy ((fgt S0).1 68) ((fgt S0).1 50) 0 0 40)) 51 (cpy ((wR (fgt S0) 50 (cpy ((fgt S0).1 68) ((fgt S0).1 50) 0 0 40)).1 68) ((wR (fgt S0) 50 (cpy ((fgt S0).1 68) ((fgt S0).1 50) 0 0 40)).1 51) 40 0 4)) := frM_trans (frM_wR _ _ (by omega)) (frM_wR _ _ (by omega))
    have r50 : ∀ y, zA (wR (wR (fgt S0) 50 (cpy ((fgt S0).1 68) ((fgt S0).1 50) 0 0 40)) 51 (cpy ((wR (fgt S0) 50 (cpy ((fgt S0).1 68) ((fgt S0).1 50) 0 0 40)).1 68) ((wR (fgt S0) 50 (cpy ((fgt S0).1 68) ((fgt S0).1 50) 0 0 40)).1 51) 40 0 4)) 50 y = cpy ((fgt S0).1 68) ((fgt S0).1 50) 0 0 40 y := fun y => rfl
    have r51 : ∀ y, zA (wR (wR (fgt S0) 50 (cpy ((fgt S0).1 68) ((fgt S0).1 50) 0 0 40)) 51 (cpy ((wR (fgt S0) 50 (cpy ((fgt S0).1 68) ((fgt S0).1 50) 0 0 40)).1 68) ((wR (fgt S0) 50 (cpy ((fgt S0).1 68) ((fgt S0).1 50) 0 0 40)).1 51) 40 0 4)) 51 y = cpy ((fgt S0).1 68) ((fgt S0).1 51) 40 0 4 y := fun y => rfl
    generalize wR (wR (fgt S0) 50 (cpy ((fgt S0).1 68) ((fgt S0).1 50) 0 0 40)) 51 (cpy ((wR (fgt S0) 50 (cpy ((fgt S0).1 68) ((fgt S0).1 50) 0 0 40)).1 68) ((wR (fgt S0) 50 (cpy ((fgt S0).1 68) ((fgt S0).1 50) 0 0 40)).1 51) 40 0 4) = S2 at *
    have A69 : ∀ y, zA S2 69 y = zA S 69 y := fun y => (frM_A q1 (by omega) (by omega) y).trans (A 69 y (by omega))
    have R68 : ∀ y, (fgt S0).1 68 y = zA S 68 y := fun y => A 68 y (by omega)
    refine ⟨1, fgt S0, wF (wF (wF (wF (wF (wF S2 49 1 (zA S2 69 0)) 49 2 (zA S2 69 1)) 49 3 (zA S2 69 2)) 49 4 (zA S2 69 3)) 49 5 (zA S2 69 4)) 49 7 (zA S2 69 5), ?_, ?_, ?_⟩
    · unfold fD_restore
      rw [i1, gC_pos (by omega) (by omega) (by omega) (by omega), if_neg (by omega), e0, Option.bind_some, sp_forget, Option.bind_some]
    · unfold fM_restore
      rw [F28, gC_pos (by omega) (by omega) (by omega) (by omega), if_neg (by omega), e1, Option.bind_some, e2, Option.bind_some, gX_pos (by omega) (by omega) (by omega), gX_pos (by omega) (by omega) (by omega), gX_pos (by omega) (by omega) (by omega), gX_pos (by omega) (by omega) (by omega), gX_pos (by omega) (by omega) (by omega), gX_pos (by omega) (by omega) (by omega)]
    · refine good_upd hG f0 (frM_trans q1 (frM_trans (frM_trans (frM_trans (frM_trans (frM_trans (frM_wF _ _ (by omega)) (frM_wF _ _ (by omega))) (frM_wF _ _ (by omega))) (frM_wF _ _ (by omega))) (frM_wF _ _ (by omega))) (frM_wF _ _ (by omega)))) t0 ⟨⟨(A69 0).trans d1, (A69 5).trans d6, (A69 1).trans d2, (A69 2).trans d3, (A69 3).trans d4, (A69 4).trans d5⟩, fun i p x y => ?_, fun p x => ?_⟩ kw
      · show zA S2 50 _ = _
        rw [r50, cpy_in _ _ (by omega) (by omega), R68, show (0 : Int) + (5 * (p : Int) + (i : Int) - 0) = 5 * (p : Int) + (i : Int) by omega]
        exact d7 i p x y
      · show zA S2 51 _ = _
        rw [r51, cpy_in _ _ (by omega) (by omega), R68, show (40 : Int) + ((p : Int) - 0) = 40 + (p : Int) by omega]
        exact d8 p x
theorem p_restore : P_restore Inv := mkPair (fun n S => fD_restore n S) (fun n S => fM_restore n S) (fun o n S w h => sD_restore o n S h) (fun o n S w h => sM_restore o n S h) (fun S hG => q_restore hG)
/-- a town with one person more -/
def tQ (T : TW) (s : Nat) : TW := (fun i p => if p = T.2 7 ∧ i = 6 then s else T.1 i p, fun j => if j = 7 then T.2 7 + 1 else T.2 j)
theorem q_person (hG : Good S) {x : Int} (h1 : -2147483648 ≤ x) (h2 : x < 2147483648) : ∃ n v S1 S2, fD_person n S x = some (v, S1) ∧ fM_person n S1 x = some (v, S2) ∧ Good S2 := by
  obtain ⟨T, ⟨ht, hm, w, wn, wf⟩, hr⟩ := id hG
  have hq := pw_le w.1
  have w7 := w.2.1
  have no : ∀ b : Bool, b = false → bZ b = 0 := fun b h => by rw [h]; rfl
  have yes : ∀ b : Bool, b = true → ¬ bZ b = 0 := fun b h => by rw [h]; decide
  refine ⟨30, ?_⟩
  have EM : ∀ S' : ZS, mAt S' T → fM_person 30 S' x = if bZ (inSet T x) = 0 then some (-1, S') else if x = 0 then some (-1, S') else if T.2 7 = 4 then some (-3, S') else some ((T.2 7 : Int) + 1 - 1, wF (wA S' 51 (T.2 7 : Int) x) 49 7 ((T.2 7 : Int) + 1)) := by
    intro S' hm'
    unfold fM_person
    rw [gC_pos h1 h2 (by omega) (by omega), sm_isSet hm' w 30 (by omega) (by omega), Option.bind_some, gC_b, gC_pos h1 h2 (by omega) (by omega), hm'.1.2.1, gC_pos (x := (T.2 7 : Int)) (y := 4) (by omega) (by omega) (by omega) (by omega)]
    congr 1
    congr 1
    by_cases c : T.2 7 = 4
    · rw [if_pos c, if_pos (by omega)]
    · rw [if_neg c, if_neg (by omega), gX_pos (by omega) (by omega) (by omega)]
  have EX : fD_person 30 S x = if x = 0 then some (-1, S) else if bZ (inSet T x) = 0 then some (-1, S) else if T.2 7 = 4 then some (-3, S) else some ((T.2 7 : Int) + 1 - 1, fgt (wF (wA S 7 (T.2 7 : Int) x) 1 7 ((T.2 7 : Int) + 1))) := by
    unfold fD_person
    rw [gC_pos h1 h2 (by omega) (by omega), gC_pos h1 h2 (by omega) (by omega), sp_isSet ht w 30 (by omega) (by omega), Option.bind_some, gC_b]
    unfold fT_isPeopled
    rw [ht.1 7 (by omega) (by omega), gC_pos (x := (T.2 7 : Int)) (y := 4) (by omega) (by omega) (by omega) (by omega), gB_0, gB_1]
    congr 1
    congr 1
    by_cases c : T.2 7 = 4
    · rw [if_pos c, if_neg (by omega), Option.bind_some, gC_pos (by omega) (by omega) (by omega) (by omega), if_neg (by omega)]
    · rw [if_neg c, if_pos (by omega), Option.bind_some, gC_pos (by omega) (by omega) (by omega) (by omega), if_pos rfl]
      unfold fT_addPerson_1
      rw [ht.1 7 (by omega) (by omega), gX_pos (by omega) (by omega) (by omega), Option.bind_some, sp_forget, Option.bind_some]
      rfl
  rw [EX]
  by_cases c0 : x = 0
  · refine ⟨-1, S, S, ?_, ?_, hG⟩
    · rw [if_pos c0]
    · rw [EM S hm, if_pos c0]
      exact ite_self _
  rw [if_neg c0]
  by_cases c1 : inSet T x = true
  rotate_left
  · have c1 := ne_b c1
    refine ⟨-1, S, S, ?_, ?_, hG⟩
    · rw [c1, if_pos (no _ rfl)]
    · rw [EM S hm, c1, if_pos (no _ rfl)]
  rw [c1, if_neg (yes _ rfl)]
  by_cases c2 : T.2 7 = 4
  · refine ⟨-3, S, S, ?_, ?_, hG⟩
    · rw [if_pos c2]
    · rw [EM S hm, c1, if_neg (yes _ rfl), if_neg c0, if_pos c2]
  rw [if_neg c2]
  obtain ⟨a, rfl, ha⟩ := inSet_nat c1
  have f0 : fr 2 7 1 S (wF (wA S 7 (T.2 7 : Int) (a : Int)) 1 7 ((T.2 7 : Int) + 1)) := fr_trans (fr_wA _ _ _ (by omega) (by omega)) (fr_wF _ 7 _)
  have m0 := fgt_mAt f0 hm
  refine ⟨_, _, wF (wA (fgt (wF (wA S 7 (T.2 7 : Int) (a : Int)) 1 7 ((T.2 7 : Int) + 1))) 51 (T.2 7 : Int) (a : Int)) 49 7 ((T.2 7 : Int) + 1), rfl, ?_, ?_⟩
  · rw [EM _ m0, c1, if_neg (yes _ rfl), if_neg c0, if_neg c2]
  · refine good_upd (T' := tQ T a) hG f0 (frM_trans (frM_wA _ _ _ (by omega)) (frM_wF _ _ (by omega))) ⟨fun j x y => ?_, fun i p x y z => ?_, fun p x => ?_⟩ ⟨⟨m0.1.1, rfl, m0.1.2.2.1, m0.1.2.2.2.1, m0.1.2.2.2.2.1, m0.1.2.2.2.2.2⟩, fun i p x y => ?_, fun p x => ?_⟩ ⟨⟨w.1, ?_, fun p hp => ?_, fun p hp => ?_⟩, wn, ?_⟩
    · show (if j = 7 then (if 1 = 1 then (T.2 7 : Int) + 1 else _) else zF S 1 j) = ((if j = 7 then T.2 7 + 1 else T.2 j : Nat) : Int)
      by_cases c : j = 7
      · rw [if_pos c, if_pos c, if_pos rfl]
        rfl
      · rw [if_neg c, if_neg c]
        exact ht.1 j x y
    · rw [show (tQ T a).1 i p = T.1 i p from if_neg (fun q => absurd q.2 (by omega))]
      rw [zA_wF, zA_wA, if_neg (by omega)]
      exact ht.2.1 i p x y z
    · have x : p < T.2 7 + 1 := x
      rw [zA_wF, zA_wA, if_pos (by omega)]
      by_cases c : p = T.2 7
      · rw [show (tQ T a).1 6 p = a from if_pos ⟨c, rfl⟩, if_pos (by omega)]
      · rw [show (tQ T a).1 6 p = T.1 6 p from if_neg (fun q => c q.1), if_neg (by omega)]
        exact ht.2.2 p (by omega)
    · rw [show (tQ T a).1 (i + 1) p = T.1 (i + 1) p from if_neg (fun q => absurd q.2 (by omega))]
      exact m0.2.1 i p x y
    · have x : p < T.2 7 + 1 := x
      rw [zA_wF, zA_wA, if_pos rfl]
      by_cases c : p = T.2 7
      · rw [show (tQ T a).1 6 p = a from if_pos ⟨c, rfl⟩, if_pos (by omega)]
      · rw [show (tQ T a).1 6 p = T.1 6 p from if_neg (fun q => c q.1), if_neg (by omega)]
        exact m0.2.2 p (by omega)
    · show T.2 7 + 1 ≤ 4
      omega
    · have : ∀ i, i ≤ 5 → (tQ T a).1 i p = T.1 i p := fun i hi => if_neg (fun q => absurd q.2 (by omega))
      rw [this 1 (by omega), this 2 (by omega), this 3 (by omega), this 4 (by omega), this 5 (by omega)]
      exact w.2.2.1 p hp
    · have hp : p < T.2 7 + 1 := hp
      show (if p = T.2 7 ∧ 6 = 6 then a else T.1 6 p) < 2 ^ T.2 6
      by_cases c : p = T.2 7
      · rw [if_pos ⟨c, rfl⟩]
        exact ha
      · rw [if_neg (fun q => c q.1)]
        exact w.2.2.2 p (by omega)
    · have e : firmB (tQ T a) (T.2 8) = firmB T (T.2 8) := firm_cg (T := T) (T' := tQ T a) rfl (fun p hp => if_neg (fun q => absurd q.2 (by decide)))
      exact e.trans wf
theorem p_person : P_person Inv := by
  intro x0
  have e0 : (Value.int x0) = .int (zI x0.toInt) := by rw [zI_of]
  rw [e0]
  exact mkPair (fun n S => fD_person n S x0.toInt) (fun n S => fM_person n S x0.toInt) (fun o n S w h => sD_person o n S _ h) (fun o n S w h => sM_person o n S _ h) (fun S hG => q_person hG (rngI x0).1 (rngI x0).2)
end SH
