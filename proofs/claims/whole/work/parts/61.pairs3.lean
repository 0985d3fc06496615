/-! ===== pairs: week, part, person ===== -/
section PR
variable {S : ZS}
theorem sp_pass1 {T : TW} (ht : tAt S 1 T) (w : wfR T) (wn : wfN T) {a b : Nat} (ha : a < 2 ^ T.2 6) (hb : b < 2 ^ T.2 6) {n : Nat} (hn : 20 ≤ n) : fT_pass_1 n S (a : Int) (b : Int) = some (wF (wF S 1 10 (min 999 ((T.2 10 : Int) + Ov T a b))) 1 8 ((nDf (T.2 8) a ||| b : Nat) : Int)) := by
  have hq := pw_le w.1
  have h8 := wn.1
  have h10 := wn.2.2.1
  have ho := Ov_bd w a b
  have hd : nDf (T.2 8) a < 2 ^ T.2 6 := nDf_lt h8
  unfold fT_pass_1
  rw [sp_over ht w (by omega) (by omega) hn, Option.bind_some, gC_pos (by omega) (by omega) (by omega) (by omega), ht.1 8 (by omega) (by omega), zdf_n (by omega) (by omega), zor_n (by omega) (by omega)]
/-- the town behind a week -/
def tW (T : TW) (a b : Nat) : TW := tN (tN T 10 (min 999 ((T.2 10 : Int) + Ov T a b)).toNat) 8 (nDf (T.2 8) a ||| b)
theorem law_firm {T : TW} {a b : Nat} (h : lawB T a b = true) : 0 ≤ (T.2 10 : Int) + Ov T a b ∧ firmB T (nDf (T.2 8) a ||| b) = true := by
  unfold lawB at h
  rw [Bool.and_eq_true, Bool.and_eq_true, Bool.and_eq_true] at h
  exact ⟨of_decide_eq_true h.1.1.1, h.1.2⟩
theorem tW_wf {T : TW} (w : wfT T) {a b : Nat} (hb : b < 2 ^ T.2 6) (h : lawB T a b = true) : wfT (tW T a b) := by
  obtain ⟨h1, h2⟩ := law_firm h
  obtain ⟨w, wn, wf⟩ := w
  refine ⟨tN_wfR (by omega) (tN_wfR (by omega) w), ⟨Nat.or_lt_two_pow (nDf_lt wn.1) hb, wn.2.1, ?_, wn.2.2.2⟩, ?_⟩
  · show (min 999 ((T.2 10 : Int) + Ov T a b)).toNat ≤ 999
    omega
  · exact (tN_firm (by omega) _).trans ((tN_firm (by omega) _).trans h2)
theorem q_week (hG : Good S) {x y : Int} (h1 : -2147483648 ≤ x) (h2 : x < 2147483648) (h3 : -2147483648 ≤ y) (h4 : y < 2147483648) : ∃ n v S1 S2, fD_week n S x y = some (v, S1) ∧ fM_week n S1 x y = some (v, S2) ∧ Good S2 := by
  obtain ⟨T, ⟨ht, hm, w, wn, wf⟩, hr⟩ := id hG
  have hq := pw_le w.1
  have h8 := wn.1
  have h10 := wn.2.2.1
  refine ⟨30, ?_⟩
  unfold fD_week fM_week
  by_cases c : wkB T (T.2 8) x y = true
  · obtain ⟨a, b, rfl, rfl, ha, hb, e1, e2⟩ := wk_split c
    have hd : nDf (T.2 8) a < 2 ^ T.2 6 := nDf_lt h8
    by_cases d : lawB T a b = true
    · have hmo := Mo_bd w a b
      have heq := Mo_Ov (T := T) (wk_apart e1 e2)
      obtain ⟨k1, k2⟩ := law_firm d
      have f0 : fr 2 7 1 S (wF (wF S 1 10 (min 999 ((T.2 10 : Int) + Ov T a b))) 1 8 ((nDf (T.2 8) a ||| b : Nat) : Int)) := fr_trans (fr_wF S 10 _) (fr_wF _ 8 _)
      have m0 := fgt_mAt f0 hm
      refine ⟨min 999 ((T.2 10 : Int) + Ov T a b), fgt (wF (wF S 1 10 (min 999 ((T.2 10 : Int) + Ov T a b))) 1 8 ((nDf (T.2 8) a ||| b : Nat) : Int)), wF (wF (fgt (wF (wF S 1 10 (min 999 ((T.2 10 : Int) + Ov T a b))) 1 8 ((nDf (T.2 8) a ||| b : Nat) : Int))) 49 4 (min 999 ((T.2 10 : Int) + Ov T a b))) 49 2 ((nDf (T.2 8) a ||| b : Nat) : Int), ?_, ?_, ?_⟩
      · rw [gC_pos (by omega) (by omega) (by omega) (by omega), gC_pos (by omega) (by omega) (by omega) (by omega), sp_isWeek ht w h8 30 (by omega) (by omega) (by omega) (by omega), c, Option.bind_some, gC_b, if_neg (show ¬ bZ true = 0 by decide), sp_isLawful ht w wn ha hb (by omega), d, Option.bind_some, gC_b, if_neg (show ¬ bZ true = 0 by decide), sp_pass1 ht w wn ha hb (by omega), Option.bind_some, sp_forget, Option.bind_some]
        rfl
      · rw [gC_pos (by omega) (by omega) (by omega) (by omega), gC_pos (by omega) (by omega) (by omega) (by omega), m0.1.2.2.1, sm_isWeek m0 w h8 30 (by omega) (by omega) (by omega) (by omega), c, Option.bind_some, gC_b, if_neg (show ¬ bZ true = 0 by decide), m0.1.2.2.2.2.1, sm_isLawful m0 w wn.2.2.2.2 (by omega) (by omega) h8 ha hb (by omega), law_eq e1 e2, d, Option.bind_some, gC_b, if_neg (show ¬ bZ true = 0 by decide)]
        unfold fM_doWeek
        rw [sm_moreBy m0 w (by omega) (by omega) (by omega), Option.bind_some, m0.1.2.2.2.2.1, sm_most _ 30 (by omega) (by omega), Option.bind_some, m0.1.2.2.1, zdf_n (by omega) (by omega), zor_n (by omega) (by omega), heq, Option.bind_some]
        rfl
      · have hmin : ((min 999 ((T.2 10 : Int) + Ov T a b)).toNat : Int) = min 999 ((T.2 10 : Int) + Ov T a b) := by omega
        refine good_upd (T' := tW T a b) hG f0 (frM_trans (frM_wF _ _ (by omega)) (frM_wF _ _ (by omega))) ?_ ⟨⟨m0.1.1, m0.1.2.1, rfl, m0.1.2.2.2.1, ?_, m0.1.2.2.2.2.2⟩, m0.2.1, m0.2.2⟩ (tW_wf ⟨w, wn, wf⟩ hb d)
        · have := tN_at (j := 10) (v := (min 999 ((T.2 10 : Int) + Ov T a b)).toNat) ht (by omega)
          rw [hmin] at this
          exact tN_at this (by omega)
        · show min 999 ((T.2 10 : Int) + Ov T a b) = ((min 999 ((T.2 10 : Int) + Ov T a b)).toNat : Int)
          omega
    · have d := ne_b d
      refine ⟨-2, S, S, ?_, ?_, hG⟩
      · rw [gC_pos (by omega) (by omega) (by omega) (by omega), gC_pos (by omega) (by omega) (by omega) (by omega), sp_isWeek ht w h8 30 (by omega) (by omega) (by omega) (by omega), c, Option.bind_some, gC_b, if_neg (show ¬ bZ true = 0 by decide), sp_isLawful ht w wn ha hb (by omega), d, Option.bind_some, gC_b, if_pos (show bZ false = 0 from rfl)]
      · rw [gC_pos (by omega) (by omega) (by omega) (by omega), gC_pos (by omega) (by omega) (by omega) (by omega), hm.1.2.2.1, sm_isWeek hm w h8 30 (by omega) (by omega) (by omega) (by omega), c, Option.bind_some, gC_b, if_neg (show ¬ bZ true = 0 by decide), hm.1.2.2.2.2.1, sm_isLawful hm w wn.2.2.2.2 (by omega) (by omega) h8 ha hb (by omega), law_eq e1 e2, d, Option.bind_some, gC_b, if_pos (show bZ false = 0 from rfl)]
  · have c := ne_b c
    refine ⟨-1, S, S, ?_, ?_, hG⟩
    · rw [gC_pos (by omega) (by omega) (by omega) (by omega), gC_pos (by omega) (by omega) (by omega) (by omega), sp_isWeek ht w h8 30 (by omega) (by omega) (by omega) (by omega), c, Option.bind_some, gC_b, if_pos (show bZ false = 0 from rfl)]
    · rw [gC_pos (by omega) (by omega) (by omega) (by omega), gC_pos (by omega) (by omega) (by omega) (by omega), hm.1.2.2.1, sm_isWeek hm w h8 30 (by omega) (by omega) (by omega) (by omega), c, Option.bind_some, gC_b, if_pos (show bZ false = 0 from rfl)]
theorem p_week : P_week Inv := by
  intro x0 x1
  have e0 : (Value.int x0) = .int (zI x0.toInt) := by rw [zI_of]
  have e1 : (Value.int x1) = .int (zI x1.toInt) := by rw [zI_of]
  rw [e0, e1]
  exact mkPair (fun n S => fD_week n S x0.toInt x1.toInt) (fun n S => fM_week n S x0.toInt x1.toInt) (fun o n S w h => sD_week o n S _ _ h) (fun o n S w h => sM_week o n S _ _ h) (fun S hG => q_week hG (rngI x0).1 (rngI x0).2 (rngI x1).1 (rngI x1).2)
/-- a town with one part more -/
def tP (T : TW) (k y pl ow rs : Nat) : TW := (fun i p => if p = T.2 6 ∧ i ≤ 5 then (if i = 1 then k else if i = 2 then y else if i = 3 then pl else if i = 4 then ow else rs) else T.1 i p, fun j => if j = 6 then T.2 6 + 1 else T.2 j)
theorem firm_cg {T T' : TW} {s : Nat} (h6 : T'.2 6 = T.2 6) (h : ∀ p, p < T.2 6 → T'.1 5 p = T.1 5 p) : firmB T' s = firmB T s := by
  unfold firmB
  rw [h6]
  have : ∀ k, k ≤ T.2 6 → allTo (fun p => !fF T' s p) k = allTo (fun p => !fF T s p) k := by
    intro k
    induction k with
    | zero => intro _; rfl
    | succ k ih =>
      intro hk
      unfold allTo
      rw [ih (by omega)]
      unfold fF
      rw [h k (by omega)]
  exact this _ (Nat.le_refl _)
theorem tP_firm {T : TW} {k y pl ow rs s : Nat} (hs : s < 2 ^ T.2 6) (h : firmB T s = true) : firmB (tP T k y pl ow rs) s = true := by
  unfold firmB at h ⊢
  rw [allTo_iff] at h ⊢
  intro i hi
  have hi : i < T.2 6 + 1 := hi
  by_cases e : i = T.2 6
  · subst e
    unfold fF
    rw [Nat.testBit_lt_two_pow hs]
    rfl
  · have := h i (by omega)
    unfold fF at this ⊢
    have e5 : (tP T k y pl ow rs).1 5 i = T.1 5 i := by
      show (if i = T.2 6 ∧ 5 ≤ 5 then _ else T.1 5 i) = _
      rw [if_neg (by omega)]
    rw [e5]
    exact this
theorem q_part (hG : Good S) {k y pl ow rs : Int} (h1 : -2147483648 ≤ k) (h2 : k < 2147483648) (h3 : -2147483648 ≤ y) (h4 : y < 2147483648) (h5 : -2147483648 ≤ pl) (h6 : pl < 2147483648) (h7 : -2147483648 ≤ ow) (h8 : ow < 2147483648) (h9 : -2147483648 ≤ rs) (h10 : rs < 2147483648) : ∃ n v S1 S2, fD_part n S k y pl ow rs = some (v, S1) ∧ fM_part n S1 k y pl ow rs = some (v, S2) ∧ Good S2 := by
  obtain ⟨T, ⟨ht, hm, w, wn, wf⟩, hr⟩ := id hG
  have hq := pw_le w.1
  have w6 := w.1
  have bad : ∀ b : Bool, b = false → bZ b = 0 := fun b h => by rw [h]; rfl
  have good : ∀ b : Bool, b = true → ¬ bZ b = 0 := fun b h => by rw [h]; decide
  refine ⟨30, ?_⟩
  unfold fD_part fM_part
  rw [sp_isKind 30 S h1 h2, sp_isYards 30 S h3 h4, sp_isPlace 30 S h5 h6, sp_isOwner 30 S h7 h8, sp_isSet ht w 30 (by omega) (by omega)]
  simp only [Option.bind_some, gC_b]
  by_cases c1 : 0 ≤ k ∧ k ≤ 3
  rotate_left
  · refine ⟨-1, S, S, ?_, ?_, hG⟩
    · rw [decide_eq_false c1, if_pos (bad _ rfl)]
    · rw [gC_pos (by omega) (by omega) (by omega) (by omega), sp_in S 30 (by omega) (by omega) (by omega) (by omega) (by omega) (by omega), decide_eq_false c1, Option.bind_some, gC_b, if_pos (bad _ rfl)]
  rw [decide_eq_true c1, if_neg (good _ rfl)]
  by_cases c2 : 1 ≤ y ∧ y ≤ 99
  rotate_left
  · refine ⟨-1, S, S, ?_, ?_, hG⟩
    · rw [decide_eq_false c2, if_pos (bad _ rfl)]
    · rw [gC_pos (by omega) (by omega) (by omega) (by omega), sp_in S 30 (by omega) (by omega) (by omega) (by omega) (by omega) (by omega), decide_eq_true c1, Option.bind_some, gC_b, if_neg (good _ rfl), gC_pos (by omega) (by omega) (by omega) (by omega), sp_in S 30 (by omega) (by omega) (by omega) (by omega) (by omega) (by omega), decide_eq_false c2, Option.bind_some, gC_b, if_pos (bad _ rfl)]
  rw [decide_eq_true c2, if_neg (good _ rfl)]
  by_cases c3 : 0 ≤ pl ∧ pl ≤ 99
  rotate_left
  · refine ⟨-1, S, S, ?_, ?_, hG⟩
    · rw [decide_eq_false c3, if_pos (bad _ rfl)]
    · rw [gC_pos (by omega) (by omega) (by omega) (by omega), sp_in S 30 (by omega) (by omega) (by omega) (by omega) (by omega) (by omega), decide_eq_true c1, Option.bind_some, gC_b, if_neg (good _ rfl), gC_pos (by omega) (by omega) (by omega) (by omega), sp_in S 30 (by omega) (by omega) (by omega) (by omega) (by omega) (by omega), decide_eq_true c2, Option.bind_some, gC_b, if_neg (good _ rfl), gC_pos (by omega) (by omega) (by omega) (by omega), sp_in S 30 (by omega) (by omega) (by omega) (by omega) (by omega) (by omega), decide_eq_false c3, Option.bind_some, gC_b, if_pos (bad _ rfl)]
  rw [decide_eq_true c3, if_neg (good _ rfl)]
  by_cases c4 : 0 ≤ ow ∧ ow ≤ 3
  rotate_left
  · refine ⟨-1, S, S, ?_, ?_, hG⟩
    · rw [decide_eq_false c4, if_pos (bad _ rfl)]
    · rw [gC_pos (by omega) (by omega) (by omega) (by omega), sp_in S 30 (by omega) (by omega) (by omega) (by omega) (by omega) (by omega), decide_eq_true c1, Option.bind_some, gC_b, if_neg (good _ rfl), gC_pos (by omega) (by omega) (by omega) (by omega), sp_in S 30 (by omega) (by omega) (by omega) (by omega) (by omega) (by omega), decide_eq_true c2, Option.bind_some, gC_b, if_neg (good _ rfl), gC_pos (by omega) (by omega) (by omega) (by omega), sp_in S 30 (by omega) (by omega) (by omega) (by omega) (by omega) (by omega), decide_eq_true c3, Option.bind_some, gC_b, if_neg (good _ rfl), gC_pos (by omega) (by omega) (by omega) (by omega), sp_in S 30 (by omega) (by omega) (by omega) (by omega) (by omega) (by omega), decide_eq_false c4, Option.bind_some, gC_b, if_pos (bad _ rfl)]
  rw [decide_eq_true c4, if_neg (good _ rfl), gC_pos (by omega) (by omega) (by omega) (by omega)]
  have E : ∀ S' : ZS, mAt S' T → fM_part 30 S' k y pl ow rs = if bZ (inSet T rs) = 0 then some (-1, S') else if T.2 6 = 8 then some (-3, S') else (fM_add 30 S' k y pl ow rs).bind fun z6 => some ((zF z6 49 1) - 1, z6) := by
    intro S' hm'
    unfold fM_part
    rw [gC_pos (by omega) (by omega) (by omega) (by omega), sp_in S' 30 (by omega) (by omega) (by omega) (by omega) (by omega) (by omega), decide_eq_true c1, Option.bind_some, gC_b, if_neg (good _ rfl), gC_pos (by omega) (by omega) (by omega) (by omega), sp_in S' 30 (by omega) (by omega) (by omega) (by omega) (by omega) (by omega), decide_eq_true c2, Option.bind_some, gC_b, if_neg (good _ rfl), gC_pos (by omega) (by omega) (by omega) (by omega), sp_in S' 30 (by omega) (by omega) (by omega) (by omega) (by omega) (by omega), decide_eq_true c3, Option.bind_some, gC_b, if_neg (good _ rfl), gC_pos (by omega) (by omega) (by omega) (by omega), sp_in S' 30 (by omega) (by omega) (by omega) (by omega) (by omega) (by omega), decide_eq_true c4, Option.bind_some, gC_b, if_neg (good _ rfl), gC_pos (by omega) (by omega) (by omega) (by omega), sm_isSet hm' w 30 (by omega) (by omega), Option.bind_some, gC_b, hm'.1.1, gC_pos (by omega) (by omega) (by omega) (by omega)]
    congr 1
    by_cases e : T.2 6 = 8
    · rw [if_pos e, if_pos (by omega)]
    · rw [if_neg e, if_neg (by omega)]
  have E2 : ∀ S' : ZS, (fM_part 30 S' k y pl ow rs) = _ := fun S' => rfl
  by_cases c5 : inSet T rs = true
  rotate_left
  · have c5 := ne_b c5
    refine ⟨-1, S, S, ?_, ?_, hG⟩
    · rw [c5, if_pos (bad _ rfl)]
    · refine (E S hm).trans ?_
      rw [c5, if_pos (bad _ rfl)]
  rw [c5, if_neg (good _ rfl)]
  unfold fT_isBuiltUp
  rw [ht.1 6 (by omega) (by omega), gC_pos (by omega) (by omega) (by omega) (by omega), gB_0, gB_1]
  by_cases c6 : T.2 6 = 8
  · refine ⟨-3, S, S, ?_, ?_, hG⟩
    · rw [if_neg (by omega), Option.bind_some, gC_pos (by omega) (by omega) (by omega) (by omega), if_neg (by omega)]
    · refine (E S hm).trans ?_
      rw [c5, if_neg (good _ rfl), if_pos c6]
  · obtain ⟨k, rfl⟩ : ∃ a : Nat, k = (a : Int) := ⟨k.toNat, by omega⟩
    obtain ⟨y, rfl⟩ : ∃ a : Nat, y = (a : Int) := ⟨y.toNat, by omega⟩
    obtain ⟨pl, rfl⟩ : ∃ a : Nat, pl = (a : Int) := ⟨pl.toNat, by omega⟩
    obtain ⟨ow, rfl⟩ : ∃ a : Nat, ow = (a : Int) := ⟨ow.toNat, by omega⟩
    obtain ⟨rs, rfl, hrs⟩ := inSet_nat c5
    have f0 : fr 2 7 1 S (wF (wA (wA (wA (wA (wA S 2 (T.2 6 : Int) (k : Int)) 3 (T.2 6 : Int) (y : Int)) 4 (T.2 6 : Int) (pl : Int)) 5 (T.2 6 : Int) (ow : Int)) 6 (T.2 6 : Int) (rs : Int)) 1 6 ((T.2 6 : Int) + 1)) := fr_trans (fr_trans (fr_trans (fr_trans (fr_trans (fr_wA _ _ _ (by omega) (by omega)) (fr_wA _ _ _ (by omega) (by omega))) (fr_wA _ _ _ (by omega) (by omega))) (fr_wA _ _ _ (by omega) (by omega))) (fr_wA _ _ _ (by omega) (by omega))) (fr_wF _ 6 _)
    have m0 := fgt_mAt f0 hm
    have hz := m0.1.1
    generalize hS0 : wF (wA (wA (wA (wA (wA S 2 (T.2 6 : Int) (k : Int)) 3 (T.2 6 : Int) (y : Int)) 4 (T.2 6 : Int) (pl : Int)) 5 (T.2 6 : Int) (ow : Int)) 6 (T.2 6 : Int) (rs : Int)) 1 6 ((T.2 6 : Int) + 1) = S0 at *
    generalize hS2 : wF (wA (wA (wA (wA (wA (fgt S0) 50 (5 * (T.2 6 : Int)) (k : Int)) 50 (5 * (T.2 6 : Int) + 1) (y : Int)) 50 (5 * (T.2 6 : Int) + 2) (pl : Int)) 50 (5 * (T.2 6 : Int) + 3) (ow : Int)) 50 (5 * (T.2 6 : Int) + 4) (rs : Int)) 49 1 ((T.2 6 : Int) + 1) = S2
    refine ⟨(T.2 6 : Int) + 1 - 1, fgt S0, S2, ?_, ?_, ?_⟩
    · rw [if_pos (by omega), Option.bind_some, gC_pos (by omega) (by omega) (by omega) (by omega), if_pos rfl]
      unfold fT_addPart_1
      rw [ht.1 6 (by omega) (by omega), gX_pos (by omega) (by omega) (by omega), gX_pos (by omega) (by omega) (by omega), gX_pos (by omega) (by omega) (by omega), gX_pos (by omega) (by omega) (by omega), gX_pos (by omega) (by omega) (by omega), Option.bind_some, hS0, sp_forget, Option.bind_some, zF_fgt _ (by omega), ← hS0]
      rfl
    · refine (E _ m0).trans ?_
      rw [c5, if_neg (good _ rfl), if_neg c6]
      unfold fM_add
      rw [hz, gX_pos (by omega) (by omega) (by omega), gX_pos (by omega) (by omega) (by omega), gX_pos (by omega) (by omega) (by omega), gX_pos (by omega) (by omega) (by omega), gX_pos (by omega) (by omega) (by omega), Option.bind_some, hS2, ← hS2]
      rfl
    · refine good_upd (T' := tP T k y pl ow rs) hG f0 ?_ ?_ ?_ ?_
      · rw [← hS2]
        exact frM_trans (frM_trans (frM_trans (frM_trans (frM_trans (frM_wA _ _ _ (by omega)) (frM_wA _ _ _ (by omega))) (frM_wA _ _ _ (by omega))) (frM_wA _ _ _ (by omega))) (frM_wA _ _ _ (by omega))) (frM_wF _ _ (by omega))
      · rw [← hS0]
        refine ⟨fun j a b => ?_, fun i p a b c => ?_, fun p a => ?_⟩
        · rw [zF_wF]
          show (if j = 6 then (if 1 = 1 then (T.2 6 : Int) + 1 else _) else zF S 1 j) = ((if j = 6 then T.2 6 + 1 else T.2 j : Nat) : Int)
          by_cases c : j = 6
          · rw [if_pos c, if_pos c, if_pos rfl]
            rfl
          · rw [if_neg c, if_neg c]
            exact ht.1 j a b
        · have c : p < T.2 6 + 1 := c
          have hi : i = 1 ∨ i = 2 ∨ i = 3 ∨ i = 4 ∨ i = 5 := by omega
          by_cases e : p = T.2 6
          · rw [show (tP T k y pl ow rs).1 i p = (if i = 1 then k else if i = 2 then y else if i = 3 then pl else if i = 4 then ow else rs) from if_pos ⟨e, b⟩]
            have e' : (p : Int) = (T.2 6 : Int) := by omega
            simp only [zA_wF, zA_wA]
            rcases hi with rfl | rfl | rfl | rfl | rfl <;> simp [e']
          · rw [show (tP T k y pl ow rs).1 i p = T.1 i p from if_neg (fun q => e q.1)]
            have e' : ¬ (p : Int) = (T.2 6 : Int) := by omega
            have := ht.2.1 i p a b (by omega)
            simp only [zA_wF, zA_wA]
            rcases hi with rfl | rfl | rfl | rfl | rfl <;> simpa [e'] using this
        · have a : p < T.2 7 := a
          rw [show (tP T k y pl ow rs).1 6 p = T.1 6 p from if_neg (fun q => absurd q.2 (by omega))]
          simp only [zA_wF, zA_wA]
          simpa using ht.2.2 p a
      · rw [← hS2]
        refine ⟨⟨rfl, m0.1.2.1, m0.1.2.2.1, m0.1.2.2.2.1, m0.1.2.2.2.2.1, m0.1.2.2.2.2.2⟩, fun i p a b => ?_, fun p a => ?_⟩
        · have b : p < T.2 6 + 1 := b
          have hi : i = 0 ∨ i = 1 ∨ i = 2 ∨ i = 3 ∨ i = 4 := by omega
          by_cases e : p = T.2 6
          · rw [show (tP T k y pl ow rs).1 (i + 1) p = (if i + 1 = 1 then k else if i + 1 = 2 then y else if i + 1 = 3 then pl else if i + 1 = 4 then ow else rs) from if_pos ⟨e, by omega⟩, e]
            simp only [zA_wF, zA_wA, if_true]
            rcases hi with rfl | rfl | rfl | rfl | rfl
            · rw [if_neg (by omega), if_neg (by omega), if_neg (by omega), if_neg (by omega), if_pos (by omega)]; rfl
            · rw [if_neg (by omega), if_neg (by omega), if_neg (by omega), if_pos (by omega)]; rfl
            · rw [if_neg (by omega), if_neg (by omega), if_pos (by omega)]; rfl
            · rw [if_neg (by omega), if_pos (by omega)]; rfl
            · rw [if_pos (by omega)]; rfl
          · rw [show (tP T k y pl ow rs).1 (i + 1) p = T.1 (i + 1) p from if_neg (fun q => e q.1)]
            simp only [zA_wF, zA_wA, if_true]
            rw [if_neg (by omega), if_neg (by omega), if_neg (by omega), if_neg (by omega), if_neg (by omega)]
            exact m0.2.1 i p a (by omega)
        · have a : p < T.2 7 := a
          rw [show (tP T k y pl ow rs).1 6 p = T.1 6 p from if_neg (fun q => absurd q.2 (by omega))]
          exact m0.2.2 p a
      · have p2 : 2 ^ T.2 6 ≤ 2 ^ (T.2 6 + 1) := Nat.pow_le_pow_right (by omega) (by omega)
        refine ⟨⟨?_, w.2.1, fun p hp => ?_, fun p hp => ?_⟩, ⟨?_, ?_, wn.2.2⟩, tP_firm wn.1 wf⟩
        · show T.2 6 + 1 ≤ 8
          omega
        · have hp : p < T.2 6 + 1 := hp
          have e6 : (tP T k y pl ow rs).2 6 = T.2 6 + 1 := rfl
          rw [e6]
          by_cases e : p = T.2 6
          · have : ∀ i, i ≤ 5 → (tP T k y pl ow rs).1 i p = (if i = 1 then k else if i = 2 then y else if i = 3 then pl else if i = 4 then ow else rs) := fun i hi => if_pos ⟨e, hi⟩
            rw [this 1 (by omega), this 2 (by omega), this 3 (by omega), this 4 (by omega), this 5 (by omega)]
            simp only [if_true]
            exact ⟨by omega, by simp; omega, by simp; omega, by simp; omega, by simp; omega, by simp; omega⟩
          · have : ∀ i, (tP T k y pl ow rs).1 i p = T.1 i p := fun i => if_neg (fun q => e q.1)
            rw [this 1, this 2, this 3, this 4, this 5]
            have := w.2.2.1 p (by omega)
            omega
        · have e6 : (tP T k y pl ow rs).2 6 = T.2 6 + 1 := rfl
          have e7 : (tP T k y pl ow rs).1 6 p = T.1 6 p := if_neg (fun q => absurd q.2 (by omega))
          rw [e6, e7]
          have := w.2.2.2 p hp
          omega
        · show T.2 8 < 2 ^ (T.2 6 + 1)
          have := wn.1
          omega
        · show T.2 9 < 2 ^ (T.2 6 + 1)
          have := wn.2.1
          omega
theorem p_part : P_part Inv := by
  intro x0 x1 x2 x3 x4
  have e0 : (Value.int x0) = .int (zI x0.toInt) := by rw [zI_of]
  have e1 : (Value.int x1) = .int (zI x1.toInt) := by rw [zI_of]
  have e2 : (Value.int x2) = .int (zI x2.toInt) := by rw [zI_of]
  have e3 : (Value.int x3) = .int (zI x3.toInt) := by rw [zI_of]
  have e4 : (Value.int x4) = .int (zI x4.toInt) := by rw [zI_of]
  rw [e0, e1, e2, e3, e4]
  exact mkPair (fun n S => fD_part n S x0.toInt x1.toInt x2.toInt x3.toInt x4.toInt) (fun n S => fM_part n S x0.toInt x1.toInt x2.toInt x3.toInt x4.toInt) (fun o n S w h => sD_part o n S _ _ _ _ _ h) (fun o n S w h => sM_part o n S _ _ _ _ _ h) (fun S hG => q_part hG (rngI x0).1 (rngI x0).2 (rngI x1).1 (rngI x1).2 (rngI x2).1 (rngI x2).2 (rngI x3).1 (rngI x3).2 (rngI x4).1 (rngI x4).2)
end PR
