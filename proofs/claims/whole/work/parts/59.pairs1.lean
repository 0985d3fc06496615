/-! ===== pairs: parts, people, numbers ===== -/
def fgt (S : ZS) : ZS := wF (wF (wF S 24 14 0) 24 15 0) 24 16 0
theorem sp_forget (n : Nat) (S : ZS) : fW_forget n S = some (fgt S) := by
  unfold fW_forget fgt
  rw [gB_0, gB_0, gB_0]
theorem fr_fgt (lo hi : Nat) (S : ZS) : fr lo hi 24 S (fgt S) := fr_trans (fr_trans (fr_wF S 14 0) (fr_wF _ 15 0)) (fr_wF _ 16 0)
theorem fgt_way (S : ZS) (T : TW) : gWay (fgt S) T := ⟨Or.inl rfl, Or.inl rfl, Or.inl rfl⟩
theorem zF_fgt (S : ZS) {h : Nat} (hh : h ≠ 24) (j : Nat) : zF (fgt S) h j = zF S h j := fr_F (fr_fgt 1000 0 S) hh j
theorem zA_fgt (S : ZS) (h : Nat) (i : Int) : zA (fgt S) h i = zA S h i := rfl
/-- the reference's town alone differs -/
def frM (S S' : ZS) : Prop := (∀ h : Nat, h ≠ 50 → h ≠ 51 → S'.1 h = S.1 h) ∧ (∀ h j : Nat, (h ≠ 49 ∨ 8 ≤ j) → S'.2.1 h j = S.2.1 h j) ∧ S'.2.2 = S.2.2
theorem frM_rfl {S : ZS} : frM S S := ⟨fun _ _ _ => rfl, fun _ _ _ => rfl, rfl⟩
theorem frM_trans {S S1 S2 : ZS} (h1 : frM S S1) (h2 : frM S1 S2) : frM S S2 := ⟨fun h a b => (h2.1 h a b).trans (h1.1 h a b), fun h j a => (h2.2.1 h j a).trans (h1.2.1 h j a), h2.2.2.trans h1.2.2⟩
theorem frM_wF (S : ZS) {j : Nat} (x : Int) (hj : j < 8) : frM S (wF S 49 j x) := ⟨fun _ _ _ => rfl, fun h j' hh => by
    show (if j' = j then (if h = 49 then _ else _) else _) = _
    by_cases c : j' = j
    · rw [if_pos c, if_neg (by omega)]
    · rw [if_neg c], rfl⟩
theorem frM_wA (S : ZS) {h : Nat} (x v : Int) (hh : h = 50 ∨ h = 51) : frM S (wA S h x v) := ⟨fun h' a b => by show (if h' = h then _ else _) = _; rw [if_neg (by omega)], fun _ _ _ => rfl, rfl⟩
theorem frM_A {S S' : ZS} (h : frM S S') {a : Nat} (h1 : a ≠ 50) (h2 : a ≠ 51) (i : Int) : zA S' a i = zA S a i := congrFun (h.1 a h1 h2) i
theorem frM_F {S S' : ZS} (h : frM S S') {a j : Nat} (ha : a ≠ 49 ∨ 8 ≤ j) : zF S' a j = zF S a j := h.2.1 a j ha
theorem frM_tAt {S S' : ZS} (h : frM S S') {t : Nat} {T : TW} (ht : tAt S t T) (h1 : t + 6 < 49) : tAt S' t T :=
  ⟨fun j a b => (frM_F h (by omega)).trans (ht.1 j a b), fun i p a b c => (frM_A h (by omega) (by omega) _).trans (ht.2.1 i p a b c), fun p a => (frM_A h (by omega) (by omega) _).trans (ht.2.2 p a)⟩
theorem frM_gTape {S S' : ZS} (h : frM S S') (g : gTape S) : gTape S' := by
  obtain ⟨n, a, b, c, d⟩ := g
  refine ⟨n, a, (frM_F h (by omega)).trans b, (frM_F h (by omega)).trans c, fun i hi' => ?_⟩
  rw [frM_A h (by omega) (by omega), frM_A h (by omega) (by omega)]
  exact d i hi'
theorem frM_gImg {S S' : ZS} (h : frM S S') (g : gImg S) : gImg S' := by
  rcases g with ⟨a, b⟩ | ⟨a, b, K, c, ⟨⟨d1, d2, d3, d4, d5, d6⟩, e, f⟩, w⟩
  · exact Or.inl ⟨(frM_F h (by omega)).trans a, (frM_F h (by omega)).trans b⟩
  · have A := fun i : Int => frM_A h (a := 69) (by omega) (by omega) i
    have B := fun i : Int => frM_A h (a := 68) (by omega) (by omega) i
    exact Or.inr ⟨(frM_F h (by omega)).trans a, (frM_F h (by omega)).trans b, K, frM_tAt h c (by omega), ⟨⟨(A _).trans d1, (A _).trans d2, (A _).trans d3, (A _).trans d4, (A _).trans d5, (A _).trans d6⟩, fun i p x y => (B _).trans (e i p x y), fun p x => (B _).trans (f p x)⟩, w⟩
theorem frM_gSh {S S' : ZS} (h : frM S S') (g : gSh S) : gSh S' := by
  refine ⟨fun i a b => ?_, fun s a b => ?_⟩
  · rw [frM_A h (by omega) (by omega), frM_A h (by omega) (by omega)]
    exact g.1 i a b
  · rw [frM_A h (by omega) (by omega), frM_A h (by omega) (by omega), frM_A h (by omega) (by omega), frM_A h (by omega) (by omega)]
    exact g.2 s a b
theorem frM_gWay {S S' : ZS} (h : frM S S') {T : TW} (g : gWay S T) : gWay S' T := by
  obtain ⟨a, b, c⟩ := g
  have F := fun j : Nat => frM_F h (a := 24) (j := j) (by omega)
  unfold gWay shared
  rw [F, F, F, F]
  refine ⟨a.imp id (fun q => ⟨q.1, fun s hs => ?_⟩), b.imp id (fun q => ⟨q.1, ?_⟩), c⟩
  · rw [frM_A h (by omega) (by omega), frM_A h (by omega) (by omega), frM_A h (by omega) (by omega), frM_A h (by omega) (by omega), frM_A h (by omega) (by omega)]
    exact q.2 s hs
  · have q := q.2
    unfold sought at q ⊢
    split at q
    · rw [F, F]
      exact ⟨q.1, q.2.1, fun i hi' => (frM_A h (by omega) (by omega) _).trans (q.2.2 i hi')⟩
    · rw [F, F, F]
      exact q
theorem good_upd {S S0 S2 : ZS} {T' : TW} (hG : Good S) (h0 : fr 2 7 1 S S0) (h2 : frM (fgt S0) S2) (ht : tAt S0 1 T') (hm : mAt S2 T') (hw : wfT T') : Good S2 := by
  obtain ⟨T, -, h3, h4, h5, -, h6⟩ := hG
  have f1 := fr_fgt 1000 0 S0
  refine ⟨T', ⟨frM_tAt h2 (fr_tAt f1 ht (by omega) (by omega)) (by omega), hm, hw⟩, frM_gTape h2 (fr_gTape f1 (fr_gTape h0 h3 (by omega) (by omega) (by omega)) (by omega) (by omega) (by omega)), frM_gImg h2 (fr_gImg f1 (fr_gImg h0 h4 (by omega) (by omega) (by omega) (by omega)) (by omega) (by omega) (by omega) (by omega)), frM_gSh h2 (fr_gSh f1 (fr_gSh h0 h5 (by omega)) (by omega)), frM_gWay h2 (fgt_way S0 T'), ex_gRoom h2.2.2 (fr_gRoom f1 (fr_gRoom h0 h6))⟩
theorem fgt_mAt {S S0 : ZS} {T : TW} (h0 : fr 2 7 1 S S0) (h : mAt S T) : mAt (fgt S0) T := fr_mAt (fr_fgt 1000 0 S0) (fr_mAt h0 h (by omega) (by omega)) (by omega) (by omega)
/-- a town with another number -/
def tN (T : TW) (j v : Nat) : TW := (T.1, fun j' => if j' = j then v else T.2 j')
theorem tN_at {S : ZS} {T : TW} (h : tAt S 1 T) {j v : Nat} (hj : 8 ≤ j) : tAt (wF S 1 j (v : Int)) 1 (tN T j v) := by
  refine ⟨fun j' a b => ?_, fun i p a b c => ?_, fun p a => ?_⟩
  · rw [zF_wF, if_pos rfl]
    show (if j' = j then (v : Int) else zF S 1 j') = ((if j' = j then v else T.2 j' : Nat) : Int)
    by_cases c : j' = j
    · rw [if_pos c, if_pos c]
    · rw [if_neg c, if_neg c]
      exact h.1 j' a b
  · have c : p < T.2 6 := by
      have c : p < (if 6 = j then v else T.2 6) := c
      rw [if_neg (by omega)] at c
      exact c
    exact h.2.1 i p a b c
  · have a : p < T.2 7 := by
      have c : p < (if 7 = j then v else T.2 7) := a
      rw [if_neg (by omega)] at c
      exact c
    exact h.2.2 p a
theorem tN_6 {T : TW} {j v : Nat} (hj : 8 ≤ j) : (tN T j v).2 6 = T.2 6 := by
  show (if 6 = j then v else T.2 6) = _
  rw [if_neg (by omega)]
theorem tN_7 {T : TW} {j v : Nat} (hj : 8 ≤ j) : (tN T j v).2 7 = T.2 7 := by
  show (if 7 = j then v else T.2 7) = _
  rw [if_neg (by omega)]
theorem tN_firm {T : TW} {j v : Nat} (hj : 8 ≤ j) (s : Nat) : firmB (tN T j v) s = firmB T s := by
  unfold firmB
  rw [tN_6 hj]
  rfl
theorem tN_wfR {T : TW} {j v : Nat} (hj : 8 ≤ j) (w : wfR T) : wfR (tN T j v) := by
  unfold wfR
  rw [tN_6 hj, tN_7 hj]
  exact w
section PR
variable {S : ZS}
theorem sp_isKind (n : Nat) (S : ZS) {x : Int} (h1 : -2147483648 ≤ x) (h2 : x < 2147483648) : fT_isKind n S x = some (bZ (decide (0 ≤ x ∧ x ≤ 3))) := by
  unfold fT_isKind
  rw [gC_pos (by omega) (by omega) (by omega) (by omega), gC_pos (by omega) (by omega) (by omega) (by omega), gB_0, gB_1]
  by_cases c : x < 0
  · rw [if_pos c, decide_eq_false (by omega)]; rfl
  · rw [if_neg c]
    by_cases d : 3 < x
    · rw [if_pos d, decide_eq_false (by omega)]; rfl
    · rw [if_neg d, decide_eq_true (by omega)]; rfl
theorem sp_isYards (n : Nat) (S : ZS) {x : Int} (h1 : -2147483648 ≤ x) (h2 : x < 2147483648) : fT_isYards n S x = some (bZ (decide (1 ≤ x ∧ x ≤ 99))) := by
  unfold fT_isYards
  rw [gC_pos (by omega) (by omega) (by omega) (by omega), gC_pos (by omega) (by omega) (by omega) (by omega), gB_0, gB_1]
  by_cases c : x < 1
  · rw [if_pos c, decide_eq_false (by omega)]; rfl
  · rw [if_neg c]
    by_cases d : 99 < x
    · rw [if_pos d, decide_eq_false (by omega)]; rfl
    · rw [if_neg d, decide_eq_true (by omega)]; rfl
theorem sp_isPlace (n : Nat) (S : ZS) {x : Int} (h1 : -2147483648 ≤ x) (h2 : x < 2147483648) : fT_isPlace n S x = some (bZ (decide (0 ≤ x ∧ x ≤ 99))) := by
  unfold fT_isPlace
  rw [gC_pos (by omega) (by omega) (by omega) (by omega), gC_pos (by omega) (by omega) (by omega) (by omega), gB_0, gB_1]
  by_cases c : x < 0
  · rw [if_pos c, decide_eq_false (by omega)]; rfl
  · rw [if_neg c]
    by_cases d : 99 < x
    · rw [if_pos d, decide_eq_false (by omega)]; rfl
    · rw [if_neg d, decide_eq_true (by omega)]; rfl
theorem sp_isOwner (n : Nat) (S : ZS) {x : Int} (h1 : -2147483648 ≤ x) (h2 : x < 2147483648) : fT_isOwner n S x = some (bZ (decide (0 ≤ x ∧ x ≤ 3))) := by
  unfold fT_isOwner
  rw [gC_pos (by omega) (by omega) (by omega) (by omega), gC_pos (by omega) (by omega) (by omega) (by omega), gB_0, gB_1]
  by_cases c : x < 0
  · rw [if_pos c, decide_eq_false (by omega)]; rfl
  · rw [if_neg c]
    by_cases d : x < 4
    · rw [if_pos d, decide_eq_true (by omega)]; rfl
    · rw [if_neg d, decide_eq_false (by omega)]; rfl
theorem ne_b {b : Bool} (h : ¬ b = true) : b = false := by cases b <;> simp_all
theorem q_stand (hG : Good S) {x : Int} (h1 : -2147483648 ≤ x) (h2 : x < 2147483648) : ∃ n v S1 S2, fD_stand n S x = some (v, S1) ∧ fM_stand n S1 x = some (v, S2) ∧ Good S2 := by
  obtain ⟨T, ⟨ht, hm, w, wn, wf⟩, hr⟩ := id hG
  have hq := pw_le w.1
  unfold fD_stand fM_stand
  by_cases c : inSet T x = true
  · obtain ⟨a, rfl, ha⟩ := inSet_nat c
    by_cases d : firmB T a = true
    · have f0 : fr 2 7 1 S (wF S 1 8 (a : Int)) := fr_wF S 8 _
      have m0 := fgt_mAt f0 hm
      have w' := tN_wfR (T := T) (j := 8) (v := a) (by omega) w
      refine ⟨30, T.2 8, fgt (wF S 1 8 (a : Int)), wF (fgt (wF S 1 8 (a : Int))) 49 2 (a : Int), ?_, ?_, ?_⟩
      · rw [gC_pos (by omega) (by omega) (by omega) (by omega), sp_isSet ht w 30 (by omega) (by omega), c, Option.bind_some, gC_b, if_neg (show ¬ bZ true = 0 by decide), sp_isFirm ht w (by omega) (by omega), d, Option.bind_some, gC_b, if_neg (show ¬ bZ true = 0 by decide), sp_forget, Option.bind_some, ht.1 8 (by omega) (by omega)]
      · rw [gC_pos (by omega) (by omega) (by omega) (by omega), sm_isSet m0 w 30 (by omega) (by omega), c, Option.bind_some, gC_b, if_neg (show ¬ bZ true = 0 by decide), sm_rests m0 w (by omega) (by omega), d, Option.bind_some, gC_b, if_neg (show ¬ bZ true = 0 by decide), m0.1.2.2.1]
      · refine good_upd hG f0 (frM_wF _ _ (by omega)) (tN_at ht (by omega)) ⟨⟨m0.1.1, m0.1.2.1, rfl, m0.1.2.2.2.1, m0.1.2.2.2.2.1, m0.1.2.2.2.2.2⟩, m0.2.1, m0.2.2⟩ ⟨w', ⟨ha, wn.2⟩, ?_⟩
        exact (tN_firm (by omega) _).trans d
    · have d := ne_b d
      refine ⟨30, -2, S, S, ?_, ?_, hG⟩
      · rw [gC_pos (by omega) (by omega) (by omega) (by omega), sp_isSet ht w 30 (by omega) (by omega), c, Option.bind_some, gC_b, if_neg (show ¬ bZ true = 0 by decide), sp_isFirm ht w (by omega) (by omega), d, Option.bind_some, gC_b, if_pos (show bZ false = 0 from rfl)]
      · rw [gC_pos (by omega) (by omega) (by omega) (by omega), sm_isSet hm w 30 (by omega) (by omega), c, Option.bind_some, gC_b, if_neg (show ¬ bZ true = 0 by decide), sm_rests hm w (by omega) (by omega), d, Option.bind_some, gC_b, if_pos (show bZ false = 0 from rfl)]
  · have c := ne_b c
    refine ⟨30, -1, S, S, ?_, ?_, hG⟩
    · rw [gC_pos (by omega) (by omega) (by omega) (by omega), sp_isSet ht w 30 (by omega) (by omega), c, Option.bind_some, gC_b, if_pos (show bZ false = 0 from rfl)]
    · rw [gC_pos (by omega) (by omega) (by omega) (by omega), sm_isSet hm w 30 (by omega) (by omega), c, Option.bind_some, gC_b, if_pos (show bZ false = 0 from rfl)]
theorem p_stand : P_stand Inv := by
  intro x0
  have e : (Value.int x0) = .int (zI x0.toInt) := by rw [zI_of]
  rw [e]
  exact mkPair (fun n S => fD_stand n S x0.toInt) (fun n S => fM_stand n S x0.toInt) (fun o n S w h => sD_stand o n S _ h) (fun o n S w h => sM_stand o n S _ h) (fun S hG => q_stand hG (rngI x0).1 (rngI x0).2)
theorem q_want (hG : Good S) {x : Int} (h1 : -2147483648 ≤ x) (h2 : x < 2147483648) : ∃ n v S1 S2, fD_want n S x = some (v, S1) ∧ fM_want n S1 x = some (v, S2) ∧ Good S2 := by
  obtain ⟨T, ⟨ht, hm, w, wn, wf⟩, hr⟩ := id hG
  have hq := pw_le w.1
  unfold fD_want fM_want
  by_cases c : inSet T x = true
  · obtain ⟨a, rfl, ha⟩ := inSet_nat c
    have f0 : fr 2 7 1 S (wF S 1 9 (a : Int)) := fr_wF S 9 _
    have m0 := fgt_mAt f0 hm
    have w' := tN_wfR (T := T) (j := 9) (v := a) (by omega) w
    refine ⟨30, T.2 9, fgt (wF S 1 9 (a : Int)), wF (fgt (wF S 1 9 (a : Int))) 49 3 (a : Int), ?_, ?_, ?_⟩
    · rw [gC_pos (by omega) (by omega) (by omega) (by omega), sp_isSet ht w 30 (by omega) (by omega), c, Option.bind_some, gC_b, if_neg (show ¬ bZ true = 0 by decide), sp_forget, Option.bind_some, ht.1 9 (by omega) (by omega)]
    · rw [gC_pos (by omega) (by omega) (by omega) (by omega), sm_isSet m0 w 30 (by omega) (by omega), c, Option.bind_some, gC_b, if_neg (show ¬ bZ true = 0 by decide), m0.1.2.2.2.1]
    · refine good_upd hG f0 (frM_wF _ _ (by omega)) (tN_at ht (by omega)) ⟨⟨m0.1.1, m0.1.2.1, m0.1.2.2.1, rfl, m0.1.2.2.2.2.1, m0.1.2.2.2.2.2⟩, m0.2.1, m0.2.2⟩ ⟨w', ⟨wn.1, ha, wn.2.2⟩, ?_⟩
      exact (tN_firm (by omega) _).trans wf
  · have c := ne_b c
    refine ⟨30, -1, S, S, ?_, ?_, hG⟩
    · rw [gC_pos (by omega) (by omega) (by omega) (by omega), sp_isSet ht w 30 (by omega) (by omega), c, Option.bind_some, gC_b, if_pos (show bZ false = 0 from rfl)]
    · rw [gC_pos (by omega) (by omega) (by omega) (by omega), sm_isSet hm w 30 (by omega) (by omega), c, Option.bind_some, gC_b, if_pos (show bZ false = 0 from rfl)]
theorem p_want : P_want Inv := by
  intro x0
  have e : (Value.int x0) = .int (zI x0.toInt) := by rw [zI_of]
  rw [e]
  exact mkPair (fun n S => fD_want n S x0.toInt) (fun n S => fM_want n S x0.toInt) (fun o n S w h => sD_want o n S _ h) (fun o n S w h => sM_want o n S _ h) (fun S hG => q_want hG (rngI x0).1 (rngI x0).2)
end PR
