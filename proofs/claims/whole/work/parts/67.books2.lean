/-! ===== pairs: judged, wrong ===== -/
theorem findFrom_cg {c c' : Nat → Bool} : ∀ {j p : Nat}, (∀ i, p ≤ i → i < p + j → c i = c' i) → findFrom c j p = findFrom c' j p := by
  intro j
  induction j with
  | zero => intro p _; rfl
  | succ j ih =>
    intro p h
    unfold findFrom
    rw [h p (by omega) (by omega), ih (fun i h1 h2 => h i (by omega) (by omega))]
theorem bkf_cg {T : TW} {it it' : Nat → Int} {but but' : Int} {K : Nat} (h : ∀ k, k < 2 * K → it k = it' k) (hb : ∀ k : Nat, k < K → ((k : Int) = but ↔ (k : Int) = but')) : ∀ k, k ≤ K → bkf T it but k = bkf T it' but' k := by
  intro k
  induction k with
  | zero => intro _; rfl
  | succ k ih =>
    intro hk
    unfold bkf
    rw [ih (by omega), h (2 * k) (by omega), h (2 * k + 1) (by omega)]
    congr 1
    funext q
    by_cases c : (k : Int) = but
    · rw [if_pos c, if_pos ((hb k (by omega)).mp c)]
    · rw [if_neg c, if_neg (fun q => c ((hb k (by omega)).mpr q))]
theorem bkF_cg {T : TW} {it it' : Nat → Int} {but but' : Int} {K : Nat} (h : ∀ k, k < 2 * K → it k = it' k) (hb : ∀ k : Nat, k < K → ((k : Int) = but ↔ (k : Int) = but')) : bkF T it but K = bkF T it' but' K := by
  apply findFrom_cg
  intro i _ hi
  rw [bkf_cg h hb (i + 1) (by omega)]
section BK
variable {S : ZS}
theorem sp_book (n : Nat) {s l f m : Int} (g : gSh S) (h1 : -2147483648 ≤ s) (h2 : s < 2147483648) (h3 : -2147483648 ≤ l) (h4 : l < 2147483648) (h5 : -2147483648 ≤ f) (h6 : f < 2147483648) (h7 : -2147483648 ≤ m) (h8 : m < 2147483648) : fD_refusalOfBook n S s l f m = some (if 1 ≤ m ∧ m ≤ 8 ∧ 0 ≤ s ∧ s ≤ 3 ∧ 0 ≤ l ∧ l ≤ 2 then rfV S s l f (2 * m) else -1) := by
  unfold fD_refusalOfBook
  rw [gC_pos (by omega) (by omega) (by omega) (by omega)]
  by_cases c : m < 1
  · rw [if_pos c, if_neg (by omega)]
  · rw [if_neg c, gC_pos (by omega) (by omega) (by omega) (by omega)]
    by_cases d : 8 < m
    · rw [if_pos d, if_neg (by omega)]
    · rw [if_neg d, sp_refusal g n h1 h2 h3 h4 h5 h6 (by omega) (by omega), Option.bind_some]
      by_cases e : 0 ≤ s ∧ s ≤ 3 ∧ 0 ≤ l ∧ l ≤ 2
      · rw [if_pos e, if_pos ⟨(by omega), (by omega), e⟩]
      · rw [if_neg e, if_neg (fun q => e q.2.2)]
/-- the class's try of a book -/
theorem sp_try {T : TW} (ht : tAt S 1 T) (w : wfT T) (g : gSh S) {s f : Int} {m : Nat} (but : Int) (hb : -100 ≤ but) (hb2 : but ≤ 100) (h1 : 0 ≤ s) (h2 : s ≤ 3) (h3 : 0 ≤ f) (h4 : f + 2 * (m : Int) ≤ 24) {n : Nat} (hn : 60 ≤ n) : ∃ S1, fr 16 21 15 S S1 ∧ fD_firstUnlawful n S s f (m : Int) but = some (match bkF T (fun k => zA S 72 (24 * s + f + (k : Int))) but m with | some p => (p : Int) | none => (m : Int), S1) ∧ (bkF T (fun k => zA S 72 (24 * s + f + (k : Int))) but m = none → zF S1 15 8 = ((((bkf T (fun k => zA S 72 (24 * s + f + (k : Int))) but m).getD (0, 0)).1 : Nat) : Int)) := by
  obtain ⟨S0, e0, f0, t0⟩ := sp_take151 ht w.1 n
  have A : ∀ i, zA S0 46 i = zA S 46 i := fun i => fr_A f0 (by omega) i
  have hit : ∀ k, k < 2 * m → zA S0 46 (s * 24 + f + (k : Int)) = zA S 72 (24 * s + f + (k : Int)) := by
    intro k hk
    rw [A, Int.mul_comm 24 s]
    exact (g.1 _ (by omega) (by omega)).1
  have e1 := sp_first t0 w (from_ := f) (m := m) but hb hb2 h1 h2 h3 h4 (fun i a b => by rw [A, (g.1 i a b).1]; exact (g.1 i a b).2) hn
  rw [bkF_cg (it' := fun k => zA S 72 (24 * s + f + (k : Int))) hit (fun _ _ => Iff.rfl)] at e1
  unfold fD_firstUnlawful
  rw [e0, Option.bind_some, e1]
  cases hF : bkF T (fun k => zA S 72 (24 * s + f + (k : Int))) but m with
  | some p =>
    refine ⟨_, ?_, rfl, fun h => by cases h⟩
    exact fr_trans f0 (fr_trans (fr_wF _ 10 _) (fr_wF _ 8 _))
  | none =>
    refine ⟨_, ?_, rfl, fun _ => ?_⟩
    · exact fr_trans f0 (fr_trans (fr_wF _ 10 _) (fr_wF _ 8 _))
    · rw [zF_wF]
      simp only [if_true]
      rw [bkf_cg (it' := fun k => zA S 72 (24 * s + f + (k : Int))) hit (fun _ _ => Iff.rfl) m (Nat.le_refl _)]
theorem sm_try {T : TW} (hm : mAt S T) (w : wfT T) (g : gSh S) {s f : Int} {m : Nat} (but : Int) (hb : -100 ≤ but) (hb2 : but ≤ 100) (h1 : 0 ≤ s) (h2 : s ≤ 3) (h3 : 0 ≤ f) (h4 : f + 2 * (m : Int) ≤ 24) {n : Nat} (hn : 160 ≤ n) : fM_judge n S (24 * s + f) (m : Int) but = match bkF T (fun k => zA S 72 (24 * s + f + (k : Int))) but m with
    | some p => some ((p : Int), S)
    | none => some (-4, wF S 49 34 ((((bkf T (fun k => zA S 72 (24 * s + f + (k : Int))) but m).getD (0, 0)).1 : Nat) : Int)) := by
  unfold fM_judge
  rw [hm.1.2.2.1, hm.1.2.2.2.2.1, sm_judge1 hm w but hb hb2 (by omega) (by omega) (fun i a b => (g.1 i a b).2) hn]
  cases bkF T (fun k => zA S 72 (24 * s + f + (k : Int))) but m <;> rfl
theorem bkF_lt {T : TW} {it : Nat → Int} {but : Int} {m p : Nat} (h : bkF T it but m = some p) : p < m := by
  have := findFrom_some h
  omega
theorem q_judged (hG : Good S) {s l f m : Int} (h1 : -2147483648 ≤ s) (h2 : s < 2147483648) (h3 : -2147483648 ≤ l) (h4 : l < 2147483648) (h5 : -2147483648 ≤ f) (h6 : f < 2147483648) (h7 : -2147483648 ≤ m) (h8 : m < 2147483648) : ∃ n w S1 S2, fD_judged n S s l f m = some (w, S1) ∧ fM_judged n S1 s l f m = some (w, S2) ∧ Good S2 := by
  obtain ⟨T, ⟨ht, hm, wT⟩, -, -, g, -⟩ := id hG
  have no : ∀ b : Bool, b = false → bZ b = 0 := fun b h => by rw [h]; rfl
  have yes : ∀ b : Bool, b = true → ¬ bZ b = 0 := fun b h => by rw [h]; decide
  refine ⟨300, ?_⟩
  unfold fD_judged
  rw [sp_book 300 g h1 h2 h3 h4 h5 h6 h7 h8, Option.bind_some]
  by_cases c : 1 ≤ m ∧ m ≤ 8 ∧ 0 ≤ s ∧ s ≤ 3 ∧ 0 ≤ l ∧ l ≤ 2
  rotate_left
  · refine ⟨-1, S, S, ?_, ?_, hG⟩
    · rw [if_neg c, gC_pos (by omega) (by omega) (by omega) (by omega), if_neg (by omega)]
    · unfold fM_judged
      rw [sm_isSheet 300 S h1 h2 h3 h4, Option.bind_some, gC_b]
      by_cases d : 0 ≤ s ∧ s ≤ 3 ∧ 0 ≤ l ∧ l ≤ 2
      · rw [decide_eq_true d, if_neg (yes _ rfl), gC_pos (by omega) (by omega) (by omega) (by omega), sp_in S 300 (by omega) (by omega) (by omega) (by omega) (by omega) (by omega), decide_eq_false (by omega), Option.bind_some, gC_b, if_pos (no _ rfl)]
      · rw [decide_eq_false d, if_pos (no _ rfl)]
  rw [if_pos c]
  have r1 := rf_rng S s l f (2 * m)
  have E : ∀ S' : ZS, gSh S' → (∀ s l f m, rfV S' s l f m = rfV S s l f m) → fM_judged 300 S' s l f m = gC (rfV S s l f (2 * m)) 0 (if rfV S s l f (2 * m) < 0 then some (rfV S s l f (2 * m), S') else (fM_judge 300 S' (24 * s + f) m (-4)).bind fun z4 => some (z4.1, z4.2)) := by
    intro S' g' hrf
    unfold fM_judged
    rw [sm_isSheet 300 S' h1 h2 h3 h4, Option.bind_some, gC_b, decide_eq_true c.2.2, if_neg (yes _ rfl), gC_pos (by omega) (by omega) (by omega) (by omega), sp_in S' 300 (by omega) (by omega) (by omega) (by omega) (by omega) (by omega), decide_eq_true (by omega), Option.bind_some, gC_b, if_neg (yes _ rfl), sm_lacksRow g' 300 (by omega) (by omega) (by omega) (by omega) (by omega) (by omega) (by omega) (by omega), Option.bind_some, hrf]
  by_cases d : rfV S s l f (2 * m) = 0
  rotate_left
  · refine ⟨rfV S s l f (2 * m), S, S, ?_, ?_, hG⟩
    · rw [gC_pos (by omega) (by omega) (by omega) (by omega), if_neg d]
    · rw [E S g (fun _ _ _ _ => rfl), gC_pos (by omega) (by omega) (by omega) (by omega), if_pos (by omega)]
  obtain ⟨k1, k2, k3, k4, k5, k6⟩ := rf_0 g (by omega) (by omega) d
  obtain ⟨m, rfl⟩ : ∃ k : Nat, m = (k : Int) := ⟨m.toNat, by omega⟩
  obtain ⟨S1, f1, e1, -⟩ := sp_try ht wT g (s := s) (f := f) (m := m) (-1) (by omega) (by omega) (by omega) (by omega) (by omega) (by omega) (n := 300) (by omega)
  have g1 := fr_gSh f1 g (by omega)
  have m1 := fr_mAt f1 hm (by omega) (by omega)
  have e2 := sm_try m1 wT g1 (s := s) (f := f) (m := m) (-4) (by omega) (by omega) (by omega) (by omega) (by omega) (by omega) (n := 300) (by omega)
  have hit : ∀ k, k < 2 * m → zA S1 72 (24 * s + f + (k : Int)) = zA S 72 (24 * s + f + (k : Int)) := fun k _ => fr_A f1 (by omega) _
  rw [bkF_cg (it' := fun k => zA S 72 (24 * s + f + (k : Int))) (but' := -1) hit (fun k _ => by omega)] at e2
  have hrf : ∀ s l f m, rfV S1 s l f m = rfV S s l f m := by
    intro s l f m
    unfold rfV
    rw [fr_A f1 (by omega), fr_A f1 (by omega)]
  rw [d, gC_pos (by omega) (by omega) (by omega) (by omega), if_pos rfl, e1, Option.bind_some]
  cases hF : bkF T (fun k => zA S 72 (24 * s + f + (k : Int))) (-1) m with
  | some p =>
    have hp := bkF_lt hF
    rw [hF] at e2
    refine ⟨(p : Int), S1, S1, ?_, ?_, good_dr hG f1⟩
    · show gC (p : Int) (m : Int) (if (p : Int) < (m : Int) then _ else _) = _
      rw [gC_pos (by omega) (by omega) (by omega) (by omega), if_pos (by omega)]
    · rw [E S1 g1 hrf, d, gC_pos (by omega) (by omega) (by omega) (by omega), if_neg (by omega), e2]
      rfl
  | none =>
    rw [hF] at e2
    obtain ⟨Y, e2⟩ : ∃ Y, fM_judge 300 S1 (24 * s + f) (m : Int) (-4) = some (-4, wF S1 49 34 Y) := ⟨_, e2⟩
    refine ⟨-4, S1, wF S1 49 34 Y, ?_, ?_, good_34 (good_dr hG f1) _⟩
    rotate_left
    · rw [E S1 g1 hrf, d, gC_pos (by omega) (by omega) (by omega) (by omega), if_neg (by omega), e2]
      rfl
    · show gC (m : Int) (m : Int) (if (m : Int) < (m : Int) then _ else _) = _
      rw [gC_pos (by omega) (by omega) (by omega) (by omega), if_neg (by omega)]
theorem p_judged : P_judged Inv := by
  intro x0 x1 x2 x3
  have e0 : (Value.int x0) = .int (zI x0.toInt) := by rw [zI_of]
  have e1 : (Value.int x1) = .int (zI x1.toInt) := by rw [zI_of]
  have e2 : (Value.int x2) = .int (zI x2.toInt) := by rw [zI_of]
  have e3 : (Value.int x3) = .int (zI x3.toInt) := by rw [zI_of]
  rw [e0, e1, e2, e3]
  exact mkPair (fun n S => fD_judged n S x0.toInt x1.toInt x2.toInt x3.toInt) (fun n S => fM_judged n S x0.toInt x1.toInt x2.toInt x3.toInt) (fun o n S w h => sD_judged o n S _ _ _ _ h) (fun o n S w h => sM_judged o n S _ _ _ _ h) (fun S hG => q_judged hG (rngI x0).1 (rngI x0).2 (rngI x1).1 (rngI x1).2 (rngI x2).1 (rngI x2).2 (rngI x3).1 (rngI x3).2)
/-- a line that, left out, makes all others lawful, with what stood behind -/
def wrB (T : TW) (it : Nat → Int) (m : Nat) (st : Int) (k : Nat) : Bool := (bkF T it (k : Int) m).isNone && decide (((((bkf T it (k : Int) m).getD (0, 0)).1 : Nat) : Int) = st)
theorem sp_wrong1 {T : TW} (ht : tAt S 1 T) (w : wfT T) (g : gSh S) {s f st : Int} {m : Nat} (h1 : 0 ≤ s) (h2 : s ≤ 3) (h3 : 0 ≤ f) (h4 : f + 2 * (m : Int) ≤ 24) (h5 : m ≤ 8) (h6 : 0 ≤ st) (h7 : st < 256) {n : Nat} (hn : 100 ≤ n) : ∃ S1, fr 16 21 15 S S1 ∧ fD_wrong_1 n S s f (m : Int) st 0 0 = some (((maskTo (wrB T (fun k => zA S 72 (24 * s + f + (k : Int))) m st) m : Nat) : Int), S1) := by
  generalize hit : (fun k : Nat => zA S 72 (24 * s + f + (k : Int))) = it
  have key : ∀ (j p n : Nat) (S' : ZS), p + j = m → j + 70 < n → fr 16 21 15 S S' → ∃ S1, fr 16 21 15 S S1 ∧ fD_wrong_1 n S' s f (m : Int) st ((maskTo (wrB T it m st) p : Nat) : Int) (p : Int) = some (((maskTo (wrB T it m st) m : Nat) : Int), S1) := by
    intro j
    induction j with
    | zero =>
      intro p n S' hp hn hf
      obtain ⟨k, rfl⟩ : ∃ k, n = k + 1 := ⟨n - 1, by omega⟩
      have : p = m := by omega
      subst this
      refine ⟨S', hf, ?_⟩
      rw [fD_wrong_1, gC_pos (by omega) (by omega) (by omega) (by omega), if_neg (by omega)]
    | succ j ih =>
      intro p n S' hp hn hf
      obtain ⟨k, rfl⟩ : ∃ k, n = k + 1 := ⟨n - 1, by omega⟩
      obtain ⟨S1, f1, e1, e2⟩ := sp_try (fr_tAt hf ht (by omega) (by omega)) w (fr_gSh hf g (by omega)) (s := s) (f := f) (m := m) (p : Int) (by omega) (by omega) (by omega) (by omega) (by omega) (by omega) (n := k) (by omega)
      have hi2 : (fun k : Nat => zA S' 72 (24 * s + f + (k : Int))) = it := by
        rw [← hit]
        funext k
        exact fr_A hf (by omega) _
      rw [hi2] at e1 e2
      obtain ⟨S2, f2, e3⟩ := ih (p + 1) k S1 (by omega) (by omega) (fr_trans hf f1)
      refine ⟨S2, f2, ?_⟩
      rw [fD_wrong_1, gC_pos (by omega) (by omega) (by omega) (by omega), if_pos (by omega), e1, Option.bind_some]
      have ml := maskTo_lt (wrB T it m st) p
      have hp8 : 2 ^ p ≤ 256 := pw_le (by omega)
      have e3 : fD_wrong_1 k S1 s f (m : Int) st ((maskTo (wrB T it m st) p + (if wrB T it m st p = true then 2 ^ p else 0) : Nat) : Int) ((p : Int) + 1) = _ := e3
      cases hF : bkF T it (p : Int) m with
      | some q =>
        have hq := bkF_lt hF
        have hw : wrB T it m st p = false := by unfold wrB; rw [hF]; rfl
        show gC (q : Int) (m : Int) (if (q : Int) = (m : Int) then _ else _) = _
        rw [gC_pos (by omega) (by omega) (by omega) (by omega), if_neg (by omega)]
        rw [hw] at e3
        exact e3
      | none =>
        have e2 := e2 hF
        have hbd : ∃ z, bkf T it (p : Int) m = some z := bkf_some m (fun i hi => by
          have := findFrom_none hF i (by omega) (by omega)
          exact this)
        obtain ⟨z, hz⟩ := hbd
        have zb := bkf_bd w it (p : Int) m z hz
        have hq8 := pw_le w.1.1
        rw [hz] at e2
        have e2 : zF S1 15 8 = ((z.1 : Nat) : Int) := e2
        show gC (m : Int) (m : Int) (if (m : Int) = (m : Int) then _ else _) = _
        rw [gC_pos (by omega) (by omega) (by omega) (by omega), if_pos rfl]
        show gC (zF S1 15 8) st (if zF S1 15 8 = st then _ else _) = _
        rw [e2, gC_pos (by omega) (by omega) (by omega) (by omega)]
        by_cases c : ((z.1 : Nat) : Int) = st
        · have hw : wrB T it m st p = true := by
            unfold wrB
            rw [hF, hz]
            exact decide_eq_true c
          rw [if_pos c, mask_or (by omega)]
          rw [hw] at e3
          exact e3
        · have hw : wrB T it m st p = false := by
            unfold wrB
            rw [hF, hz]
            exact decide_eq_false c
          rw [if_neg c]
          rw [hw] at e3
          exact e3
  exact key m 0 n S (by omega) (by omega) fr_rfl
theorem wF_wF (S : ZS) (h j : Nat) (x y : Int) : wF (wF S h j x) h j y = wF S h j y := by
  refine Prod.ext rfl (Prod.ext ?_ rfl)
  funext h' j'
  show (if j' = j then (if h' = h then y else if j' = j then (if h' = h then x else S.2.1 h' j') else S.2.1 h' j') else if j' = j then (if h' = h then x else S.2.1 h' j') else S.2.1 h' j') = (if j' = j then (if h' = h then y else S.2.1 h' j') else S.2.1 h' j')
  by_cases c1 : j' = j
  · by_cases c2 : h' = h
    · rw [if_pos c1, if_pos c2, if_pos c1, if_pos c2]
    · rw [if_pos c1, if_neg c2, if_pos c1, if_neg c2, if_pos c1, if_neg c2]
  · rw [if_neg c1, if_neg c1, if_neg c1]
theorem m_34 {T : TW} (hm : mAt S T) (x : Int) : mAt (wF S 49 34 x) T := by
  obtain ⟨⟨a1, a2, a3, a4, a5, a6⟩, b, c⟩ := hm
  refine ⟨⟨?_, ?_, ?_, ?_, ?_, ?_⟩, b, c⟩
  · rw [zF_wF, if_neg (by decide)]; exact a1
  · rw [zF_wF, if_neg (by decide)]; exact a2
  · rw [zF_wF, if_neg (by decide)]; exact a3
  · rw [zF_wF, if_neg (by decide)]; exact a4
  · rw [zF_wF, if_neg (by decide)]; exact a5
  · rw [zF_wF, if_neg (by decide)]; exact a6
theorem g_34 (g : gSh S) (x : Int) : gSh (wF S 49 34 x) := by
  refine ⟨fun i a b => ?_, fun s a b => ?_⟩
  · rw [zA_wF, zA_wF]
    exact g.1 i a b
  · rw [zA_wF, zA_wF, zA_wF, zA_wF]
    exact g.2 s a b
theorem sm_wrong1 {T : TW} (hG : Good S) (hm : mAt S T) (w : wfT T) (g : gSh S) {s f st : Int} {m : Nat} (h1 : 0 ≤ s) (h2 : s ≤ 3) (h3 : 0 ≤ f) (h4 : f + 2 * (m : Int) ≤ 24) (h5 : m ≤ 8) (h6 : 0 ≤ st) (h7 : st < 256) {n : Nat} (hn : 200 ≤ n) : ∃ S1, Good S1 ∧ fM_wrong_1 n S s f (m : Int) st 0 0 = some (((maskTo (wrB T (fun k => zA S 72 (24 * s + f + (k : Int))) m st) m : Nat) : Int), S1) := by
  generalize hit : (fun k : Nat => zA S 72 (24 * s + f + (k : Int))) = it
  have key : ∀ (j p n : Nat) (x : Int), p + j = m → 170 + j < n → ∃ y, fM_wrong_1 n (wF S 49 34 x) s f (m : Int) st ((maskTo (wrB T it m st) p : Nat) : Int) (p : Int) = some (((maskTo (wrB T it m st) m : Nat) : Int), wF S 49 34 y) := by
    intro j
    induction j with
    | zero =>
      intro p n x hp hn
      obtain ⟨k, rfl⟩ : ∃ k, n = k + 1 := ⟨n - 1, by omega⟩
      have : p = m := by omega
      subst this
      refine ⟨x, ?_⟩
      rw [fM_wrong_1, gC_pos (by omega) (by omega) (by omega) (by omega), if_neg (by omega)]
    | succ j ih =>
      intro p n x hp hn
      obtain ⟨k, rfl⟩ : ∃ k, n = k + 1 := ⟨n - 1, by omega⟩
      have e1 := sm_try (S := wF S 49 34 x) (T := T) (m_34 hm x) w (g_34 g x) (s := s) (f := f) (m := m) (p : Int) (by omega) (by omega) (by omega) (by omega) (by omega) (by omega) (n := k) (by omega)
      have hi2 : (fun k : Nat => zA (wF S 49 34 x) 72 (24 * s + f + (k : Int))) = it := by
        rw [← hit]
        funext k
        rw [zA_wF]
      rw [hi2] at e1
      rw [fM_wrong_1, gC_pos (by omega) (by omega) (by omega) (by omega), if_pos (by omega)]
      have ml := maskTo_lt (wrB T it m st) p
      have hp8 : 2 ^ p ≤ 256 := pw_le (by omega)
      cases hF : bkF T it (p : Int) m with
      | some q =>
        have hw : wrB T it m st p = false := by unfold wrB; rw [hF]; rfl
        obtain ⟨y, e3⟩ := ih (p + 1) k x (by omega) (by omega)
        have e3 : fM_wrong_1 k (wF S 49 34 x) s f (m : Int) st ((maskTo (wrB T it m st) p + (if wrB T it m st p = true then 2 ^ p else 0) : Nat) : Int) ((p : Int) + 1) = _ := e3
        rw [hw] at e3
        refine ⟨y, ?_⟩
        have hq := bkF_lt hF
        rw [hF] at e1
        have e1 : fM_judge k (wF S 49 34 x) (24 * s + f) (m : Int) (p : Int) = some ((q : Int), wF S 49 34 x) := e1
        rw [e1, Option.bind_some]
        show (gC (q : Int) 0 (if (q : Int) < 0 then gC (zF (wF S 49 34 x) 49 34) st (if zF (wF S 49 34 x) 49 34 = st then some 1 else some 0) else some (0 : Int))).bind _ = _
        rw [gC_pos (by omega) (by omega) (by omega) (by omega), if_neg (by omega), Option.bind_some, gC_pos (by omega) (by omega) (by omega) (by omega), if_pos rfl, zor_0 (by omega)]
        exact e3
      | none =>
        obtain ⟨z, hz⟩ : ∃ z, bkf T it (p : Int) m = some z := bkf_some m (fun i hi => findFrom_none hF i (by omega) (by omega))
        have zb := bkf_bd w it (p : Int) m z hz
        have hq8 := pw_le w.1.1
        obtain ⟨y, e3⟩ := ih (p + 1) k (z.1 : Int) (by omega) (by omega)
        have e3 : fM_wrong_1 k (wF S 49 34 (z.1 : Int)) s f (m : Int) st ((maskTo (wrB T it m st) p + (if wrB T it m st p = true then 2 ^ p else 0) : Nat) : Int) ((p : Int) + 1) = _ := e3
        refine ⟨y, ?_⟩
        rw [hF, hz] at e1
        have e1 : fM_judge k (wF S 49 34 x) (24 * s + f) (m : Int) (p : Int) = some (-4, wF (wF S 49 34 x) 49 34 (z.1 : Int)) := e1
        rw [e1, wF_wF, Option.bind_some]
        have e34 : zF (wF S 49 34 (z.1 : Int)) 49 34 = (z.1 : Int) := rfl
        show (gC (-4) 0 (if (-4 : Int) < 0 then gC (zF (wF S 49 34 (z.1 : Int)) 49 34) st (if zF (wF S 49 34 (z.1 : Int)) 49 34 = st then some 1 else some 0) else some (0 : Int))).bind _ = _
        rw [e34, gC_pos (x := -4) (y := 0) (by omega) (by omega) (by omega) (by omega), if_pos (by omega), gC_pos (by omega) (by omega) (by omega) (by omega)]
        by_cases c : ((z.1 : Nat) : Int) = st
        · have hw : wrB T it m st p = true := by
            unfold wrB
            rw [hF, hz]
            exact decide_eq_true c
          rw [hw] at e3
          rw [if_pos c, Option.bind_some, gC_pos (by omega) (by omega) (by omega) (by omega), if_neg (by omega), mask_or (by omega)]
          exact e3
        · have hw : wrB T it m st p = false := by
            unfold wrB
            rw [hF, hz]
            exact decide_eq_false c
          rw [hw] at e3
          rw [if_neg c, Option.bind_some, gC_pos (by omega) (by omega) (by omega) (by omega), if_pos rfl, zor_0 (by omega)]
          exact e3
  obtain ⟨y, e⟩ := key m 0 n (zF S 49 34) (by omega) (by omega)
  rw [wF_id S 49 34 rfl] at e
  exact ⟨_, good_34 hG y, e⟩
theorem q_wrong (hG : Good S) {s l f m st : Int} (h1 : -2147483648 ≤ s) (h2 : s < 2147483648) (h3 : -2147483648 ≤ l) (h4 : l < 2147483648) (h5 : -2147483648 ≤ f) (h6 : f < 2147483648) (h7 : -2147483648 ≤ m) (h8 : m < 2147483648) (h9 : -2147483648 ≤ st) (h10 : st < 2147483648) : ∃ n w S1 S2, fD_wrong n S s l f m st = some (w, S1) ∧ fM_wrong n S1 s l f m st = some (w, S2) ∧ Good S2 := by
  obtain ⟨T, ⟨ht, hm, wT⟩, -, -, g, -⟩ := id hG
  have hq8 := pw_le wT.1.1
  have no : ∀ b : Bool, b = false → bZ b = 0 := fun b h => by rw [h]; rfl
  have yes : ∀ b : Bool, b = true → ¬ bZ b = 0 := fun b h => by rw [h]; decide
  refine ⟨400, ?_⟩
  unfold fD_wrong
  rw [gC_pos (by omega) (by omega) (by omega) (by omega), sp_isSet ht wT.1 400 (by omega) (by omega), Option.bind_some, gC_b, sp_book 400 g h1 h2 h3 h4 h5 h6 h7 h8, Option.bind_some]
  have E0 : ∀ S' : ZS, mAt S' T → fM_wrong 400 S' s l f m st = if 0 ≤ s ∧ s ≤ 3 ∧ 0 ≤ l ∧ l ≤ 2 then (if 1 ≤ m ∧ m ≤ 8 then (if inSet T st = true then (fM_lacksRow 400 S' s l f (2 * m)).bind fun z4 => gC z4 0 (if z4 < 0 then some (z4, S') else (fM_wrong_1 400 S' s f m st 0 0).bind fun z5 => some (z5.1, z5.2)) else some (-1, S')) else some (-1, S')) else some (-1, S') := by
    intro S' hm'
    unfold fM_wrong
    rw [sm_isSheet 400 S' h1 h2 h3 h4, Option.bind_some, gC_b, gC_pos (by omega) (by omega) (by omega) (by omega), sp_in S' 400 (by omega) (by omega) (by omega) (by omega) (by omega) (by omega), Option.bind_some, gC_b, gC_pos (by omega) (by omega) (by omega) (by omega), sm_isSet hm' wT.1 400 (by omega) (by omega), Option.bind_some, gC_b]
    by_cases a : 0 ≤ s ∧ s ≤ 3 ∧ 0 ≤ l ∧ l ≤ 2
    · rw [decide_eq_true a, if_neg (yes _ rfl), if_pos a]
      by_cases b : 1 ≤ m ∧ m ≤ 8
      · rw [decide_eq_true b, if_neg (yes _ rfl), if_pos b]
        cases inSet T st with
        | true => rw [if_neg (yes _ rfl), if_pos rfl]
        | false => rw [if_pos (no _ rfl), if_neg (by decide)]
      · rw [decide_eq_false b, if_pos (no _ rfl), if_neg b]
    · rw [decide_eq_false a, if_pos (no _ rfl), if_neg a]
  by_cases b : inSet T st = true
  rotate_left
  · refine ⟨-1, S, S, ?_, ?_, hG⟩
    · rw [ne_b b, if_pos (no _ rfl)]
    · rw [E0 S hm, if_neg b, ite_self, ite_self]
  rw [b, if_neg (yes _ rfl)]
  by_cases c : 1 ≤ m ∧ m ≤ 8 ∧ 0 ≤ s ∧ s ≤ 3 ∧ 0 ≤ l ∧ l ≤ 2
  rotate_left
  · refine ⟨-1, S, S, ?_, ?_, hG⟩
    · rw [if_neg c, gC_pos (by omega) (by omega) (by omega) (by omega), if_neg (by omega)]
    · rw [E0 S hm]
      by_cases a : 0 ≤ s ∧ s ≤ 3 ∧ 0 ≤ l ∧ l ≤ 2
      · rw [if_pos a, if_neg (by omega)]
      · rw [if_neg a]
  rw [if_pos c]
  have r1 := rf_rng S s l f (2 * m)
  by_cases d : rfV S s l f (2 * m) = 0
  rotate_left
  · refine ⟨rfV S s l f (2 * m), S, S, ?_, ?_, hG⟩
    · rw [gC_pos (by omega) (by omega) (by omega) (by omega), if_neg d]
    · rw [E0 S hm, if_pos c.2.2, if_pos (by omega), if_pos b, sm_lacksRow g 400 (by omega) (by omega) (by omega) (by omega) (by omega) (by omega) (by omega) (by omega), Option.bind_some, gC_pos (by omega) (by omega) (by omega) (by omega), if_pos (by omega)]
  obtain ⟨k1, k2, k3, k4, k5, k6⟩ := rf_0 g (by omega) (by omega) d
  obtain ⟨m, rfl⟩ : ∃ k : Nat, m = (k : Int) := ⟨m.toNat, by omega⟩
  obtain ⟨a, rfl, ha⟩ := inSet_nat b
  obtain ⟨S1, f1, e1⟩ := sp_wrong1 ht wT g (s := s) (f := f) (m := m) (st := (a : Int)) (by omega) (by omega) (by omega) (by omega) (by omega) (by omega) (by omega) (n := 400) (by omega)
  have g1 := fr_gSh f1 g (by omega)
  have m1 := fr_mAt f1 hm (by omega) (by omega)
  obtain ⟨S2, G2, e2⟩ := sm_wrong1 (good_dr hG f1) m1 wT g1 (s := s) (f := f) (m := m) (st := (a : Int)) (by omega) (by omega) (by omega) (by omega) (by omega) (by omega) (by omega) (n := 400) (by omega)
  have hit : (fun k : Nat => zA S1 72 (24 * s + f + (k : Int))) = (fun k : Nat => zA S 72 (24 * s + f + (k : Int))) := by
    funext k
    exact fr_A f1 (by omega) _
  rw [hit] at e2
  have hrf : rfV S1 s l f (2 * (m : Int)) = 0 := by
    rw [← d]
    unfold rfV
    rw [fr_A f1 (by omega), fr_A f1 (by omega)]
  refine ⟨((maskTo (wrB T (fun k => zA S 72 (24 * s + f + (k : Int))) m (a : Int)) m : Nat) : Int), S1, S2, ?_, ?_, G2⟩
  rotate_left
  · rw [E0 S1 m1, if_pos c.2.2, if_pos (by omega), if_pos b, sm_lacksRow g1 400 (by omega) (by omega) (by omega) (by omega) (by omega) (by omega) (by omega) (by omega), Option.bind_some, hrf, gC_pos (by omega) (by omega) (by omega) (by omega), if_neg (by omega), e2]
    rfl
  · rw [d, gC_pos (by omega) (by omega) (by omega) (by omega), if_pos rfl, e1]
    rfl
theorem p_wrong : P_wrong Inv := by
  intro x0 x1 x2 x3 x4
  have e0 : (Value.int x0) = .int (zI x0.toInt) := by rw [zI_of]
  have e1 : (Value.int x1) = .int (zI x1.toInt) := by rw [zI_of]
  have e2 : (Value.int x2) = .int (zI x2.toInt) := by rw [zI_of]
  have e3 : (Value.int x3) = .int (zI x3.toInt) := by rw [zI_of]
  have e4 : (Value.int x4) = .int (zI x4.toInt) := by rw [zI_of]
  rw [e0, e1, e2, e3, e4]
  exact mkPair (fun n S => fD_wrong n S x0.toInt x1.toInt x2.toInt x3.toInt x4.toInt) (fun n S => fM_wrong n S x0.toInt x1.toInt x2.toInt x3.toInt x4.toInt) (fun o n S w h => sD_wrong o n S _ _ _ _ _ h) (fun o n S w h => sM_wrong o n S _ _ _ _ _ h) (fun S hG => q_wrong hG (rngI x0).1 (rngI x0).2 (rngI x1).1 (rngI x1).2 (rngI x2).1 (rngI x2).2 (rngI x3).1 (rngI x3).2 (rngI x4).1 (rngI x4).2)
end BK
