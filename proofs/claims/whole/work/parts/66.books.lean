/-! ===== books: judged, wrong ===== -/
def tSF (T : TW) (s f : Nat) : TW := tN (tN T 10 f) 8 s
/-- a week of a book, from s with f free -/
def bs (T : TW) (q : Nat × Nat) (x y : Int) : Option (Nat × Nat) := if wkB T q.1 x y = true ∧ lwB T q.1 (q.2 : Int) x.toNat y.toNat = true then some (nDf q.1 x.toNat ||| y.toNat, (min 999 ((q.2 : Int) + Mo T x.toNat y.toNat)).toNat) else none
/-- a book's town ahead of line k -/
def bkf (T : TW) (it : Nat → Int) (but : Int) : Nat → Option (Nat × Nat)
  | 0 => some (T.2 8, T.2 10)
  | k + 1 => (bkf T it but k).bind fun q => if (k : Int) = but then some q else bs T q (it (2 * k)) (it (2 * k + 1))
theorem wF_col (S : ZS) (h : Nat) (a b c d : Int) : wF (wF (wF (wF S h 10 a) h 8 b) h 10 c) h 8 d = wF (wF S h 10 c) h 8 d := by
  refine Prod.ext rfl (Prod.ext ?_ rfl)
  funext h' j'
  show (if j' = 8 then (if h' = h then d else if j' = 10 then (if h' = h then c else if j' = 8 then (if h' = h then b else if j' = 10 then (if h' = h then a else S.2.1 h' j') else S.2.1 h' j') else if j' = 10 then (if h' = h then a else S.2.1 h' j') else S.2.1 h' j') else if j' = 8 then (if h' = h then b else if j' = 10 then (if h' = h then a else S.2.1 h' j') else S.2.1 h' j') else if j' = 10 then (if h' = h then a else S.2.1 h' j') else S.2.1 h' j') else if j' = 10 then (if h' = h then c else if j' = 8 then (if h' = h then b else if j' = 10 then (if h' = h then a else S.2.1 h' j') else S.2.1 h' j') else if j' = 10 then (if h' = h then a else S.2.1 h' j') else S.2.1 h' j') else if j' = 8 then (if h' = h then b else if j' = 10 then (if h' = h then a else S.2.1 h' j') else S.2.1 h' j') else if j' = 10 then (if h' = h then a else S.2.1 h' j') else S.2.1 h' j') = (if j' = 8 then (if h' = h then d else if j' = 10 then (if h' = h then c else S.2.1 h' j') else S.2.1 h' j') else if j' = 10 then (if h' = h then c else S.2.1 h' j') else S.2.1 h' j')
  by_cases c1 : h' = h
  · simp only [c1, if_true]
    by_cases c2 : j' = 8
    · simp only [c2, if_true]
    · by_cases c3 : j' = 10
      · simp only [c3, if_true]
      · simp only [c2, c3, if_false]
  · simp only [c1, if_false, ite_self]
theorem wF_id (S : ZS) (h j : Nat) {x : Int} (e : zF S h j = x) : wF S h j x = S := by
  refine Prod.ext rfl (Prod.ext ?_ rfl)
  funext h' j'
  show (if j' = j then (if h' = h then x else S.2.1 h' j') else S.2.1 h' j') = S.2.1 h' j'
  by_cases c1 : j' = j
  · by_cases c2 : h' = h
    · rw [if_pos c1, if_pos c2, ← e, c1, c2]
      rfl
    · rw [if_pos c1, if_neg c2]
  · rw [if_neg c1]
section BK
variable {S : ZS} {T : TW}
theorem tSF_6 (s f : Nat) : (tSF T s f).2 6 = T.2 6 := rfl
theorem tSF_wk (s f : Nat) (x y : Int) (q : Nat) : wkB (tSF T s f) q x y = wkB T q x y := rfl
theorem tSF_lw (s f from_ : Nat) (has : Int) (a b : Nat) : lwB (tSF T s f) from_ has a b = lwB T from_ has a b := rfl
theorem tSF_mo (s f a b : Nat) : Mo (tSF T s f) a b = Mo T a b := rfl
theorem tSF_wfR (s f : Nat) (w : wfR T) : wfR (tSF T s f) := w
theorem tSF_at {t : Nat} (h : tAt S t T) (s f : Nat) : tAt (wF (wF S t 10 (f : Int)) t 8 (s : Int)) t (tSF T s f) := by
  refine ⟨fun j a b => ?_, fun i p a b c => h.2.1 i p a b c, fun p a => h.2.2 p a⟩
  rw [zF_wF, zF_wF]
  simp only [if_true]
  show _ = ((if j = 8 then s else if j = 10 then f else T.2 j : Nat) : Int)
  by_cases c1 : j = 8
  · rw [if_pos c1, if_pos c1]
  · rw [if_neg c1, if_neg c1]
    by_cases c2 : j = 10
    · rw [if_pos c2, if_pos c2]
    · rw [if_neg c2, if_neg c2]
      exact h.1 j a b
theorem bkf_bd (w : wfT T) (it : Nat → Int) (but : Int) : ∀ (k : Nat) (q : Nat × Nat), bkf T it but k = some q → q.1 < 2 ^ T.2 6 ∧ q.2 ≤ 999 := by
  intro k
  induction k with
  | zero => intro q h; cases h; exact ⟨w.2.1.1, w.2.1.2.2.1⟩
  | succ k ih =>
    intro q h
    unfold bkf at h
    obtain ⟨z, h1, h2⟩ := zB_inv h
    have hz := ih z h1
    split at h2
    · cases h2; exact hz
    · unfold bs at h2
      split at h2
      · next hc =>
        cases h2
        obtain ⟨a, b, ea, eb, ha, hb, -, -⟩ := wk_split hc.1
        rw [ea, eb]
        simp only [Int.toNat_natCast]
        exact ⟨Nat.or_lt_two_pow (nDf_lt hz.1) hb, by omega⟩
      · cases h2
theorem zl2i_n {a : Nat} (h : a < 2147483648) : zl2i (a : Int) = (a : Int) := by
  unfold zl2i
  rw [Int64.toInt_toInt32, zL_to (by omega) (by omega)]
  exact bm32 (by omega) (by omega)
theorem sp_draft (ht : tAt S 15 T) (w : wfR T) {q : Nat × Nat} (hq : q.1 < 2 ^ T.2 6 ∧ q.2 ≤ 999) (hw : 1 ≤ T.2 11 ∧ T.2 11 ≤ 999) (h9 : T.2 9 < 2 ^ T.2 6) {s at_ x y : Int} (h1 : 0 ≤ s) (h2 : s ≤ 3) (h3 : 0 ≤ at_) (h4 : at_ + 1 < 24) (hx : zA S 46 (s * 24 + at_) = x) (hy : zA S 46 (s * 24 + (at_ + 1)) = y) (r1 : -9223372036854775808 ≤ x ∧ x < 9223372036854775808) (r2 : -9223372036854775808 ≤ y ∧ y < 9223372036854775808) {n : Nat} (hn : 20 ≤ n) : fD_draftPasses n (wF (wF S 15 10 (q.2 : Int)) 15 8 (q.1 : Int)) s at_ = match bs T q x y with
    | some z => some (1, wF (wF S 15 10 (z.2 : Int)) 15 8 (z.1 : Int))
    | none => some (0, wF (wF S 15 10 (q.2 : Int)) 15 8 (q.1 : Int)) := by
  have ht' := tSF_at ht q.1 q.2
  have w' := tSF_wfR q.1 q.2 w
  have wn' : wfN (tSF T q.1 q.2) := ⟨hq.1, h9, hq.2, hw⟩
  have hq8 := pw_le w.1
  unfold fD_draftPasses fH_look
  have ex : zA (wF (wF S 15 10 (q.2 : Int)) 15 8 (q.1 : Int)) 46 (s * 24 + at_) = x := hx
  have ey : zA (wF (wF S 15 10 (q.2 : Int)) 15 8 (q.1 : Int)) 46 (s * 24 + (at_ + 1)) = y := hy
  rw [gX_pos (by omega) (by omega) (by omega), ex, Option.bind_some, gX_pos (by omega) (by omega) (by omega), ey, Option.bind_some, sp_isWeek ht' w' hq.1 n r1.1 r1.2 r2.1 r2.2, Option.bind_some, gC_b]
  have e8 : (tSF T q.1 q.2).2 8 = q.1 := rfl
  have e10 : (tSF T q.1 q.2).2 10 = q.2 := rfl
  rw [e8, tSF_wk]
  unfold bs
  by_cases c : wkB T q.1 x y = true
  · obtain ⟨a, b, rfl, rfl, ha, hb, k1, k2⟩ := wk_split c
    have ha' : a < 2 ^ (tSF T q.1 q.2).2 6 := ha
    have hb' : b < 2 ^ (tSF T q.1 q.2).2 6 := hb
    have hle := law_eq (T := tSF T q.1 q.2) (go := a) (come := b) k1 k2
    rw [e8, e10, tSF_lw] at hle
    rw [c, if_neg (show ¬ bZ true = 0 by decide), zl2i_n (by omega), zl2i_n (by omega), sp_isLawful ht' w' wn' ha' hb' hn, ← hle, Option.bind_some, gC_b, gB_0]
    simp only [Int.toNat_natCast]
    by_cases d : lwB T q.1 (q.2 : Int) a b = true
    · have hov := Ov_bd w' a b
      have hd : nDf q.1 a < 2 ^ T.2 6 := nDf_lt hq.1
      have hmo : Mo T a b = Ov (tSF T q.1 q.2) a b := Mo_Ov (T := tSF T q.1 q.2) (wk_apart k1 k2)
      have h0 : 0 ≤ (q.2 : Int) + Mo T a b := by
        unfold lwB at d
        rw [Bool.and_eq_true] at d
        exact of_decide_eq_true d.2
      rw [d, if_neg (show ¬ bZ true = 0 by decide), if_pos ⟨trivial, rfl⟩]
      unfold fT_pass_15
      rw [sp_over ht' w' (by omega) (by omega) hn, Option.bind_some, gC_pos (by omega) (by omega) (by omega) (by omega), ht'.1 8 (by omega) (by omega), e8, e10, zdf_n (by omega) (by omega), zor_n (by omega) (by omega), Option.bind_some, gB_1, wF_col, ← hmo]
      show some (1, wF (wF S 15 10 (min 999 ((q.2 : Int) + Mo T a b))) 15 8 _) = some (1, wF (wF S 15 10 (((min 999 ((q.2 : Int) + Mo T a b)).toNat : Nat) : Int)) 15 8 _)
      rw [show (((min 999 ((q.2 : Int) + Mo T a b)).toNat : Nat) : Int) = min 999 ((q.2 : Int) + Mo T a b) by omega]
    · rw [ne_b d, if_pos (show bZ false = 0 from rfl), if_neg (fun h => absurd h.2 (by decide))]
  · rw [ne_b c, if_pos (show bZ false = 0 from rfl), if_neg (fun h => absurd h.1 (by decide)), gB_0]
/-- the first line of n that fails -/
def bkF (T : TW) (it : Nat → Int) (but : Int) (n : Nat) : Option Nat := firstTo (fun k => (bkf T it but (k + 1)).isNone) n
theorem bkf_some {it : Nat → Int} {but : Int} : ∀ (k : Nat), (∀ i, i < k → (bkf T it but (i + 1)).isNone = false) → ∃ q, bkf T it but k = some q := by
  intro k h
  cases k with
  | zero => exact ⟨_, rfl⟩
  | succ k =>
    have := h k (by omega)
    cases hb : bkf T it but (k + 1) with
    | none => rw [hb] at this; cases this
    | some q => exact ⟨q, rfl⟩
theorem sp_first (ht : tAt S 15 T) (w : wfT T) {s from_ : Int} {m : Nat} (but : Int) (hb : -100 ≤ but) (hb2 : but ≤ 100) (h1 : 0 ≤ s) (h2 : s ≤ 3) (h3 : 0 ≤ from_) (h4 : from_ + 2 * (m : Int) ≤ 24) (hr : ∀ i : Int, 0 ≤ i → i < 96 → -9223372036854775808 ≤ zA S 46 i ∧ zA S 46 i < 9223372036854775808) {n : Nat} (hn : 60 ≤ n) : fD_firstUnlawful_1 n S s from_ (m : Int) but 0 = match bkF T (fun k => zA S 46 (s * 24 + from_ + (k : Int))) but m with
    | some p => some (.inl ((p : Int), wF (wF S 15 10 ((((bkf T (fun k => zA S 46 (s * 24 + from_ + (k : Int))) but p).getD (0, 0)).2 : Nat) : Int)) 15 8 ((((bkf T (fun k => zA S 46 (s * 24 + from_ + (k : Int))) but p).getD (0, 0)).1 : Nat) : Int)))
    | none => some (.inr (wF (wF S 15 10 ((((bkf T (fun k => zA S 46 (s * 24 + from_ + (k : Int))) but m).getD (0, 0)).2 : Nat) : Int)) 15 8 ((((bkf T (fun k => zA S 46 (s * 24 + from_ + (k : Int))) but m).getD (0, 0)).1 : Nat) : Int))) := by
  generalize hit : (fun k : Nat => zA S 46 (s * 24 + from_ + (k : Int))) = it
  have hit' : ∀ k : Nat, it k = zA S 46 (s * 24 + from_ + (k : Int)) := fun k => by rw [← hit]
  have wn := w.2.1
  have S0 : wF (wF S 15 10 ((((bkf T it but 0).getD (0, 0)).2 : Nat) : Int)) 15 8 ((((bkf T it but 0).getD (0, 0)).1 : Nat) : Int) = S := by
    have e1 : wF S 15 10 ((T.2 10 : Nat) : Int) = S := wF_id S 15 10 (ht.1 10 (by omega) (by omega))
    show wF (wF S 15 10 ((T.2 10 : Nat) : Int)) 15 8 ((T.2 8 : Nat) : Int) = S
    rw [e1]
    exact wF_id S 15 8 (ht.1 8 (by omega) (by omega))
  have e := loop_ex (F := fun n a p => fD_firstUnlawful_1 n a s from_ (m : Int) but p) (fun p => wF (wF S 15 10 ((((bkf T it but p).getD (0, 0)).2 : Nat) : Int)) 15 8 ((((bkf T it but p).getD (0, 0)).1 : Nat) : Int)) m 30 (fun k => (bkf T it but (k + 1)).isNone) (fun p => some (.inl ((p : Int), wF (wF S 15 10 ((((bkf T it but p).getD (0, 0)).2 : Nat) : Int)) 15 8 ((((bkf T it but p).getD (0, 0)).1 : Nat) : Int)))) (res := some (.inr (wF (wF S 15 10 ((((bkf T it but m).getD (0, 0)).2 : Nat) : Int)) 15 8 ((((bkf T it but m).getD (0, 0)).1 : Nat) : Int)))) ?_ ?_ ?_ n (by omega)
  · have e : fD_firstUnlawful_1 n (wF (wF S 15 10 ((((bkf T it but 0).getD (0, 0)).2 : Nat) : Int)) 15 8 ((((bkf T it but 0).getD (0, 0)).1 : Nat) : Int)) s from_ (m : Int) but 0 = _ := e
    rw [S0] at e
    exact e
  · intro n p hp hn hc
    show fD_firstUnlawful_1 (n + 1) _ s from_ (m : Int) but (p : Int) = fD_firstUnlawful_1 n (wF (wF S 15 10 ((((bkf T it but (p + 1)).getD (0, 0)).2 : Nat) : Int)) 15 8 ((((bkf T it but (p + 1)).getD (0, 0)).1 : Nat) : Int)) s from_ (m : Int) but ((p : Int) + 1)
    obtain ⟨z, hz⟩ : ∃ z, bkf T it but (p + 1) = some z := by
      cases hb : bkf T it but (p + 1) with
      | none => rw [hb] at hc; cases hc
      | some z => exact ⟨z, rfl⟩
    obtain ⟨q, hq, hz2⟩ := zB_inv (show (bkf T it but p).bind _ = some z from hz)
    have hbd := bkf_bd w it but p q hq
    rw [fD_firstUnlawful_1, gC_pos (by omega) (by omega) (by omega) (by omega), if_pos (by omega), gC_pos (by omega) (by omega) (by omega) (by omega), hz, hq]
    by_cases c : (p : Int) = but
    · rw [if_pos c] at hz2 ⊢
      cases hz2
      rfl
    · rw [if_neg c] at hz2 ⊢
      simp only [Option.getD_some]
      rw [sp_draft ht w.1 hbd wn.2.2.2 wn.2.1 h1 h2 (by omega) (by omega) (x := it (2 * p)) (y := it (2 * p + 1)) (by rw [hit']; congr 1; omega) (by rw [hit']; congr 1; omega) (by rw [hit']; exact hr _ (by omega) (by omega)) (by rw [hit']; exact hr _ (by omega) (by omega)) (by omega), hz2]
      show (some (1, _)).bind _ = _
      rw [Option.bind_some, gC_pos (by omega) (by omega) (by omega) (by omega), if_neg (by omega)]
  · intro n p hp hn hc hall
    show fD_firstUnlawful_1 (n + 1) _ s from_ (m : Int) but (p : Int) = _
    obtain ⟨q, hq⟩ := bkf_some p hall
    have hbd := bkf_bd w it but p q hq
    have hz : bkf T it but (p + 1) = none := by
      cases hb : bkf T it but (p + 1) with
      | none => rfl
      | some z =>
        have hc : (bkf T it but (p + 1)).isNone = true := hc
        rw [hb] at hc; cases hc
    have hz2 : (if (p : Int) = but then some q else bs T q (it (2 * p)) (it (2 * p + 1))) = none := by
      have : (bkf T it but p).bind (fun q => if (p : Int) = but then some q else bs T q (it (2 * p)) (it (2 * p + 1))) = none := hz
      rw [hq] at this
      exact this
    have c : ¬ (p : Int) = but := fun c => by rw [if_pos c] at hz2; cases hz2
    rw [if_neg c] at hz2
    rw [fD_firstUnlawful_1, gC_pos (by omega) (by omega) (by omega) (by omega), if_pos (by omega), gC_pos (by omega) (by omega) (by omega) (by omega), hq, if_neg c]
    simp only [Option.getD_some]
    rw [sp_draft ht w.1 hbd wn.2.2.2 wn.2.1 h1 h2 (by omega) (by omega) (x := it (2 * p)) (y := it (2 * p + 1)) (by rw [hit']; congr 1; omega) (by rw [hit']; congr 1; omega) (by rw [hit']; exact hr _ (by omega) (by omega)) (by rw [hit']; exact hr _ (by omega) (by omega)) (by omega), hz2]
    show (some (0, _)).bind _ = _
    rw [Option.bind_some, gC_pos (by omega) (by omega) (by omega) (by omega), if_pos rfl]
  · intro n _ _
    show fD_firstUnlawful_1 (n + 1) _ s from_ (m : Int) but (m : Int) = _
    rw [fD_firstUnlawful_1, gC_pos (by omega) (by omega) (by omega) (by omega), if_neg (by omega)]
theorem sm_judge1 (hm : mAt S T) (w : wfT T) {at_ : Int} {m : Nat} (but : Int) (hb : -100 ≤ but) (hb2 : but ≤ 100) (h3 : 0 ≤ at_) (h4 : at_ + 2 * (m : Int) ≤ 96) (hr : ∀ i : Int, 0 ≤ i → i < 96 → -9223372036854775808 ≤ zA S 72 i ∧ zA S 72 i < 9223372036854775808) {n : Nat} (hn : 160 ≤ n) : fM_judge_1 n S at_ (m : Int) but (T.2 8 : Int) (T.2 10 : Int) 0 = match bkF T (fun k => zA S 72 (at_ + (k : Int))) but m with
    | some p => some (.inl ((p : Int), S))
    | none => some (.inr ((((bkf T (fun k => zA S 72 (at_ + (k : Int))) but m).getD (0, 0)).1 : Nat) : Int)) := by
  generalize hit : (fun k : Nat => zA S 72 (at_ + (k : Int))) = it
  have hit' : ∀ k : Nat, it k = zA S 72 (at_ + (k : Int)) := fun k => by rw [← hit]
  have wn := w.2.1
  have hq8 := pw_le w.1.1
  have step : ∀ (n : Nat) (q : Nat × Nat) (p : Nat), 30 ≤ n → p < m → q.1 < 2 ^ T.2 6 → q.2 ≤ 999 → ¬ (p : Int) = but → fM_judge_1 (n + 1) S at_ (m : Int) but (q.1 : Int) (q.2 : Int) (p : Int) = match bs T q (it (2 * p)) (it (2 * p + 1)) with
      | some z => fM_judge_1 n S at_ (m : Int) but (z.1 : Int) (z.2 : Int) ((p : Int) + 1)
      | none => some (.inl ((p : Int), S)) := by
    intro n q p hn hp b1 b2 c
    have ex : zA S 72 (at_ + 2 * (p : Int)) = it (2 * p) := by rw [hit']; congr 1
    have ey : zA S 72 (at_ + 2 * (p : Int) + 1) = it (2 * p + 1) := by rw [hit']; congr 1; omega
    have r1 := hr (at_ + 2 * (p : Int)) (by omega) (by omega)
    have r2 := hr (at_ + 2 * (p : Int) + 1) (by omega) (by omega)
    rw [ex] at r1
    rw [ey] at r2
    rw [fM_judge_1, gC_pos (by omega) (by omega) (by omega) (by omega), if_pos (by omega), gX_pos (by omega) (by omega) (by omega), gX_pos (by omega) (by omega) (by omega), gC_pos (by omega) (by omega) (by omega) (by omega), if_neg c, ex, ey, sm_isWeek hm w.1 b1 n r1.1 r1.2 r2.1 r2.2, Option.bind_some, gC_b]
    unfold bs
    by_cases d : wkB T q.1 (it (2 * p)) (it (2 * p + 1)) = true
    · obtain ⟨a, b, ea, eb, ha, hb, k1, k2⟩ := wk_split d
      rw [d, if_neg (show ¬ bZ true = 0 by decide), ea, eb, zl2i_n (by omega), zl2i_n (by omega), sm_isLawful hm w.1 wn.2.2.2.2 (by omega) (by omega) b1 ha hb (by omega), Option.bind_some, gC_b]
      simp only [Int.toNat_natCast]
      by_cases e : lwB T q.1 (q.2 : Int) a b = true
      · have hmo := Mo_bd w.1 a b
        have hd : nDf q.1 a < 2 ^ T.2 6 := nDf_lt b1
        have h0 : 0 ≤ (q.2 : Int) + Mo T a b := by
          unfold lwB at e
          rw [Bool.and_eq_true] at e
          exact of_decide_eq_true e.2
        rw [e, if_neg (show ¬ bZ true = 0 by decide), if_pos ⟨trivial, rfl⟩, sm_moreBy hm w.1 (by omega) (by omega) (by omega), Option.bind_some, sm_most S n (by omega) (by omega), Option.bind_some, zdf_n (by omega) (by omega), zor_n (by omega) (by omega)]
        show _ = fM_judge_1 n S at_ (m : Int) but _ (((min 999 ((q.2 : Int) + Mo T a b)).toNat : Nat) : Int) _
        rw [show (((min 999 ((q.2 : Int) + Mo T a b)).toNat : Nat) : Int) = min 999 ((q.2 : Int) + Mo T a b) by omega]
      · rw [ne_b e, if_pos (show bZ false = 0 from rfl), if_neg (fun h => absurd h.2 (by decide))]
    · rw [ne_b d, if_pos (show bZ false = 0 from rfl), if_neg (fun h => absurd h.1 (by decide))]
  have e := loop_ex (F := fun n (a : Int × Int) p => fM_judge_1 n S at_ (m : Int) but a.1 a.2 p) (fun p => (((((bkf T it but p).getD (0, 0)).1 : Nat) : Int), ((((bkf T it but p).getD (0, 0)).2 : Nat) : Int))) m 30 (fun k => (bkf T it but (k + 1)).isNone) (fun p => some (.inl ((p : Int), S))) (res := some (.inr ((((bkf T it but m).getD (0, 0)).1 : Nat) : Int))) ?_ ?_ ?_ n (by omega)
  · exact e
  · intro n p hp hn hc
    show fM_judge_1 (n + 1) S at_ (m : Int) but _ _ (p : Int) = fM_judge_1 n S at_ (m : Int) but ((((bkf T it but (p + 1)).getD (0, 0)).1 : Nat) : Int) ((((bkf T it but (p + 1)).getD (0, 0)).2 : Nat) : Int) ((p : Int) + 1)
    obtain ⟨z, hz⟩ : ∃ z, bkf T it but (p + 1) = some z := by
      cases hb : bkf T it but (p + 1) with
      | none => rw [hb] at hc; cases hc
      | some z => exact ⟨z, rfl⟩
    obtain ⟨q, hq, hz2⟩ := zB_inv (show (bkf T it but p).bind _ = some z from hz)
    have hbd := bkf_bd w it but p q hq
    rw [hz, hq]
    simp only [Option.getD_some]
    by_cases c : (p : Int) = but
    · rw [if_pos c] at hz2
      cases hz2
      rw [fM_judge_1, gC_pos (by omega) (by omega) (by omega) (by omega), if_pos (by omega), gX_pos (by omega) (by omega) (by omega), gX_pos (by omega) (by omega) (by omega), gC_pos (by omega) (by omega) (by omega) (by omega), if_pos c]
    · rw [if_neg c] at hz2
      rw [step n q p (by omega) hp hbd.1 hbd.2 c, hz2]
  · intro n p hp hn hc hall
    show fM_judge_1 (n + 1) S at_ (m : Int) but _ _ (p : Int) = _
    obtain ⟨q, hq⟩ := bkf_some p hall
    have hbd := bkf_bd w it but p q hq
    have hz : bkf T it but (p + 1) = none := by
      cases hb : bkf T it but (p + 1) with
      | none => rfl
      | some z =>
        have hc : (bkf T it but (p + 1)).isNone = true := hc
        rw [hb] at hc; cases hc
    have hz2 : (if (p : Int) = but then some q else bs T q (it (2 * p)) (it (2 * p + 1))) = none := by
      have : (bkf T it but p).bind (fun q => if (p : Int) = but then some q else bs T q (it (2 * p)) (it (2 * p + 1))) = none := hz
      rw [hq] at this
      exact this
    have c : ¬ (p : Int) = but := fun c => by rw [if_pos c] at hz2; cases hz2
    rw [if_neg c] at hz2
    rw [hq]
    simp only [Option.getD_some]
    rw [step n q p (by omega) hp hbd.1 hbd.2 c, hz2]
  · intro n _ _
    show fM_judge_1 (n + 1) S at_ (m : Int) but _ _ (m : Int) = _
    rw [fM_judge_1, gC_pos (by omega) (by omega) (by omega) (by omega), if_neg (by omega)]
theorem sp_take151 (ht : tAt S 1 T) (w : wfR T) (n : Nat) : ∃ S1, fT_takeOver_15_1 n S = some S1 ∧ fr 16 21 15 S S1 ∧ tAt S1 15 T := by
  have w6 := w.1
  have w7 := w.2.1
  unfold fT_takeOver_15_1
  rw [gY_pos (by omega) (by omega) (by omega) (by omega) (by omega) (by omega) (by omega), gY_pos (by omega) (by omega) (by omega) (by omega) (by omega) (by omega) (by omega), gY_pos (by omega) (by omega) (by omega) (by omega) (by omega) (by omega) (by omega), gY_pos (by omega) (by omega) (by omega) (by omega) (by omega) (by omega) (by omega), gY_pos (by omega) (by omega) (by omega) (by omega) (by omega) (by omega) (by omega), gY_pos (by omega) (by omega) (by omega) (by omega) (by omega) (by omega) (by omega)]
  refine ⟨_, rfl, ?_, ?_⟩
  · exact fr_trans (fr_trans (fr_trans (fr_trans (fr_trans (fr_trans (fr_trans (fr_trans (fr_trans (fr_trans (fr_trans (fr_wR _ _ (by omega) (by omega)) (fr_wR _ _ (by omega) (by omega))) (fr_wR _ _ (by omega) (by omega))) (fr_wR _ _ (by omega) (by omega))) (fr_wR _ _ (by omega) (by omega))) (fr_wR _ _ (by omega) (by omega))) (fr_wF _ 6 _)) (fr_wF _ 7 _)) (fr_wF _ 8 _)) (fr_wF _ 9 _)) (fr_wF _ 10 _)) (fr_wF _ 11 _)
  · refine ⟨fun j a b => ?_, fun i p a b c => ?_, fun p a => ?_⟩
    · rw [← ht.1 j a b]
      have hj : j = 6 ∨ j = 7 ∨ j = 8 ∨ j = 9 ∨ j = 10 ∨ j = 11 := by omega
      rcases hj with rfl | rfl | rfl | rfl | rfl | rfl <;> rfl
    · rw [← ht.2.1 i p a b c]
      have hi : i = 1 ∨ i = 2 ∨ i = 3 ∨ i = 4 ∨ i = 5 := by omega
      rcases hi with rfl | rfl | rfl | rfl | rfl
      · exact tk_A (S.1 2) (S.1 16) 8 (by omega) (by omega)
      · exact tk_A (S.1 3) (S.1 17) 8 (by omega) (by omega)
      · exact tk_A (S.1 4) (S.1 18) 8 (by omega) (by omega)
      · exact tk_A (S.1 5) (S.1 19) 8 (by omega) (by omega)
      · exact tk_A (S.1 6) (S.1 20) 8 (by omega) (by omega)
    · rw [← ht.2.2 p a]
      exact tk_A (S.1 7) (S.1 21) 4 (by omega) (by omega)
theorem good_dr {S1 : ZS} (hG : Good S) (f1 : fr 16 21 15 S S1) : Good S1 := by
  obtain ⟨T, ⟨h1, h2, h3⟩, h4, h5, h6, h7, h8⟩ := hG
  exact ⟨T, ⟨fr_tAt f1 h1 (by omega) (by omega), fr_mAt f1 h2 (by omega) (by omega), h3⟩, fr_gTape f1 h4 (by omega) (by omega) (by omega), fr_gImg f1 h5 (by omega) (by omega) (by omega) (by omega), fr_gSh f1 h6 (by omega), fr_gWay f1 h7 (by omega) (by omega), fr_gRoom f1 h8⟩
theorem good_34 (hG : Good S) (x : Int) : Good (wF S 49 34 x) := by
  obtain ⟨T, ⟨h1, h2, h3⟩, h4, h5, h6, h7, h8⟩ := hG
  have tt : ∀ (t : Nat) (K : TW), tAt S t K → tAt (wF S 49 34 x) t K := fun t K h => ⟨fun j a b => by rw [zF_wF, if_neg (by omega)]; exact h.1 j a b, h.2.1, h.2.2⟩
  refine ⟨T, ⟨tt 1 T h1, h2, h3⟩, h4, ?_, h6, h7, h8⟩
  rcases h5 with ⟨a, b⟩ | ⟨a, b, K, c, d, e⟩
  · exact Or.inl ⟨a, b⟩
  · exact Or.inr ⟨a, b, K, tt 8 K c, d, e⟩
end BK
