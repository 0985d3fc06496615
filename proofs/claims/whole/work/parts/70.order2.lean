/-! ===== builders: turned around; both orders ===== -/
def trn (K : Nat) (f : Int → Int) : Nat → Int → Int
  | 0 => f
  | p + 1 => zu (zu (trn K f p) (p : Int) (trn K f p ((K : Int) - 1 - (p : Int)))) ((K : Int) - 1 - (p : Int)) (trn K f p (p : Int))
theorem trn_eq {K : Nat} {f g : Int → Int} (h : odEq f g K K) : ∀ p, p ≤ K / 2 → odEq (trn K f p) (trn K g p) K K := by
  intro p
  induction p with
  | zero => intro _; exact h
  | succ p ih =>
    intro hp
    have h0 := ih (by omega)
    intro i hi
    unfold trn zu
    have hp1 := h0 p (by omega)
    have hp2 := h0 (K - 1 - p) (by omega)
    rw [show ((K - 1 - p : Nat) : Int) = (K : Int) - 1 - (p : Int) by omega] at hp2
    by_cases c : (i : Int) = (K : Int) - 1 - (p : Int)
    · rw [if_pos c, if_pos c]
      exact hp1
    · rw [if_neg c, if_neg c]
      by_cases d : (i : Int) = (p : Int)
      · rw [if_pos d, if_pos d]
        exact hp2
      · rw [if_neg d, if_neg d]
        exact h0 i hi
theorem tdiv2 (K : Nat) : ((K : Int).tdiv 2) = ((K / 2 : Nat) : Int) := rfl
section OR
variable {S : ZS} {T : TW}
theorem sp_turn (S : ZS) {K : Nat} (hK : K ≤ 8) (f : Int → Int) {n : Nat} (hn : 20 ≤ n) : fB_turnAround n (wR S 44 f) (K : Int) = some (wR S 44 (trn K f (K / 2))) := by
  have e := loop_for (F := fun n a p => fB_turnAround_1 n a (K : Int) p) (fun p => wR S 44 (trn K f p)) (K / 2) 0 (res := some (wR S 44 (trn K f (K / 2)))) ?_ ?_ n (by omega)
  · unfold fB_turnAround
    rw [show fB_turnAround_1 n (wR S 44 f) (K : Int) 0 = _ from e]
    rfl
  · intro n p hp _
    show fB_turnAround_1 (n + 1) (wR S 44 (trn K f p)) (K : Int) (p : Int) = _
    have r : ∀ y, zA (wR S 44 (trn K f p)) 44 y = trn K f p y := fun y => rfl
    rw [fB_turnAround_1, gV_pos (by omega) (by omega) (by omega) (by omega), tdiv2, gC_pos (by omega) (by omega) (by omega) (by omega), if_pos (by omega), gX_pos (by omega) (by omega) (by omega), gX_pos (by omega) (by omega) (by omega), gX_pos (by omega) (by omega) (by omega), gX_pos (by omega) (by omega) (by omega), r, r, wA_wR, wA_wR]
    rfl
  · intro n _
    show fB_turnAround_1 (n + 1) (wR S 44 (trn K f (K / 2))) (K : Int) ((K / 2 : Nat) : Int) = _
    rw [fB_turnAround_1, gV_pos (by omega) (by omega) (by omega) (by omega), tdiv2, gC_pos (by omega) (by omega) (by omega) (by omega), if_neg (by omega)]
theorem sm_turn (hm : mAt S T) (w : wfR T) {b : Int} (hb : b = 1 ∨ b = 3) (f : Int → Int) {n : Nat} (hn : 20 ≤ n) : fM_findOrder_3 n (wR S 66 f) b 0 = some (wR S 66 (trn (T.2 6) f (T.2 6 / 2))) := by
  have w6 := w.1
  have hb1 : b.tmod 2 = 1 := by rcases hb with rfl | rfl <;> rfl
  have e := loop_for (F := fun n a p => fM_findOrder_3 n a b p) (fun p => wR S 66 (trn (T.2 6) f p)) (T.2 6 / 2) 0 (res := some (wR S 66 (trn (T.2 6) f (T.2 6 / 2)))) ?_ ?_ n (by omega)
  · exact e
  · intro n p hp _
    show fM_findOrder_3 (n + 1) (wR S 66 (trn (T.2 6) f p)) b (p : Int) = _
    have r : ∀ y, zA (wR S 66 (trn (T.2 6) f p)) 66 y = trn (T.2 6) f p y := fun y => rfl
    have e6 : zF (wR S 66 (trn (T.2 6) f p)) 49 1 = (T.2 6 : Int) := hm.1.1
    rw [fM_findOrder_3, e6, gV_pos (x := (T.2 6 : Int)) (by omega) (by omega) (by omega) (by omega), tdiv2, gC_pos (by omega) (by omega) (by omega) (by omega), if_pos (by omega), gV_pos (x := b) (by omega) (by omega) (by omega) (by omega), hb1, gC_pos (by omega) (by omega) (by omega) (by omega), if_pos rfl, gX_pos (by omega) (by omega) (by omega), gX_pos (by omega) (by omega) (by omega), gX_pos (by omega) (by omega) (by omega), gX_pos (by omega) (by omega) (by omega), r, r, wA_wR, wA_wR]
    rfl
  · intro n _
    show fM_findOrder_3 (n + 1) (wR S 66 (trn (T.2 6) f (T.2 6 / 2))) b ((T.2 6 / 2 : Nat) : Int) = _
    have e6 : zF (wR S 66 (trn (T.2 6) f (T.2 6 / 2))) 49 1 = (T.2 6 : Int) := hm.1.1
    rw [fM_findOrder_3, e6, gV_pos (x := (T.2 6 : Int)) (by omega) (by omega) (by omega) (by omega), tdiv2, gC_pos (by omega) (by omega) (by omega) (by omega), if_neg (by omega)]
theorem sm_noturn (hm : mAt S T) (w : wfR T) {b : Int} (hb : b = 0 ∨ b = 2) (f : Int → Int) {n : Nat} (hn : 20 ≤ n) : fM_findOrder_3 n (wR S 66 f) b 0 = some (wR S 66 f) := by
  have w6 := w.1
  have hb1 : b.tmod 2 = 0 := by rcases hb with rfl | rfl <;> rfl
  obtain ⟨k, rfl⟩ : ∃ k, n = k + 1 := ⟨n - 1, by omega⟩
  have e6 : zF (wR S 66 f) 49 1 = (T.2 6 : Int) := hm.1.1
  rw [fM_findOrder_3, e6, gV_pos (x := (T.2 6 : Int)) (by omega) (by omega) (by omega) (by omega), tdiv2, gC_pos (by omega) (by omega) (by omega) (by omega), gV_pos (x := b) (by omega) (by omega) (by omega) (by omega), hb1, gC_pos (by omega) (by omega) (by omega) (by omega), if_neg (show ¬ (0 : Int) = 1 by decide), ite_self]
/-- both orders: rows that agree on the parts -/
theorem orders (ht : tAt S 1 T) (w : wfR T) {b : Int} (h0 : 0 ≤ b) (h3 : b ≤ 3) : ∃ F : Int → Int, (∀ n, 100 ≤ n → fB_lineUp n S b = some (wR S 44 F)) ∧ ∀ S' : ZS, mAt S' T → ∃ G : Int → Int, (∀ n, 100 ≤ n → fM_findOrder n S' b = some (wR S' 66 G)) ∧ odEq F G (T.2 6) (T.2 6) := by
  have w6 := w.1
  have hid : ∀ i : Nat, i < T.2 6 → idn (S.1 44) (T.2 6) (i : Int) = (i : Int) := fun i hi => if_pos (by omega)
  have e6 : ∀ f, zF (wR S 44 f) 1 6 = (T.2 6 : Int) := fun f => ht.1 6 (by omega) (by omega)
  have hY : ∀ S' : ZS, mAt S' T → ∀ p : Int, 0 ≤ p → p < (T.2 6 : Int) → zA S 3 p = zA S' 50 (5 * p + 1) := by
    intro S' hm' p a c
    obtain ⟨q, rfl⟩ : ∃ q : Nat, p = (q : Int) := ⟨p.toNat, by omega⟩
    exact (ht.2.1 2 q (by omega) (by omega) (by omega)).trans (hm'.2.1 1 q (by omega) (by omega)).symm
  by_cases hb : b < 2
  · by_cases h1 : b = 1
    · refine ⟨trn (T.2 6) (srt (fun p => zA S 3 p) (idn (S.1 44) (T.2 6)) (T.2 6)) (T.2 6 / 2), fun n hn => ?_, fun S' hm' => ⟨trn (T.2 6) (srt (fun p => zA S' 50 (5 * p + 1)) (S'.1 66) (T.2 6)) (T.2 6 / 2), fun n hn => ?_, ?_⟩⟩
      · unfold fB_lineUp
        rw [sp_line1 ht w b (by omega), Option.bind_some, gC_pos (by omega) (by omega) (by omega) (by omega), if_neg (by omega), sp_sort ht w hid (by omega), Option.bind_some, Option.bind_some, gC_pos (by omega) (by omega) (by omega) (by omega), if_pos h1, e6, sp_turn S w6 _ (by omega), Option.bind_some]
      · unfold fM_findOrder
        rw [sm_sort hm' w h0 hb (by omega), Option.bind_some, sm_turn hm' w (by omega) _ (by omega), Option.bind_some]
      · exact trn_eq (srt_eq (hY S' hm') _ _ _ (Nat.le_refl _)).1 _ (Nat.le_refl _)
    · refine ⟨srt (fun p => zA S 3 p) (idn (S.1 44) (T.2 6)) (T.2 6), fun n hn => ?_, fun S' hm' => ⟨srt (fun p => zA S' 50 (5 * p + 1)) (S'.1 66) (T.2 6), fun n hn => ?_, ?_⟩⟩
      · unfold fB_lineUp
        rw [sp_line1 ht w b (by omega), Option.bind_some, gC_pos (by omega) (by omega) (by omega) (by omega), if_neg (by omega), sp_sort ht w hid (by omega), Option.bind_some, Option.bind_some, gC_pos (by omega) (by omega) (by omega) (by omega), if_neg h1, gC_pos (by omega) (by omega) (by omega) (by omega), if_neg (by omega)]
      · unfold fM_findOrder
        rw [sm_sort hm' w h0 hb (by omega), Option.bind_some, sm_noturn hm' w (by omega) _ (by omega), Option.bind_some]
      · exact (srt_eq (hY S' hm') _ _ _ (Nat.le_refl _)).1
  · have hidn : ∀ f g : Int → Int, odEq (idn f (T.2 6)) (idn g (T.2 6)) (T.2 6) (T.2 6) := by
      intro f g i hi
      unfold idn
      rw [if_pos (by omega), if_pos (by omega)]
      exact ⟨rfl, (by omega), (by omega)⟩
    by_cases h1 : b = 3
    · refine ⟨trn (T.2 6) (idn (S.1 44) (T.2 6)) (T.2 6 / 2), fun n hn => ?_, fun S' hm' => ⟨trn (T.2 6) (idn (S'.1 66) (T.2 6)) (T.2 6 / 2), fun n hn => ?_, ?_⟩⟩
      · unfold fB_lineUp
        rw [sp_line1 ht w b (by omega), Option.bind_some, gC_pos (by omega) (by omega) (by omega) (by omega), if_pos (by omega), Option.bind_some, gC_pos (by omega) (by omega) (by omega) (by omega), if_neg (by omega), gC_pos (by omega) (by omega) (by omega) (by omega), if_pos h1, e6, sp_turn S w6 _ (by omega), Option.bind_some]
      · unfold fM_findOrder
        rw [sm_nosort hm' w (by omega) (by omega) (by omega), Option.bind_some, sm_turn hm' w (by omega) _ (by omega), Option.bind_some]
      · exact trn_eq (hidn _ _) _ (Nat.le_refl _)
    · refine ⟨idn (S.1 44) (T.2 6), fun n hn => ?_, fun S' hm' => ⟨idn (S'.1 66) (T.2 6), fun n hn => ?_, hidn _ _⟩⟩
      · unfold fB_lineUp
        rw [sp_line1 ht w b (by omega), Option.bind_some, gC_pos (by omega) (by omega) (by omega) (by omega), if_pos (by omega), Option.bind_some, gC_pos (by omega) (by omega) (by omega) (by omega), if_neg (by omega), gC_pos (by omega) (by omega) (by omega) (by omega), if_neg h1]
      · unfold fM_findOrder
        rw [sm_nosort hm' w (by omega) (by omega) (by omega), Option.bind_some, sm_noturn hm' w (by omega) _ (by omega), Option.bind_some]
end OR
/-! ===== what a builder does in a week ===== -/
def dnS (T : TW) : Nat := nDf (T.2 8) (T.2 9)
def upS (T : TW) : Nat := nDf (T.2 9) (T.2 8)
def p2B (T : TW) (od : Nat → Nat) (a b : Nat) : Bool := (dnS T).testBit (od a) && (upS T).testBit (od b) && lawB T (2 ^ od a) (2 ^ od b)
def pdB (T : TW) (od : Nat → Nat) (a : Nat) : Bool := (dnS T).testBit (od a) && lawB T (2 ^ od a) 0
def puB (T : TW) (od : Nat → Nat) (a : Nat) : Bool := (upS T).testBit (od a) && lawB T 0 (2 ^ od a)
def pk2 (T : TW) (od : Nat → Nat) : Option (Nat × Nat) := match firstTo (fun a => (firstTo (p2B T od a) (T.2 6)).isSome) (T.2 6) with
  | some a => match firstTo (p2B T od a) (T.2 6) with
    | some b => some (2 ^ od a, 2 ^ od b)
    | none => none
  | none => none
def pkD (T : TW) (od : Nat → Nat) : Option (Nat × Nat) := match firstTo (pdB T od) (T.2 6) with
  | some a => some (2 ^ od a, 0)
  | none => none
def pkU (T : TW) (od : Nat → Nat) : Option (Nat × Nat) := match firstTo (puB T od) (T.2 6) with
  | some a => some (0, 2 ^ od a)
  | none => none
def psS (S : ZS) (T : TW) (g c : Nat) : ZS := wF (wF S 1 10 (min 999 ((T.2 10 : Int) + Ov T g c))) 1 8 ((nDf (T.2 8) g ||| c : Nat) : Int)
def dwS (S : ZS) (T : TW) (g c : Nat) : ZS := wF (wF S 49 4 (min 999 ((T.2 10 : Int) + Mo T g c))) 49 2 ((nDf (T.2 8) g ||| c : Nat) : Int)
theorem and_2p (d x : Nat) : d &&& 2 ^ x = if d.testBit x = true then 2 ^ x else 0 := by
  apply Nat.eq_of_testBit_eq
  intro i
  rw [Nat.testBit_and, Nat.testBit_two_pow]
  by_cases e : x = i
  · subst e
    cases h : d.testBit x <;> simp
  · cases h : d.testBit x <;> simp [e, Nat.testBit_two_pow]
theorem nDf_2p {s t x : Nat} (h : (nDf s t).testBit x = true) : nDf (2 ^ x) s = 0 ∧ (2 ^ x) &&& t = 0 ∧ s.testBit x = true ∧ t.testBit x = false := by
  rw [nDf_bit] at h
  have h1 : s.testBit x = true := by cases hs : s.testBit x <;> simp_all
  have h2 : t.testBit x = false := by cases hs : t.testBit x <;> simp_all
  refine ⟨?_, ?_, h1, h2⟩
  · apply Nat.eq_of_testBit_eq
    intro i
    rw [nDf_bit, Nat.testBit_two_pow, Nat.zero_testBit]
    by_cases e : x = i
    · subst e; simp [h1]
    · simp [e]
  · apply Nat.eq_of_testBit_eq
    intro i
    rw [Nat.testBit_and, Nat.testBit_two_pow, Nat.zero_testBit]
    by_cases e : x = i
    · subst e; simp [h2]
    · simp [e]
section BW
variable {S : ZS} {T : TW} {od : Nat → Nat}
theorem zand_2p {d x : Nat} (hd : d < 256) (hx : x < 8) : zand (d : Int) (zshl 1 (x : Int)) = if d.testBit x = true then ((2 ^ x : Nat) : Int) else 0 := by
  have hp : 2 ^ x ≤ 256 := pw_le (by omega)
  rw [zshl_1 (by omega), zand_n (by omega) (by omega), and_2p]
  split <;> rfl
theorem sp_two (ht : tAt S 1 T) (w : wfT T) (hO : ∀ i : Nat, i < T.2 6 → zA S 44 (i : Int) = (od i : Int) ∧ od i < T.2 6) {n : Nat} (hn : 100 ≤ n) : fB_doesTwo n S (dnS T : Int) (upS T : Int) = match pk2 T od with
    | some q => some (1, psS S T q.1 q.2)
    | none => some (0, S) := by
  have w6 := w.1.1
  have hq := pw_le w6
  have hd : dnS T < 2 ^ T.2 6 := nDf_lt w.2.1.1
  have hu : upS T < 2 ^ T.2 6 := nDf_lt w.2.1.2.1
  have pw : ∀ i, i < T.2 6 → 2 ^ od i < 2 ^ T.2 6 := fun i hi => Nat.pow_lt_pow_of_lt (by omega) (hO i hi).2
  have inner : ∀ a, a < T.2 6 → ∀ n, 60 ≤ n → fB_doesTwo_2 n S (dnS T : Int) (upS T : Int) (a : Int) ((2 ^ od a : Nat) : Int) 0 = match firstTo (p2B T od a) (T.2 6) with
      | some b => some (.inl (1, psS S T (2 ^ od a) (2 ^ od b)))
      | none => some (.inr ()) := by
    intro a ha n hn
    have oa := (hO a ha).2
    have pa := pw a ha
    have ea : zand (dnS T : Int) ((2 ^ od a : Nat) : Int) = if (dnS T).testBit (od a) = true then ((2 ^ od a : Nat) : Int) else 0 := by
      rw [zand_n (by omega) (by omega), and_2p]
      split <;> rfl
    refine loop_ex (F := fun n (_ : Unit) p => fB_doesTwo_2 n S (dnS T : Int) (upS T : Int) (a : Int) ((2 ^ od a : Nat) : Int) p) (fun _ => ()) (T.2 6) 30 (p2B T od a) (fun b => some (.inl (1, psS S T (2 ^ od a) (2 ^ od b)))) (res := some (.inr ())) ?_ ?_ ?_ n (by omega)
    · intro n b hb hn hc
      show fB_doesTwo_2 (n + 1) S (dnS T : Int) (upS T : Int) (a : Int) ((2 ^ od a : Nat) : Int) (b : Int) = fB_doesTwo_2 n S (dnS T : Int) (upS T : Int) (a : Int) ((2 ^ od a : Nat) : Int) ((b : Int) + 1)
      have ob := (hO b hb).2
      have pb := pw b hb
      have oe : zand (upS T : Int) (zshl 1 ((od b : Nat) : Int)) = if (upS T).testBit (od b) = true then ((2 ^ od b : Nat) : Int) else 0 := zand_2p (by omega) (by omega)
      have hp1 := pw_pos (od a)
      have hp2 := pw_pos (od b)
      rw [fB_doesTwo_2, ht.1 6 (by omega) (by omega), gC_pos (by omega) (by omega) (by omega) (by omega), if_pos (by omega), gX_pos (by omega) (by omega) (by omega), (hO b hb).1, ea, oe]
      unfold p2B at hc
      cases h1 : (dnS T).testBit (od a) with
      | false => rw [if_neg (show ¬ false = true by decide), gC_pos (by omega) (by omega) (by omega) (by omega), if_pos rfl]
      | true =>
        rw [if_pos rfl, gC_pos (by omega) (by omega) (by omega) (by omega), if_neg (by omega)]
        cases h2 : (upS T).testBit (od b) with
        | false => rw [if_neg (show ¬ false = true by decide), gC_pos (by omega) (by omega) (by omega) (by omega), if_pos rfl]
        | true =>
          rw [h1, h2] at hc
          have hc : lawB T (2 ^ od a) (2 ^ od b) = false := hc
          rw [if_pos rfl, gC_pos (by omega) (by omega) (by omega) (by omega), if_neg (by omega), zshl_1 (by omega), sp_isLawful ht w.1 w.2.1 pa pb (by omega), Option.bind_some, gC_b, hc, if_pos (show bZ false = 0 from rfl)]
    · intro n b hb hn hc _
      show fB_doesTwo_2 (n + 1) S (dnS T : Int) (upS T : Int) (a : Int) ((2 ^ od a : Nat) : Int) (b : Int) = _
      have ob := (hO b hb).2
      have pb := pw b hb
      have oe : zand (upS T : Int) (zshl 1 ((od b : Nat) : Int)) = if (upS T).testBit (od b) = true then ((2 ^ od b : Nat) : Int) else 0 := zand_2p (by omega) (by omega)
      have hp1 := pw_pos (od a)
      have hp2 := pw_pos (od b)
      unfold p2B at hc
      rw [Bool.and_eq_true, Bool.and_eq_true] at hc
      rw [fB_doesTwo_2, ht.1 6 (by omega) (by omega), gC_pos (by omega) (by omega) (by omega) (by omega), if_pos (by omega), gX_pos (by omega) (by omega) (by omega), (hO b hb).1, ea, oe, if_pos hc.1.1, gC_pos (by omega) (by omega) (by omega) (by omega), if_neg (by omega), if_pos hc.1.2, gC_pos (by omega) (by omega) (by omega) (by omega), if_neg (by omega), zshl_1 (by omega), sp_isLawful ht w.1 w.2.1 pa pb (by omega), Option.bind_some, gC_b, hc.2, if_neg (show ¬ bZ true = 0 by decide), sp_pass1 ht w.1 w.2.1 pa pb (by omega), Option.bind_some, gB_1]
      rfl
    · intro n _ _
      show fB_doesTwo_2 (n + 1) S (dnS T : Int) (upS T : Int) (a : Int) ((2 ^ od a : Nat) : Int) (T.2 6 : Int) = _
      rw [fB_doesTwo_2, ht.1 6 (by omega) (by omega), gC_pos (by omega) (by omega) (by omega) (by omega), if_neg (by omega)]
  have e := loop_ex (F := fun n (_ : Unit) p => fB_doesTwo_1 n S (dnS T : Int) (upS T : Int) p) (fun _ => ()) (T.2 6) 60 (fun a => (firstTo (p2B T od a) (T.2 6)).isSome) (fun a => match firstTo (p2B T od a) (T.2 6) with | some b => some (.inl (1, psS S T (2 ^ od a) (2 ^ od b))) | none => some (.inr ())) (res := some (.inr ())) ?_ ?_ ?_ n (by omega)
  · unfold fB_doesTwo pk2
    rw [show fB_doesTwo_1 n S (dnS T : Int) (upS T : Int) 0 = _ from e]
    cases hf : firstTo (fun a => (firstTo (p2B T od a) (T.2 6)).isSome) (T.2 6) with
    | none => exact gB_0
    | some a =>
      have ha := (findFrom_some hf).2.2.1
      cases hb : firstTo (p2B T od a) (T.2 6) with
      | none =>
        have ha : (firstTo (p2B T od a) (T.2 6)).isSome = true := ha
        rw [hb] at ha
        cases ha
      | some b =>
        simp only [hb]
        rfl
  · intro n a ha hn hc
    show fB_doesTwo_1 (n + 1) S (dnS T : Int) (upS T : Int) (a : Int) = fB_doesTwo_1 n S (dnS T : Int) (upS T : Int) ((a : Int) + 1)
    have oa := (hO a ha).2
    rw [fB_doesTwo_1, ht.1 6 (by omega) (by omega), gC_pos (by omega) (by omega) (by omega) (by omega), if_pos (by omega), gX_pos (by omega) (by omega) (by omega), (hO a ha).1, zshl_1 (by omega), inner a ha n (by omega)]
    cases hb : firstTo (p2B T od a) (T.2 6) with
    | none => rfl
    | some b =>
      have hc : (firstTo (p2B T od a) (T.2 6)).isSome = false := hc
      rw [hb] at hc
      cases hc
  · intro n a ha hn hc _
    show fB_doesTwo_1 (n + 1) S (dnS T : Int) (upS T : Int) (a : Int) = _
    have oa := (hO a ha).2
    rw [fB_doesTwo_1, ht.1 6 (by omega) (by omega), gC_pos (by omega) (by omega) (by omega) (by omega), if_pos (by omega), gX_pos (by omega) (by omega) (by omega), (hO a ha).1, zshl_1 (by omega), inner a ha n (by omega)]
    cases hb : firstTo (p2B T od a) (T.2 6) with
    | none =>
      have hc : (firstTo (p2B T od a) (T.2 6)).isSome = true := hc
      rw [hb] at hc
      cases hc
    | some b => simp only [hb]; rfl
  · intro n _ _
    show fB_doesTwo_1 (n + 1) S (dnS T : Int) (upS T : Int) (T.2 6 : Int) = _
    rw [fB_doesTwo_1, ht.1 6 (by omega) (by omega), gC_pos (by omega) (by omega) (by omega) (by omega), if_neg (by omega)]
end BW
