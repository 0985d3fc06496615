/-! ===== builders: the other weeks, the reference's, build ===== -/
section BW
variable {S : ZS} {T : TW} {od : Nat → Nat}
theorem sp_oneD (ht : tAt S 1 T) (w : wfT T) (hO : ∀ i : Nat, i < T.2 6 → zA S 44 (i : Int) = (od i : Int) ∧ od i < T.2 6) {n : Nat} (hn : 100 ≤ n) : fB_doesOne n S (dnS T : Int) 1 = match pkD T od with
    | some q => some (1, psS S T q.1 q.2)
    | none => some (0, S) := by
  have w6 := w.1.1
  have hq := pw_le w6
  have hd : dnS T < 2 ^ T.2 6 := nDf_lt w.2.1.1
  have step : ∀ n a : Nat, a < T.2 6 → 30 ≤ n → fB_doesOne_1 (n + 1) S (dnS T : Int) 1 (a : Int) = if pdB T od a = true then some (.inl (1, psS S T (2 ^ od a) 0)) else fB_doesOne_1 n S (dnS T : Int) 1 ((a : Int) + 1) := by
    intro n a ha hn
    have oa := (hO a ha).2
    have pa : 2 ^ od a < 2 ^ T.2 6 := Nat.pow_lt_pow_of_lt (by omega) oa
    have hp1 := pw_pos (od a)
    have e0 : nDf (2 ^ od a) (2 ^ od a) = 0 := by unfold nDf; rw [Nat.and_self, Nat.xor_self]
    rw [fB_doesOne_1, ht.1 6 (by omega) (by omega), gC_pos (by omega) (by omega) (by omega) (by omega), if_pos (by omega), gX_pos (by omega) (by omega) (by omega), (hO a ha).1, gC_pos (x := 1) (y := 0) (by omega) (by omega) (by omega) (by omega), if_neg (by omega), Option.bind_some, zand_2p (by omega) (by omega)]
    unfold pdB
    cases h1 : (dnS T).testBit (od a) with
    | false => rw [if_neg (show ¬ false = true by decide), gC_pos (by omega) (by omega) (by omega) (by omega), if_pos rfl]; rfl
    | true =>
      rw [if_pos rfl, gC_pos (by omega) (by omega) (by omega) (by omega), if_neg (by omega), zshl_1 (by omega), zdf_n (by omega) (by omega), e0, sp_isLawful ht w.1 w.2.1 pa (pw_pos _) (by omega), Option.bind_some, gC_b]
      cases h2 : lawB T (2 ^ od a) 0 with
      | false => rw [if_pos (show bZ false = 0 from rfl)]; rfl
      | true =>
        rw [if_neg (show ¬ bZ true = 0 by decide), sp_pass1 ht w.1 w.2.1 pa (pw_pos _) (by omega), Option.bind_some, gB_1]
        rfl
  have e := loop_ex (F := fun n (_ : Unit) p => fB_doesOne_1 n S (dnS T : Int) 1 p) (fun _ => ()) (T.2 6) 30 (pdB T od) (fun a => some (.inl (1, psS S T (2 ^ od a) 0))) (res := some (.inr ())) ?_ ?_ ?_ n (by omega)
  · unfold fB_doesOne pkD
    rw [show fB_doesOne_1 n S (dnS T : Int) 1 0 = _ from e]
    cases firstTo (pdB T od) (T.2 6) with
    | none => exact gB_0
    | some a => rfl
  · intro n a ha hn hc
    refine (step n a ha hn).trans ?_
    rw [if_neg (by rw [hc]; decide)]
  · intro n a ha hn hc _
    refine (step n a ha hn).trans ?_
    rw [if_pos hc]
  · intro n _ _
    show fB_doesOne_1 (n + 1) S (dnS T : Int) 1 (T.2 6 : Int) = _
    rw [fB_doesOne_1, ht.1 6 (by omega) (by omega), gC_pos (by omega) (by omega) (by omega) (by omega), if_neg (by omega)]
theorem sp_oneU (ht : tAt S 1 T) (w : wfT T) (hO : ∀ i : Nat, i < T.2 6 → zA S 44 (i : Int) = (od i : Int) ∧ od i < T.2 6) {n : Nat} (hn : 100 ≤ n) : fB_doesOne n S (upS T : Int) 0 = match pkU T od with
    | some q => some (1, psS S T q.1 q.2)
    | none => some (0, S) := by
  have w6 := w.1.1
  have hq := pw_le w6
  have hd : upS T < 2 ^ T.2 6 := nDf_lt w.2.1.2.1
  have step : ∀ n a : Nat, a < T.2 6 → 30 ≤ n → fB_doesOne_1 (n + 1) S (upS T : Int) 0 (a : Int) = if puB T od a = true then some (.inl (1, psS S T 0 (2 ^ od a))) else fB_doesOne_1 n S (upS T : Int) 0 ((a : Int) + 1) := by
    intro n a ha hn
    have oa := (hO a ha).2
    have pa : 2 ^ od a < 2 ^ T.2 6 := Nat.pow_lt_pow_of_lt (by omega) oa
    have hp1 := pw_pos (od a)
    have e0 : nDf (2 ^ od a) 0 = 2 ^ od a := by unfold nDf; rw [Nat.and_zero, Nat.xor_zero]
    have ez := zdf_n (a := 2 ^ od a) (b := 0) (by omega) (by omega)
    rw [e0] at ez
    have ez : zand ((2 ^ od a : Nat) : Int) (zxor 0 (-1)) = ((2 ^ od a : Nat) : Int) := ez
    have el := sp_isLawful (n := n) ht w.1 w.2.1 (go := 0) (come := 2 ^ od a) (pw_pos _) pa (by omega)
    have ep := sp_pass1 (n := n) ht w.1 w.2.1 (a := 0) (b := 2 ^ od a) (pw_pos _) pa (by omega)
    have el : fT_isLawful n S 1 0 ((2 ^ od a : Nat) : Int) = _ := el
    have ep : fT_pass_1 n S 0 ((2 ^ od a : Nat) : Int) = _ := ep
    rw [fB_doesOne_1, ht.1 6 (by omega) (by omega), gC_pos (by omega) (by omega) (by omega) (by omega), if_pos (by omega), gX_pos (by omega) (by omega) (by omega), (hO a ha).1, gC_pos (x := 0) (y := 0) (by omega) (by omega) (by omega) (by omega), if_pos rfl, Option.bind_some, zand_2p (by omega) (by omega)]
    unfold puB
    cases h1 : (upS T).testBit (od a) with
    | false => rw [if_neg (show ¬ false = true by decide), gC_pos (by omega) (by omega) (by omega) (by omega), if_pos rfl]; rfl
    | true =>
      rw [if_pos rfl, gC_pos (by omega) (by omega) (by omega) (by omega), if_neg (by omega), zshl_1 (by omega), ez, el, Option.bind_some, gC_b]
      cases h2 : lawB T 0 (2 ^ od a) with
      | false => rw [if_pos (show bZ false = 0 from rfl)]; rfl
      | true =>
        rw [if_neg (show ¬ bZ true = 0 by decide), ep, Option.bind_some, gB_1]
        rfl
  have e := loop_ex (F := fun n (_ : Unit) p => fB_doesOne_1 n S (upS T : Int) 0 p) (fun _ => ()) (T.2 6) 30 (puB T od) (fun a => some (.inl (1, psS S T 0 (2 ^ od a)))) (res := some (.inr ())) ?_ ?_ ?_ n (by omega)
  · unfold fB_doesOne pkU
    rw [show fB_doesOne_1 n S (upS T : Int) 0 0 = _ from e]
    cases firstTo (puB T od) (T.2 6) with
    | none => exact gB_0
    | some a => rfl
  · intro n a ha hn hc
    refine (step n a ha hn).trans ?_
    rw [if_neg (by rw [hc]; decide)]
  · intro n a ha hn hc _
    refine (step n a ha hn).trans ?_
    rw [if_pos hc]
  · intro n _ _
    show fB_doesOne_1 (n + 1) S (upS T : Int) 0 (T.2 6 : Int) = _
    rw [fB_doesOne_1, ht.1 6 (by omega) (by omega), gC_pos (by omega) (by omega) (by omega) (by omega), if_neg (by omega)]
def pkA (T : TW) (od : Nat → Nat) : Option (Nat × Nat) := match pk2 T od with
  | some q => some q
  | none => match pkD T od with
    | some q => some q
    | none => pkU T od
theorem sp_goOn (ht : tAt S 1 T) (w : wfT T) (hO : ∀ i : Nat, i < T.2 6 → zA S 44 (i : Int) = (od i : Int) ∧ od i < T.2 6) {n : Nat} (hn : 100 ≤ n) : fB_goOn n S = match pkA T od with
    | some q => some (1, psS S T q.1 q.2)
    | none => some (0, S) := by
  have hq := pw_le w.1.1
  have h8 := w.2.1.1
  have h9 := w.2.1.2.1
  have e2 := sp_two ht w hO hn
  have eD := sp_oneD ht w hO hn
  have eU := sp_oneU ht w hO hn
  unfold fB_goOn pkA
  rw [ht.1 8 (by omega) (by omega), ht.1 9 (by omega) (by omega), zdf_n (by omega) (by omega), zdf_n (by omega) (by omega)]
  show (fB_doesTwo n S (dnS T : Int) (upS T : Int)).bind _ = _
  rw [e2]
  cases pk2 T od with
  | some q =>
    show gC 1 0 (if (1 : Int) = 0 then _ else gB 1 _) = _
    rw [gC_pos (by omega) (by omega) (by omega) (by omega), if_neg (by omega), gB_1]
  | none =>
    show gC 0 0 (if (0 : Int) = 0 then (fB_doesOne n S (dnS T : Int) 1).bind _ else _) = _
    rw [gC_pos (by omega) (by omega) (by omega) (by omega), if_pos rfl, eD]
    cases pkD T od with
    | some q =>
      show gC 1 0 (if (1 : Int) = 0 then _ else gB 1 _) = _
      rw [gC_pos (by omega) (by omega) (by omega) (by omega), if_neg (by omega), gB_1]
    | none =>
      show gC 0 0 (if (0 : Int) = 0 then (fB_doesOne n S (upS T : Int) 0).bind _ else _) = _
      rw [gC_pos (by omega) (by omega) (by omega) (by omega), if_pos rfl, eU]
      cases pkU T od with
      | some q =>
        show gC 1 0 (if (1 : Int) = 0 then _ else gB 1 _) = _
        rw [gC_pos (by omega) (by omega) (by omega) (by omega), if_neg (by omega), gB_1]
      | none =>
        show gC 0 0 (if (0 : Int) = 0 then gB 0 _ else _) = _
        rw [gC_pos (by omega) (by omega) (by omega) (by omega), if_pos rfl, gB_0]
/-! the reference -/
theorem goZ {x s t : Nat} (hx : x < 8) (hs : s < 256) (ht : t < 256) : zand (zand (zshl 1 (x : Int)) (s : Int)) (zxor (t : Int) (-1)) = if (nDf s t).testBit x = true then ((2 ^ x : Nat) : Int) else 0 := by
  have hp : 2 ^ x ≤ 256 := pw_le (by omega)
  have hl : 2 ^ x &&& s ≤ s := Nat.and_le_right
  rw [zshl_1 (by omega), zand_n (by omega) (by omega), zdf_n (by omega) (by omega), Nat.and_comm, and_2p, nDf_bit]
  cases h1 : s.testBit x with
  | false =>
    rw [if_neg (by decide), if_neg (by simp), show nDf 0 t = 0 by unfold nDf; simp]
    rfl
  | true =>
    rw [if_pos rfl]
    cases h2 : t.testBit x with
    | true =>
      rw [if_neg (by decide)]
      have : nDf (2 ^ x) t = 0 := by
        apply Nat.eq_of_testBit_eq
        intro i
        rw [nDf_bit, Nat.testBit_two_pow, Nat.zero_testBit]
        by_cases e : x = i
        · subst e; simp [h2]
        · simp [e]
      rw [this]
      rfl
    | false =>
      rw [if_pos (by decide)]
      have : nDf (2 ^ x) t = 2 ^ x := by
        apply Nat.eq_of_testBit_eq
        intro i
        rw [nDf_bit, Nat.testBit_two_pow]
        by_cases e : x = i
        · subst e; simp [h2]
        · simp [e]
      rw [this]
theorem sm_doWeek (hm : mAt S T) (w : wfT T) {g c : Nat} (hg : g < 2 ^ T.2 6) (hc : c < 2 ^ T.2 6) {n : Nat} (hn : 20 ≤ n) : fM_doWeek n S (g : Int) (c : Int) = some (dwS S T g c) := by
  have hq := pw_le w.1.1
  have h8 := w.2.1.1
  have h10 := w.2.1.2.2.1
  have hmo := Mo_bd w.1 g c
  have hd : nDf (T.2 8) g < 2 ^ T.2 6 := nDf_lt h8
  unfold fM_doWeek dwS
  rw [sm_moreBy hm w.1 (by omega) (by omega) hn, Option.bind_some, hm.1.2.2.2.2.1, sm_most S n (by omega) (by omega), Option.bind_some, hm.1.2.2.1, zdf_n (by omega) (by omega), zor_n (by omega) (by omega)]
theorem sm_law (hm : mAt S T) (w : wfT T) {g c : Nat} (hg : g < 2 ^ T.2 6) (hc : c < 2 ^ T.2 6) (h1 : nDf g (T.2 8) = 0) (h2 : c &&& T.2 8 = 0) {n : Nat} (hn : 20 ≤ n) : fM_isLawful n S (zF S 49 2) (zF S 49 4) (g : Int) (c : Int) = some (bZ (lawB T g c)) := by
  have h10 := w.2.1.2.2.1
  rw [hm.1.2.2.1, hm.1.2.2.2.2.1, sm_isLawful hm w.1 w.2.1.2.2.2.2 (by omega) (by omega) w.2.1.1 hg hc hn, law_eq h1 h2]
theorem sm_two (hm : mAt S T) (w : wfT T) (hO : ∀ i : Nat, i < T.2 6 → zA S 66 (i : Int) = (od i : Int) ∧ od i < T.2 6) {n : Nat} (hn : 100 ≤ n) : fM_buildBy n S 1 1 = match pk2 T od with
    | some q => some (1, dwS S T q.1 q.2)
    | none => some (0, S) := by
  have w6 := w.1.1
  have hq := pw_le w6
  have h8 := w.2.1.1
  have h9 := w.2.1.2.1
  have pw : ∀ i, i < T.2 6 → 2 ^ od i < 2 ^ T.2 6 := fun i hi => Nat.pow_lt_pow_of_lt (by omega) (hO i hi).2
  have inner : ∀ a, a < T.2 6 → ∀ n, 60 ≤ n → fM_buildBy_2 n S 1 1 (a : Int) (if (dnS T).testBit (od a) = true then ((2 ^ od a : Nat) : Int) else 0) 0 = match firstTo (p2B T od a) (T.2 6) with
      | some b => some (.inl (1, dwS S T (2 ^ od a) (2 ^ od b)))
      | none => some (.inr ()) := by
    intro a ha n hn
    have oa := (hO a ha).2
    have pa := pw a ha
    have hp1 := pw_pos (od a)
    have step : ∀ n b : Nat, b < T.2 6 → 30 ≤ n → fM_buildBy_2 (n + 1) S 1 1 (a : Int) (if (dnS T).testBit (od a) = true then ((2 ^ od a : Nat) : Int) else 0) (b : Int) = if p2B T od a b = true then some (.inl (1, dwS S T (2 ^ od a) (2 ^ od b))) else fM_buildBy_2 n S 1 1 (a : Int) (if (dnS T).testBit (od a) = true then ((2 ^ od a : Nat) : Int) else 0) ((b : Int) + 1) := by
      intro n b hb hn
      have ob := (hO b hb).2
      have pb := pw b hb
      have hp2 := pw_pos (od b)
      rw [fM_buildBy_2, gC_pos (x := 1) (y := 0) (by omega) (by omega) (by omega) (by omega), if_neg (by omega), Option.bind_some, hm.1.1, gC_pos (by omega) (by omega) (by omega) (by omega), if_pos (by omega), gC_pos (x := 1) (y := 0) (by omega) (by omega) (by omega) (by omega), if_neg (by omega), gX_pos (by omega) (by omega) (by omega), (hO b hb).1, hm.1.2.2.2.1, hm.1.2.2.1, goZ (by omega) (by omega) (by omega), Option.bind_some, show nDf (T.2 9) (T.2 8) = upS T from rfl]
      unfold p2B
      cases h1 : (dnS T).testBit (od a) with
      | false =>
        rw [if_neg (show ¬ false = true by decide), gC_pos (x := 0) (y := 0) (by omega) (by omega) (by omega) (by omega), if_pos rfl, Option.bind_some, gC_pos (by omega) (by omega) (by omega) (by omega), if_neg (by omega)]
        rfl
      | true =>
        rw [if_pos rfl, gC_pos (by omega) (by omega) (by omega) (by omega), if_neg (by omega), Option.bind_some, gC_pos (by omega) (by omega) (by omega) (by omega), if_pos rfl]
        cases h2 : (upS T).testBit (od b) with
        | false =>
          rw [if_neg (show ¬ false = true by decide), gC_pos (x := 0) (y := 0) (by omega) (by omega) (by omega) (by omega), if_pos rfl, Option.bind_some, gC_pos (by omega) (by omega) (by omega) (by omega), if_neg (by omega)]
          rfl
        | true =>
          obtain ⟨k1, -, -, -⟩ := nDf_2p h1
          obtain ⟨-, k2, -, -⟩ := nDf_2p h2
          have el := sm_law (n := n) hm w pa pb k1 k2 (by omega)
          rw [hm.1.2.2.1] at el
          rw [if_pos rfl, gC_pos (by omega) (by omega) (by omega) (by omega), if_neg (by omega), Option.bind_some, gC_pos (by omega) (by omega) (by omega) (by omega), if_pos rfl, el, Option.bind_some, gC_b]
          cases h3 : lawB T (2 ^ od a) (2 ^ od b) with
          | false => rw [if_pos (show bZ false = 0 from rfl)]; rfl
          | true =>
            rw [if_neg (show ¬ bZ true = 0 by decide), sm_doWeek hm w pa pb (by omega), Option.bind_some, gB_1]
            rfl
    refine loop_ex (F := fun n (_ : Unit) p => fM_buildBy_2 n S 1 1 (a : Int) (if (dnS T).testBit (od a) = true then ((2 ^ od a : Nat) : Int) else 0) p) (fun _ => ()) (T.2 6) 30 (p2B T od a) (fun b => some (.inl (1, dwS S T (2 ^ od a) (2 ^ od b)))) (res := some (.inr ())) ?_ ?_ ?_ n (by omega)
    · intro n b hb hn hc
      refine (step n b hb hn).trans ?_
      rw [if_neg (by rw [hc]; decide)]
    · intro n b hb hn hc _
      refine (step n b hb hn).trans ?_
      rw [if_pos hc]
    · intro n _ _
      show fM_buildBy_2 (n + 1) S 1 1 (a : Int) _ (T.2 6 : Int) = _
      rw [fM_buildBy_2, gC_pos (x := 1) (y := 0) (by omega) (by omega) (by omega) (by omega), if_neg (by omega), Option.bind_some, hm.1.1, gC_pos (by omega) (by omega) (by omega) (by omega), if_neg (by omega)]
  have outer : ∀ n a : Nat, a < T.2 6 → 60 ≤ n → fM_buildBy_1 (n + 1) S 1 1 (a : Int) = match firstTo (p2B T od a) (T.2 6) with
      | some b => some (.inl (1, dwS S T (2 ^ od a) (2 ^ od b)))
      | none => fM_buildBy_1 n S 1 1 ((a : Int) + 1) := by
    intro n a ha hn
    have oa := (hO a ha).2
    rw [fM_buildBy_1, gC_pos (x := 1) (y := 0) (by omega) (by omega) (by omega) (by omega), if_neg (by omega), Option.bind_some, hm.1.1, gC_pos (by omega) (by omega) (by omega) (by omega), if_pos (by omega), gC_pos (x := 1) (y := 0) (by omega) (by omega) (by omega) (by omega), if_neg (by omega), gX_pos (by omega) (by omega) (by omega), (hO a ha).1, hm.1.2.2.2.1, hm.1.2.2.1, goZ (by omega) (by omega) (by omega), Option.bind_some]
    show zRR (fM_buildBy_2 n S 1 1 (a : Int) (if (dnS T).testBit (od a) = true then ((2 ^ od a : Nat) : Int) else 0) 0) _ = _
    rw [inner a ha n (by omega)]
    cases firstTo (p2B T od a) (T.2 6) <;> rfl
  have e := loop_ex (F := fun n (_ : Unit) p => fM_buildBy_1 n S 1 1 p) (fun _ => ()) (T.2 6) 60 (fun a => (firstTo (p2B T od a) (T.2 6)).isSome) (fun a => match firstTo (p2B T od a) (T.2 6) with | some b => some (.inl (1, dwS S T (2 ^ od a) (2 ^ od b))) | none => some (.inr ())) (res := some (.inr ())) ?_ ?_ ?_ n (by omega)
  · unfold fM_buildBy pk2
    rw [show fM_buildBy_1 n S 1 1 0 = _ from e]
    cases hf : firstTo (fun a => (firstTo (p2B T od a) (T.2 6)).isSome) (T.2 6) with
    | none => exact gB_0
    | some a =>
      have ha := (findFrom_some hf).2.2.1
      cases hb : firstTo (p2B T od a) (T.2 6) with
      | none =>
        have ha : (firstTo (p2B T od a) (T.2 6)).isSome = true := ha
        rw [hb] at ha
        cases ha
      | some b =>
        simp only [hb]
        rfl
  · intro n a ha hn hc
    refine (outer n a ha hn).trans ?_
    cases hb : firstTo (p2B T od a) (T.2 6) with
    | none => rfl
    | some b =>
      have hc : (firstTo (p2B T od a) (T.2 6)).isSome = false := hc
      rw [hb] at hc
      cases hc
  · intro n a ha hn hc _
    refine (outer n a ha hn).trans ?_
    cases hb : firstTo (p2B T od a) (T.2 6) with
    | none =>
      have hc : (firstTo (p2B T od a) (T.2 6)).isSome = true := hc
      rw [hb] at hc
      cases hc
    | some b => simp only [hb]
  · intro n _ _
    show fM_buildBy_1 (n + 1) S 1 1 (T.2 6 : Int) = _
    rw [fM_buildBy_1, gC_pos (x := 1) (y := 0) (by omega) (by omega) (by omega) (by omega), if_neg (by omega), Option.bind_some, hm.1.1, gC_pos (by omega) (by omega) (by omega) (by omega), if_neg (by omega)]
end BW
