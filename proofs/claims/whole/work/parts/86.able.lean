/-! ===== companies that are able ===== -/
section AB
variable {S : ZS} {T : TW}
def able (T : TW) (c : Nat) : Bool := (fnd T (pOf T c)).isSome
theorem pOf_lt (T : TW) (c : Nat) : pOf T c < 2 ^ T.2 6 := maskTo_lt _ _
theorem pOf_mono {c c' : Nat} (h : nDf c c' = 0) : nDf (pOf T c) (pOf T c') = 0 := by
  apply Nat.eq_of_testBit_eq
  intro i
  have e : (nDf c c').testBit (T.1 4 i) = false := by rw [h, Nat.zero_testBit]
  rw [nDf_bit] at e
  rw [nDf_bit, Nat.zero_testBit]
  unfold pOf
  rw [maskTo_bit, maskTo_bit]
  cases x : c.testBit (T.1 4 i) <;> cases y : c'.testBit (T.1 4 i) <;> rw [x, y] at e <;> simp_all
theorem fnd_more {mv mv' : Nat} (h : nDf mv mv' = 0) (hs : (fnd T mv).isSome = true) : (fnd T mv').isSome = true := by
  cases hf : fnd T mv with
  | none => rw [hf] at hs; cases hs
  | some k =>
    obtain ⟨-, k1, k2, -⟩ := findFrom_some hf
    have k2 := of_decide_eq_true k2
    have := Lr_more (T := T) h k (T.2 8)
    cases hg : fnd T mv' with
    | some _ => rfl
    | none =>
      have := of_decide_eq_false (findFrom_none hg k (by omega) (by omega))
      omega
theorem able_mono {c c' : Nat} (h : nDf c c' = 0) (hs : able T c = true) : able T c' = true := fnd_more (pOf_mono h) hs
theorem sp_partsOf (ht : tAt S 1 T) (w : wfT T) {c : Nat} (hc : c < 16) {n : Nat} (hn : 20 ≤ n) : fW_partsOf n S (c : Int) = some ((pOf T c : Nat) : Int) := by
  have w6 := w.1.1
  have e := loop_for (F := fun n a p => fW_partsOf_1 n S (c : Int) a p) (fun p => ((maskTo (fun p => c.testBit (T.1 4 p)) p : Nat) : Int)) (T.2 6) 0 (res := some ((pOf T c : Nat) : Int)) ?_ ?_ n (by omega)
  · unfold fW_partsOf
    rw [show fW_partsOf_1 n S (c : Int) 0 0 = _ from e]
    rfl
  · intro n p hp _
    have ho := (w.1.2.2.1 p hp).2.2.2.2.1
    show fW_partsOf_1 (n + 1) S (c : Int) ((maskTo (fun p => c.testBit (T.1 4 p)) p : Nat) : Int) (p : Int) = fW_partsOf_1 n S (c : Int) ((maskTo (fun p => c.testBit (T.1 4 p)) (p + 1) : Nat) : Int) ((p : Int) + 1)
    have e5 : zA S 5 (p : Int) = (T.1 4 p : Int) := ht.2.1 4 p (by omega) (by omega) hp
    rw [fW_partsOf_1, ht.1 6 (by omega) (by omega), gC_pos (by omega) (by omega) (by omega) (by omega), if_pos (by omega), gX_pos (by omega) (by omega) (by omega), e5, zbit_n (by omega) (by omega)]
    by_cases k : c.testBit (T.1 4 p) = true
    · rw [if_pos k, gC_pos (by omega) (by omega) (by omega) (by omega), if_pos rfl, mask_or (by omega)]
      simp only [maskTo, k, if_true]
    · rw [if_neg k, gC_pos (by omega) (by omega) (by omega) (by omega), if_neg (by omega)]
      simp only [maskTo, if_neg k, Nat.add_zero]
  · intro n _
    show fW_partsOf_1 (n + 1) S (c : Int) _ (T.2 6 : Int) = _
    rw [fW_partsOf_1, ht.1 6 (by omega) (by omega), gC_pos (by omega) (by omega) (by omega) (by omega), if_neg (by omega)]
    rfl
theorem sm_partsOf (hm : mAt S T) (w : wfT T) {c : Nat} (hc : c < 16) {n : Nat} (hn : 20 ≤ n) : fM_partsOf n S (c : Int) = some ((pOf T c : Nat) : Int) := by
  have w6 := w.1.1
  have e := loop_for (F := fun n a p => fM_partsOf_1 n S (c : Int) a p) (fun p => ((maskTo (fun p => c.testBit (T.1 4 p)) p : Nat) : Int)) (T.2 6) 0 (res := some ((pOf T c : Nat) : Int)) ?_ ?_ n (by omega)
  · unfold fM_partsOf
    rw [show fM_partsOf_1 n S (c : Int) 0 0 = _ from e]
    rfl
  · intro n p hp _
    have ho := (w.1.2.2.1 p hp).2.2.2.2.1
    show fM_partsOf_1 (n + 1) S (c : Int) ((maskTo (fun p => c.testBit (T.1 4 p)) p : Nat) : Int) (p : Int) = fM_partsOf_1 n S (c : Int) ((maskTo (fun p => c.testBit (T.1 4 p)) (p + 1) : Nat) : Int) ((p : Int) + 1)
    have e5 : zA S 50 (5 * (p : Int) + 3) = (T.1 4 p : Int) := hm.2.1 3 p (by omega) hp
    have hl := maskTo_lt (fun p => c.testBit (T.1 4 p)) p
    have hl2 : 2 ^ p ≤ 256 := pw_le (by omega)
    have z0 : zor ((maskTo (fun p => c.testBit (T.1 4 p)) p : Nat) : Int) 0 = ((maskTo (fun p => c.testBit (T.1 4 p)) p : Nat) : Int) := by
      have := zor_n (a := maskTo (fun p => c.testBit (T.1 4 p)) p) (b := 0) (by omega) (by omega)
      rw [Nat.or_zero] at this
      exact this
    rw [fM_partsOf_1, hm.1.1, gC_pos (by omega) (by omega) (by omega) (by omega), if_pos (by omega), gX_pos (by omega) (by omega) (by omega), e5, sm_has S (by omega) (by omega), Option.bind_some, gC_b]
    by_cases k : c.testBit (T.1 4 p) = true
    · rw [k, if_neg (show ¬ bZ true = 0 by decide), mask_or (by omega)]
      simp only [maskTo, k, if_true]
    · have k' : c.testBit (T.1 4 p) = false := by simpa using k
      rw [k', if_pos (show bZ false = 0 from rfl), z0]
      simp only [maskTo, if_neg k, Nat.add_zero]
  · intro n _
    show fM_partsOf_1 (n + 1) S (c : Int) _ (T.2 6 : Int) = _
    rw [fM_partsOf_1, hm.1.1, gC_pos (by omega) (by omega) (by omega) (by omega), if_neg (by omega)]
    rfl
theorem sp_isAble (S : ZS) (n : Nat) {f : Nat → Bool} {k x : Nat} (hk : k ≤ 16) (hx : x < 16) : fW_isAble n S ((maskTo f k : Nat) : Int) (x : Int) = some (bZ (decide (x < k) && f x)) := by
  have hl := maskTo_lt f k
  have hl2 : 2 ^ k ≤ 2 ^ 16 := Nat.pow_le_pow_right (by omega) hk
  unfold fW_isAble
  rw [zbit_n (by omega) (by omega), maskTo_bit]
  cases decide (x < k) && f x with
  | true => rfl
  | false => rfl
theorem sp_hasAble (S : ZS) {c : Nat} (hc : c < 16) : ∀ (d i n : Nat), i + d = 4 → d < n → ∃ b : Bool, zR (fW_hasAblePart_1 n S ((maskTo (able T) c : Nat) : Int) (c : Int) (i : Int)) (fun _ => gB 0 (some 0)) = some (bZ b) ∧ (b = true → able T c = true) := by
  intro d
  induction d with
  | zero =>
    intro i n hi hn
    obtain ⟨m, rfl⟩ : ∃ m, n = m + 1 := ⟨n - 1, by omega⟩
    refine ⟨false, ?_, fun h => (by cases h)⟩
    rw [fW_hasAblePart_1, gC_pos (by omega) (by omega) (by omega) (by omega), if_neg (by omega)]
    rfl
  | succ d ih =>
    intro i n hi hn
    obtain ⟨m, rfl⟩ : ∃ m, n = m + 1 := ⟨n - 1, by omega⟩
    obtain ⟨b, b1, b2⟩ := ih (i + 1) m (by omega) (by omega)
    have b1 : zR (fW_hasAblePart_1 m S ((maskTo (able T) c : Nat) : Int) (c : Int) ((i : Int) + 1)) (fun _ => gB 0 (some 0)) = some (bZ b) := b1
    have hl := nDf_le c (2 ^ i)
    have h2 : 2 ^ i ≤ 256 := pw_le (by omega)
    rw [fW_hasAblePart_1, gC_pos (by omega) (by omega) (by omega) (by omega), if_pos (by omega), zshl_1 (by omega), zdf_n (by omega) (by omega), gC_pos (by omega) (by omega) (by omega) (by omega)]
    by_cases k : ((nDf c (2 ^ i) : Nat) : Int) = (c : Int)
    · rw [if_pos k]
      exact ⟨b, b1, b2⟩
    · rw [if_neg k, sp_isAble S m (by omega) (by omega), Option.bind_some, gC_b]
      cases hb : decide (nDf c (2 ^ i) < c) && able T (nDf c (2 ^ i)) with
      | false =>
        rw [if_pos (show bZ false = 0 from rfl)]
        exact ⟨b, b1, b2⟩
      | true =>
        rw [if_neg (show ¬ bZ true = 0 by decide)]
        rw [Bool.and_eq_true] at hb
        refine ⟨true, rfl, fun _ => able_mono ?_ hb.2⟩
        apply Nat.eq_of_testBit_eq
        intro j
        rw [nDf_bit, nDf_bit, Nat.zero_testBit]
        cases c.testBit j <;> simp
theorem sp_able (ht : tAt S 1 T) (w : wfT T) (h14 : zF S 24 14 = 0 ∨ (zF S 24 14 = 1 ∧ tabl S T)) (hroom : gRoom S) {n : Nat} (hn : 4000 ≤ n) : ∃ S', fW_ableCompanies n S = some (((maskTo (able T) 16 : Nat) : Int), S') ∧ frW S S' ∧ (zF S' 24 14 = 0 ∨ (zF S' 24 14 = 1 ∧ tabl S' T)) ∧ gRoom S' := by
  have hq := pw_le w.1.1
  have e := loop_inv (F := fun n (a : Int × ZS) p => fW_ableCompanies_1 n a.2 a.1 p) (fun c a => a.1 = ((maskTo (able T) c : Nat) : Int) ∧ frW S a.2 ∧ (zF a.2 24 14 = 0 ∨ (zF a.2 24 14 = 1 ∧ tabl a.2 T)) ∧ gRoom a.2) (fun b => b.1 = ((maskTo (able T) 16 : Nat) : Int) ∧ frW S b.2 ∧ (zF b.2 24 14 = 0 ∨ (zF b.2 24 14 = 1 ∧ tabl b.2 T)) ∧ gRoom b.2) 16 3500 ?_ ?_ n (0, S) (by omega) ⟨rfl, ⟨fun _ _ => rfl, fun _ _ _ => rfl⟩, h14, hroom⟩
  · obtain ⟨⟨b1, b2⟩, e1, e2, e3⟩ := e
    have e1 : fW_ableCompanies_1 n S 0 0 = some (b1, b2) := e1
    have e2 : b1 = _ := e2
    refine ⟨b2, ?_, e3⟩
    unfold fW_ableCompanies
    rw [e1, e2]
    rfl
  · rintro n c ⟨l2, a⟩ hc hn ⟨h1, h2, h3, h4⟩
    have h1 : l2 = ((maskTo (able T) c : Nat) : Int) := h1
    have h2 : frW S a := h2
    have h3 : zF a 24 14 = 0 ∨ (zF a 24 14 = 1 ∧ tabl a T) := h3
    have h4 : gRoom a := h4
    have ta := frW_tAt h2 ht
    obtain ⟨b, b1, b2⟩ := sp_hasAble (T := T) a hc 4 0 n (by omega) (by omega)
    have b1 : fW_hasAblePart n a ((maskTo (able T) c : Nat) : Int) (c : Int) = some (bZ b) := b1
    have yes : able T c = true → maskTo (able T) (c + 1) = maskTo (able T) c + 2 ^ c := by
      intro h
      simp only [maskTo, h, if_true]
    have no : able T c = false → maskTo (able T) (c + 1) = maskTo (able T) c := by
      intro h
      simp only [maskTo, h]
      rfl
    have E : fW_ableCompanies_1 (n + 1) a l2 (c : Int) = if bZ b = 0 then (fW_partsOf n a (c : Int)).bind fun z2 => (fW_seek n a z2).bind fun z3 => gC z3.1 0 (if z3.1 = 0 then fW_ableCompanies_1 n z3.2 l2 ((c : Int) + 1) else fW_ableCompanies_1 n z3.2 (zor l2 (zshl 1 (c : Int))) ((c : Int) + 1)) else fW_ableCompanies_1 n a (zor l2 (zshl 1 (c : Int))) ((c : Int) + 1) := by
      rw [fW_ableCompanies_1, gC_pos (by omega) (by omega) (by omega) (by omega), if_pos (by omega), h1, b1, Option.bind_some, gC_b]
    cases hb : b with
    | true =>
      refine ⟨(((maskTo (able T) (c + 1) : Nat) : Int), a), ⟨rfl, h2, h3, h4⟩, ?_⟩
      show fW_ableCompanies_1 (n + 1) a l2 (c : Int) = fW_ableCompanies_1 n a ((maskTo (able T) (c + 1) : Nat) : Int) ((c : Int) + 1)
      rw [E, hb, if_neg (show ¬ bZ true = 0 by decide), h1, mask_or (by omega), yes (b2 hb)]
    | false =>
      have hp := pOf_lt T c
      obtain ⟨R, g, S1, a1, a2, a3, a4, a5, a6, a7, a8, a9, a10, a11⟩ := sp_seek (mv := pOf T c) ta w h3 (by omega) h4 (n := n) (by omega)
      rw [hb, if_pos (show bZ false = 0 from rfl), sp_partsOf ta w hc (by omega), Option.bind_some, a1, Option.bind_some] at E
      have E : fW_ableCompanies_1 (n + 1) a l2 (c : Int) = gC (bZ g) 0 (if bZ g = 0 then fW_ableCompanies_1 n S1 l2 ((c : Int) + 1) else fW_ableCompanies_1 n S1 (zor l2 (zshl 1 (c : Int))) ((c : Int) + 1)) := E
      rw [gC_b] at E
      refine ⟨(((maskTo (able T) (c + 1) : Nat) : Int), S1), ⟨rfl, frW_trans h2 a9, Or.inr ⟨a8, a7⟩, a5⟩, ?_⟩
      show fW_ableCompanies_1 (n + 1) a l2 (c : Int) = fW_ableCompanies_1 n S1 ((maskTo (able T) (c + 1) : Nat) : Int) ((c : Int) + 1)
      rw [E]
      cases hg : g with
      | true =>
        have y : able T c = true := by
          unfold able
          rw [a10 hg]
          rfl
        rw [if_neg (show ¬ bZ true = 0 by decide), h1, mask_or (by omega), yes y]
      | false =>
        have y : able T c = false := by
          unfold able
          rw [(a11 hg).1]
          rfl
        rw [if_pos (show bZ false = 0 from rfl), h1, no y]
  · rintro n ⟨l2, a⟩ _ ⟨h1, h2, h3, h4⟩
    refine ⟨(l2, a), ?_, h1, h2, h3, h4⟩
    show fW_ableCompanies_1 (n + 1) a l2 16 = _
    rw [fW_ableCompanies_1, gC_pos (by omega) (by omega) (by omega) (by omega), if_neg (by omega)]
end AB
