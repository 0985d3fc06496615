/-! ===== the class's town ===== -/
theorem zlan_n {a b : Nat} (ha : a < 2147483648) (hb : b < 2147483648) : zlan (a : Int) (b : Int) = ((a &&& b : Nat) : Int) := by
  have bv : ∀ c : Nat, c < 2147483648 → (zL (c : Int)).toBitVec.toNat = c := by
    intro c hc
    show (BitVec.ofInt 64 (c : Int)).toNat = c
    rw [BitVec.ofInt_natCast, BitVec.toNat_ofNat]
    omega
  have e : (zL (a : Int) &&& zL (b : Int)).toBitVec.toNat = a &&& b := by
    show ((zL (a : Int)).toBitVec &&& (zL (b : Int)).toBitVec).toNat = _
    rw [BitVec.toNat_and, bv a ha, bv b hb]
  have hl : a &&& b ≤ a := Nat.and_le_left
  show (zL (a : Int) &&& zL (b : Int)).toBitVec.toInt = _
  rw [BitVec.toInt_eq_toNat_of_lt (by omega), e]
theorem zxor_m1 {b : Nat} (hb : b < 2147483648) : zxor (b : Int) (-1) = -(b : Int) - 1 := by
  unfold zxor
  rw [show zI (-1) = -1 from rfl, Int32.xor_neg_one, Int32.toInt_not, zI_to (by omega) (by omega)]
  exact bm32 (by omega) (by omega)
theorem zldf_n {a b : Nat} (ha : a < 2147483648) (hb : b < 2147483648) : zlan (a : Int) (zxor (b : Int) (-1)) = ((nDf a b : Nat) : Int) := by
  have bv : ∀ c : Nat, c < 2147483648 → (zL (c : Int)).toBitVec.toNat = c := by
    intro c hc
    show (BitVec.ofInt 64 (c : Int)).toNat = c
    rw [BitVec.ofInt_natCast, BitVec.toNat_ofNat]
    omega
  have e0 : zL (-(b : Int) - 1) = ~~~ zL (b : Int) := by
    rw [Int64.not_eq_neg_add, ← zL_sub, show zL (-(b : Int)) = - zL (b : Int) from Int64.ofInt_neg _]
    rfl
  have e : (zL (a : Int) &&& ~~~ zL (b : Int)).toBitVec.toNat = nDf a b := by
    show ((zL (a : Int)).toBitVec &&& ~~~ (zL (b : Int)).toBitVec).toNat = _
    apply Nat.eq_of_testBit_eq
    intro i
    rw [nDf_bit, BitVec.toNat_and, Nat.testBit_and, bv a ha]
    by_cases hi : i < 64
    · rw [BitVec.testBit_toNat, BitVec.getLsbD_not, ← BitVec.testBit_toNat, bv b hb]
      simp [hi]
    · have : a.testBit i = false := Nat.testBit_lt_two_pow (Nat.lt_of_lt_of_le ha (Nat.le_trans (by decide : 2147483648 ≤ 2 ^ 32) (Nat.pow_le_pow_right (by omega) (by omega))))
      rw [this]
      rfl
  have hl := nDf_le a b
  rw [zxor_m1 hb]
  unfold zlan
  rw [e0]
  show (zL (a : Int) &&& ~~~ zL (b : Int)).toBitVec.toInt = _
  rw [BitVec.toInt_eq_toNat_of_lt (by omega), e]
theorem gX_lit {α : Type} {p : Nat} {k : Nat} (h : p < k) (hk : k ≤ 1000000) (A : Option α) : gX (p : Int) k A = A := gX_pos (by omega) (by omega) hk
section TS
variable {S : ZS} {t : Nat} {T : TW}
theorem sp_isFirm (h : tAt S t T) (w : wfR T) {s : Nat} (hs : s < 256) {n : Nat} (hn : 20 ≤ n) : fT_isFirm n S t (s : Int) = some (bZ (firmB T s)) := by
  have h1 := w.1
  have e := loop_ex (F := fun n (_ : Unit) p => fT_isFirm_1 n S t (s : Int) p) (fun _ => ()) (T.2 6) 0 (fF T s) (fun _ => some (.inl 0)) (res := some (.inr ())) ?_ ?_ ?_ n (by omega)
  · unfold fT_isFirm
    rw [show fT_isFirm_1 n S t (s : Int) 0 = _ from e]
    unfold firmB
    cases hf : firstTo (fF T s) (T.2 6) with
    | none =>
      rw [firstTo_all.mp hf]
      exact gB_1
    | some k =>
      have : allTo (fun p => !fF T s p) (T.2 6) = false := by
        cases ha : allTo (fun p => !fF T s p) (T.2 6) with
        | false => rfl
        | true => rw [firstTo_all.mpr ha] at hf; cases hf
      rw [this]
      rfl
  · intro n p hp _ hc
    show fT_isFirm_1 (n + 1) S t (s : Int) (p : Int) = fT_isFirm_1 n S t (s : Int) ((p : Int) + 1)
    have hr := (w.2.2.1 p hp).2.2.2.2.2
    have hq := pw_le h1
    rw [fT_isFirm_1, h.1 6 (by omega) (by omega), gC_pos (by omega) (by omega) (by omega) (by omega), if_pos (by omega), zbit_n (by omega) (by omega)]
    by_cases b : s.testBit p = true
    · rw [if_pos b, gC_pos (by omega) (by omega) (by omega) (by omega), if_pos rfl, gX_pos (by omega) (by omega) (by omega), h.2.1 5 p (by omega) (by omega) hp, zdf_n (by omega) (by omega)]
      unfold fF at hc
      rw [b] at hc
      have hz : nDf (T.1 5 p) s = 0 := by simpa using hc
      rw [hz, gC_pos (by omega) (by omega) (by omega) (by omega), if_pos (show ((0 : Nat) : Int) = 0 from rfl)]
    · rw [if_neg b, gC_pos (by omega) (by omega) (by omega) (by omega), if_neg (by omega)]
  · intro n p hp _ hc _
    show fT_isFirm_1 (n + 1) S t (s : Int) (p : Int) = some (.inl 0)
    have hr := (w.2.2.1 p hp).2.2.2.2.2
    have hq := pw_le h1
    unfold fF at hc
    rw [Bool.and_eq_true] at hc
    have hle := nDf_le (T.1 5 p) s
    rw [fT_isFirm_1, h.1 6 (by omega) (by omega), gC_pos (by omega) (by omega) (by omega) (by omega), if_pos (by omega), zbit_n (by omega) (by omega), if_pos hc.1, gC_pos (by omega) (by omega) (by omega) (by omega), if_pos rfl, gX_pos (by omega) (by omega) (by omega), h.2.1 5 p (by omega) (by omega) hp, zdf_n (by omega) (by omega), gC_pos (by omega) (by omega) (by omega) (by omega), if_neg, gB_0]
    intro q
    have hz : nDf (T.1 5 p) s = 0 := by omega
    rw [hz] at hc
    simp at hc
  · intro n _ _
    show fT_isFirm_1 (n + 1) S t (s : Int) (T.2 6 : Int) = _
    rw [fT_isFirm_1, h.1 6 (by omega) (by omega), gC_pos (by omega) (by omega) (by omega) (by omega), if_neg (by omega)]
theorem sp_sheltered (h : tAt S t T) (w : wfR T) {s : Nat} (hs : s < 256) {n : Nat} (hn : 20 ≤ n) : fT_sheltered n S t (s : Int) = some ((shM T s : Nat) : Int) := by
  have h1 := w.2.1
  have hq := pw_le w.1
  have e := loop_for (F := fun n a p => fT_sheltered_1 n S t (s : Int) a p) (fun p => ((maskTo (sF T s) p : Nat) : Int)) (T.2 7) 0 (res := some ((shM T s : Nat) : Int)) ?_ ?_ n (by omega)
  · unfold fT_sheltered
    rw [show fT_sheltered_1 n S t (s : Int) 0 0 = _ from e]
    rfl
  · intro n p hp _
    show fT_sheltered_1 (n + 1) S t (s : Int) ((maskTo (sF T s) p : Nat) : Int) (p : Int) = fT_sheltered_1 n S t (s : Int) ((maskTo (sF T s) (p + 1) : Nat) : Int) ((p : Int) + 1)
    have hr := w.2.2.2 p hp
    have hle : T.1 6 p &&& s ≤ s := Nat.and_le_right
    rw [fT_sheltered_1, h.1 7 (by omega) (by omega), gC_pos (by omega) (by omega) (by omega) (by omega), if_pos (by omega), gX_pos (by omega) (by omega) (by omega), h.2.2 p hp, zand_n (by omega) (by omega), gC_pos (by omega) (by omega) (by omega) (by omega)]
    by_cases b : T.1 6 p &&& s = 0
    · rw [b, if_pos (show ((0 : Nat) : Int) = 0 from rfl)]
      have : sF T s p = false := by unfold sF; rw [b]; rfl
      simp only [maskTo, this]
      rfl
    · rw [if_neg (by omega), mask_or (by omega)]
      have : sF T s p = true := by unfold sF; simp [b]
      simp only [maskTo, this]
      rfl
  · intro n _
    show fT_sheltered_1 (n + 1) S t (s : Int) _ (T.2 7 : Int) = _
    rw [fT_sheltered_1, h.1 7 (by omega) (by omega), gC_pos (by omega) (by omega) (by omega) (by omega), if_neg (by omega)]
    rfl
theorem sp_dry (h : tAt S t T) (w : wfR T) {s : Nat} (hs : s < 256) {n : Nat} (hn : 20 ≤ n) : fT_isEveryoneDry n S t (s : Int) = some (bZ (dryB T s)) := by
  have h1 := w.2.1
  have h2 := maskTo_lt (sF T s) (T.2 7)
  have h3 : 2 ^ T.2 7 ≤ 256 := pw_le (by omega)
  have h4 := pw_pos (T.2 7)
  have h5 := maskTo_full (sF T s) (T.2 7)
  unfold fT_isEveryoneDry
  rw [sp_sheltered h w hs hn, Option.bind_some, h.1 7 (by omega) (by omega), zshl_1 (by omega)]
  unfold shM dryB
  rw [gC_pos (by omega) (by omega) (by omega) (by omega)]
  cases ha : allTo (sF T s) (T.2 7) with
  | true =>
    rw [h5.mpr ha, if_pos (by omega)]
    exact gB_1
  | false =>
    rw [if_neg, gB_0]
    · rfl
    · intro q
      have : maskTo (sF T s) (T.2 7) = 2 ^ T.2 7 - 1 := by omega
      rw [h5.mp this] at ha
      cases ha
theorem gg_bd (w : wfR T) {p : Nat} (hp : p < T.2 6) : -99 ≤ gg T p ∧ gg T p ≤ 99 := by
  have := w.2.2.1 p hp
  unfold gg
  split
  · omega
  · split
    · omega
    · split <;> omega
theorem gc_bd (w : wfR T) {p : Nat} (hp : p < T.2 6) : -99 ≤ gc T p ∧ gc T p ≤ 99 := by
  have := w.2.2.1 p hp
  unfold gc
  split <;> omega
theorem sp_gg (h : tAt S t T) (w : wfR T) {p : Nat} (hp : p < T.2 6) (n : Nat) : fT_givenByGoing n S t (p : Int) = some (gg T p) := by
  have h1 := w.1
  have h2 := w.2.2.1 p hp
  unfold fT_givenByGoing gg
  rw [gX_pos (by omega) (by omega) (by omega), h.2.1 1 p (by omega) (by omega) hp, h.2.1 2 p (by omega) (by omega) hp, gC_pos (by omega) (by omega) (by omega) (by omega)]
  by_cases c1 : T.1 1 p = 1
  · rw [if_pos (by omega), gX_pos (by omega) (by omega) (by omega), if_pos c1]
  · rw [if_neg (by omega), if_neg c1]
    by_cases c2 : T.1 1 p = 2
    · rw [if_pos (by omega), gX_pos (by omega) (by omega) (by omega), if_pos c2]
    · rw [if_neg (by omega), if_neg c2]
      by_cases c3 : T.1 1 p = 3
      · rw [if_pos (by omega), gX_pos (by omega) (by omega) (by omega), gV_pos (by omega) (by omega) (by omega) (by omega), if_pos c3]
        rfl
      · rw [if_neg (by omega), gX_pos (by omega) (by omega) (by omega), if_neg c3]
theorem sp_gc (h : tAt S t T) (w : wfR T) {p : Nat} (hp : p < T.2 6) (n : Nat) : fT_givenByComing n S t (p : Int) = some (gc T p) := by
  have h1 := w.1
  have h2 := w.2.2.1 p hp
  unfold fT_givenByComing gc
  rw [gX_pos (by omega) (by omega) (by omega), h.2.1 1 p (by omega) (by omega) hp, h.2.1 2 p (by omega) (by omega) hp, gC_pos (by omega) (by omega) (by omega) (by omega)]
  by_cases c1 : T.1 1 p = 2
  · rw [if_pos (by omega), gX_pos (by omega) (by omega) (by omega), if_pos c1]
  · rw [if_neg (by omega), gX_pos (by omega) (by omega) (by omega), if_neg c1]
theorem sumTo_bd {f : Nat → Int} {B : Int} : ∀ k : Nat, (∀ i, i < k → -B ≤ f i ∧ f i ≤ B) → -(B * (k : Int)) ≤ sumTo f k ∧ sumTo f k ≤ B * (k : Int) := by
  intro k
  induction k with
  | zero => intro _; simp [sumTo]
  | succ k ih =>
    intro h
    have h1 := ih (fun i hi => h i (by omega))
    have h2 := h k (by omega)
    unfold sumTo
    rw [show ((k + 1 : Nat) : Int) = (k : Int) + 1 from rfl, Int.mul_add, Int.mul_one]
    omega
theorem oF_bd (w : wfR T) (go come : Nat) {p : Nat} (hp : p < T.2 6) : -99 ≤ oF T go come p ∧ oF T go come p ≤ 99 := by
  have h1 := gg_bd w hp
  have h2 := gc_bd w hp
  unfold oF
  split
  · omega
  · split <;> omega
theorem Ov_bd (w : wfR T) (go come : Nat) : -800 ≤ Ov T go come ∧ Ov T go come ≤ 800 := by
  have := sumTo_bd (f := oF T go come) (B := 99) (T.2 6) (fun i hi => oF_bd w go come hi)
  have h1 := w.1
  unfold Ov
  omega
theorem yF_bd (w : wfR T) (s : Nat) {p : Nat} (hp : p < T.2 6) : 0 ≤ yF T s p ∧ yF T s p ≤ 99 := by
  have h2 := w.2.2.1 p hp
  unfold yF
  split <;> omega
theorem Yd_bd (w : wfR T) (s : Nat) : -800 ≤ Yd T s ∧ Yd T s ≤ 800 := by
  have := sumTo_bd (f := yF T s) (B := 99) (T.2 6) (fun i hi => by have := yF_bd w s hi; omega)
  have h1 := w.1
  unfold Yd
  omega
theorem sp_over (h : tAt S t T) (w : wfR T) {go come : Nat} (hg : go < 256) (hc : come < 256) {n : Nat} (hn : 20 ≤ n) : fT_over n S t (go : Int) (come : Int) = some ((T.2 10 : Int) + Ov T go come) := by
  have h1 := w.1
  have e := loop_for (F := fun n a p => fT_over_1 n S t (go : Int) (come : Int) a p) (fun p => (T.2 10 : Int) + sumTo (oF T go come) p) (T.2 6) 0 (res := some ((T.2 10 : Int) + Ov T go come)) ?_ ?_ n (by omega)
  · unfold fT_over
    rw [h.1 10 (by omega) (by omega)]
    have e' : fT_over_1 n S t (go : Int) (come : Int) ((T.2 10 : Int) + sumTo (oF T go come) 0) 0 = _ := e
    rw [show sumTo (oF T go come) 0 = 0 from rfl, Int.add_zero] at e'
    rw [e']
    rfl
  · intro n p hp _
    show fT_over_1 (n + 1) S t (go : Int) (come : Int) _ (p : Int) = fT_over_1 n S t (go : Int) (come : Int) ((T.2 10 : Int) + (sumTo (oF T go come) p + oF T go come p)) ((p : Int) + 1)
    rw [fT_over_1, h.1 6 (by omega) (by omega), gC_pos (by omega) (by omega) (by omega) (by omega), if_pos (by omega), zbit_n (by omega) (by omega), zbit_n (by omega) (by omega), sp_gg h w hp, sp_gc h w hp, Option.bind_some, Option.bind_some, ← Int.add_assoc]
    by_cases b : go.testBit p = true
    · rw [if_pos b, gC_pos (by omega) (by omega) (by omega) (by omega), if_pos rfl]
      simp only [oF, if_pos b]
    · rw [if_neg b, gC_pos (by omega) (by omega) (by omega) (by omega), if_neg (by omega)]
      by_cases d : come.testBit p = true
      · rw [if_pos d, gC_pos (by omega) (by omega) (by omega) (by omega), if_pos rfl]
        simp only [oF, if_neg b, if_pos d]
      · rw [if_neg d, gC_pos (by omega) (by omega) (by omega) (by omega), if_neg (by omega)]
        simp only [oF, if_neg b, if_neg d, Int.add_zero]
  · intro n _
    show fT_over_1 (n + 1) S t (go : Int) (come : Int) _ (T.2 6 : Int) = _
    rw [fT_over_1, h.1 6 (by omega) (by omega), gC_pos (by omega) (by omega) (by omega) (by omega), if_neg (by omega)]
    rfl
/-- a week of the town: what goes stands, what comes doesn't -/
def wkB (T : TW) (from_ : Nat) (x y : Int) : Bool := inSet T x && inSet T y && (nDf x.toNat from_ == 0) && ((y.toNat &&& from_) == 0)
theorem inSet_nat {x : Int} (h : inSet T x = true) : ∃ a : Nat, x = (a : Int) ∧ a < 2 ^ T.2 6 := by
  unfold inSet at h
  have h := of_decide_eq_true h
  exact ⟨x.toNat, by omega, by omega⟩
theorem sp_isWeek (h : tAt S t T) (w : wfR T) (hN : T.2 8 < 2 ^ T.2 6) (n : Nat) {x y : Int} (h1 : -9223372036854775808 ≤ x) (h2 : x < 9223372036854775808) (h3 : -9223372036854775808 ≤ y) (h4 : y < 9223372036854775808) : fT_isWeek n S t x y = some (bZ (wkB T (T.2 8) x y)) := by
  have hq := pw_le w.1
  unfold fT_isWeek wkB
  rw [sp_isSet h w n h1 h2, Option.bind_some, gC_b, sp_isSet h w n h3 h4, Option.bind_some, gC_b]
  cases hx : inSet T x with
  | false => rw [if_pos (show bZ false = 0 from rfl)]; rfl
  | true =>
    rw [if_neg (show ¬ bZ true = 0 by decide)]
    cases hy : inSet T y with
    | false => rw [if_pos (show bZ false = 0 from rfl)]; rfl
    | true =>
      rw [if_neg (show ¬ bZ true = 0 by decide)]
      obtain ⟨a, rfl, ha⟩ := inSet_nat hx
      obtain ⟨b, rfl, hb⟩ := inSet_nat hy
      have hd := nDf_le a (T.2 8)
      have ha2 : b &&& T.2 8 ≤ b := Nat.and_le_left
      rw [h.1 8 (by omega) (by omega), zldf_n (by omega) (by omega), zlan_n (by omega) (by omega), zxor_m1 (by omega), gC_pos (by omega) (by omega) (by omega) (by omega), gL_pos (by omega) (by omega) (by omega) (by omega), gC_cmp, gC_pos (by omega) (by omega) (by omega) (by omega), gL_pos (by omega) (by omega) (by omega) (by omega), gC_cmp]
      simp only [Int.toNat_natCast, Bool.true_and]
      by_cases c : nDf a (T.2 8) = 0
      · rw [c, if_pos (by decide)]
        by_cases d : b &&& T.2 8 = 0
        · rw [d, if_pos (by decide)]
          exact gB_1
        · rw [if_neg (fun q => d (by have := zcmp_eq.mp q; omega))]
          rw [show ((b &&& T.2 8) == 0) = false by simp [d]]
          exact gB_0
      · rw [if_neg (fun q => c (by have := zcmp_eq.mp q; omega))]
        rw [show (nDf a (T.2 8) == 0) = false by simp [c]]
        exact gB_0
/-- lawful, for the class -/
def lawB (T : TW) (go come : Nat) : Bool := decide (0 ≤ (T.2 10 : Int) + Ov T go come) && decide (Yd T (go ||| come) ≤ (T.2 11 : Int)) && firmB T (nDf (T.2 8) go ||| come) && dryB T (nDf (T.2 8) go)
theorem sp_isLawful (h : tAt S t T) (w : wfR T) (hN : wfN T) {go come : Nat} (hg : go < 2 ^ T.2 6) (hc : come < 2 ^ T.2 6) {n : Nat} (hn : 20 ≤ n) : fT_isLawful n S t (go : Int) (come : Int) = some (bZ (lawB T go come)) := by
  have hq := pw_le w.1
  have h8 := hN.1
  have h10 := hN.2.2.1
  have h11 := hN.2.2.2.2
  have hov := Ov_bd w go come
  have hy := Yd_bd w (go ||| come)
  have hor : go ||| come < 2 ^ T.2 6 := Nat.or_lt_two_pow hg hc
  have hdf : nDf (T.2 8) go < 2 ^ T.2 6 := nDf_lt h8
  have hto : nDf (T.2 8) go ||| come < 2 ^ T.2 6 := Nat.or_lt_two_pow hdf hc
  unfold fT_isLawful lawB
  rw [sp_over h w (by omega) (by omega) hn, Option.bind_some, gC_pos (by omega) (by omega) (by omega) (by omega), zor_n (by omega) (by omega), sp_yardsOf h w (by omega) hn, Option.bind_some, h.1 11 (by omega) (by omega), gC_pos (by omega) (by omega) (by omega) (by omega), h.1 8 (by omega) (by omega), zdf_n (by omega) (by omega), zor_n (by omega) (by omega), sp_isFirm h w (by omega) hn, Option.bind_some, gC_b, sp_dry h w (by omega) hn, Option.bind_some, gC_b]
  by_cases c1 : (T.2 10 : Int) + Ov T go come < 0
  · rw [if_pos c1, decide_eq_false (by omega)]
    exact gB_0
  · rw [if_neg c1, decide_eq_true (show 0 ≤ (T.2 10 : Int) + Ov T go come by omega)]
    by_cases c2 : (T.2 11 : Int) < Yd T (go ||| come)
    · rw [if_pos c2, decide_eq_false (by omega)]
      exact gB_0
    · rw [if_neg c2, decide_eq_true (by omega)]
      cases firmB T (nDf (T.2 8) go ||| come) with
      | false => exact gB_0
      | true =>
        cases dryB T (nDf (T.2 8) go) with
        | false => exact gB_0
        | true => exact gB_1
end TS
