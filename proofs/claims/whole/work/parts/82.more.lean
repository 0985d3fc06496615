/-! ===== pair: more ===== -/
theorem nDf_full {u k : Nat} (h : u < 2 ^ k) : nDf u (2 ^ k - 1) = 0 := by
  apply Nat.eq_of_testBit_eq
  intro i
  rw [nDf_bit, Nat.zero_testBit, Nat.testBit_two_pow_sub_one]
  by_cases c : i < k
  · simp [c]
  · have : u.testBit i = false := Nat.testBit_lt_two_pow (Nat.lt_of_lt_of_le h (Nat.pow_le_pow_right (by omega) (by omega)))
    rw [this]
    rfl
section MO
variable {S : ZS} {T : TW}
theorem Lr_ge {mv mv' : Nat} (hmv : ∀ u, u < 2 ^ T.2 6 → nDf u mv' = 0) : ∀ (r s : Nat), s < 2 ^ T.2 6 → Lr T mv' r s ≤ Lr T mv r s := by
  intro r
  induction r with
  | zero => intro s _; exact Int.le_refl _
  | succ r ih =>
    intro s hs
    by_cases c : Lr T mv (r + 1) s < Lr T mv r s
    · obtain ⟨to, h1, h2, h3, h4⟩ := Lr_at c
      obtain ⟨k1, k2, k3, k4, k5⟩ := okB_split h2
      have h5 := ih to h1
      have := Lr_step (mv := mv') (r := r) (s := s) h1 (okB_mk k1 k2 k3 k4 (hmv _ (Nat.xor_lt_two_pow hs h1))) (by omega)
      omega
    · have hm := Lr_mono (T := T) (mv := mv) r s
      have hm' := Lr_mono (T := T) (mv := mv') r s
      have := ih s hs
      omega
theorem Lr_all (w6 : T.2 6 ≤ 8) (r : Nat) {s : Nat} (hs : s < 2 ^ T.2 6) : Lr T 255 r s = Lr T (allP T) r s := by
  have hq := pw_le w6
  apply Int.le_antisymm
  · exact Lr_ge (fun u hu => nDf_full (k := 8) (by omega)) r s hs
  · exact Lr_ge (fun u hu => nDf_full (k := T.2 6) hu) r s hs
/-- Ways, then the reference's search: what holds, holds again -/
theorem good_ways {S1 : ZS} {T : TW} (hG : Good S) (ht : tAt S 1 T) (hm : mAt S T) (w : wfT T) (h1 : gWay S1 T) (h2 : gRoom S1) (h3 : ∀ h : Nat, (h < 25 ∨ 32 < h) → S1.1 h = S.1 h) (h4 : ∀ h j : Nat, h ≠ 24 → S1.2.1 h j = S.2.1 h j) : Good S1 ∧ tAt S1 1 T ∧ mAt S1 T := by
  obtain ⟨T0, -, g1, g2, g3, -, -⟩ := hG
  have f : fr 25 32 24 S (S1.1, S1.2.1, S.2.2) := ⟨h3, h4, rfl⟩
  have t1 : tAt S1 1 T := fr_tAt f ht (by omega) (by omega)
  have m1 : mAt S1 T := fr_mAt f hm (by omega) (by omega)
  have a1' : gTape (S1.1, S1.2.1, S.2.2) := fr_gTape f g1 (by omega) (by omega) (by omega)
  have a1 : gTape S1 := a1'
  have a2' : gImg (S1.1, S1.2.1, S.2.2) := fr_gImg f g2 (by omega) (by omega) (by omega) (by omega)
  have a2 : gImg S1 := a2'
  have a3' : gSh (S1.1, S1.2.1, S.2.2) := fr_gSh f g3 (by omega)
  have a3 : gSh S1 := a3'
  exact ⟨⟨T, ⟨t1, m1, w⟩, a1, a2, a3, h1, h2⟩, t1, m1⟩
theorem good_ms {S1 : ZS} (hG : Good S) (f : frR 54 60 S S1) : Good S1 := by
  obtain ⟨T, ⟨h1, h2, h3⟩, h4, h5, h6, h7, h8⟩ := hG
  have f1 := frR_fr f 1000
  exact ⟨T, ⟨fr_tAt f1 h1 (by omega) (by omega), fr_mAt f1 h2 (by omega) (by omega), h3⟩, fr_gTape f1 h4 (by omega) (by omega) (by omega), fr_gImg f1 h5 (by omega) (by omega) (by omega) (by omega), fr_gSh f1 h6 (by omega), fr_gWay f1 h7 (by omega) (by omega), fr_gRoom f1 h8⟩
theorem q_more (hG : Good S) : ∃ n v S1 S2, fD_more n S = some (v, S1) ∧ fM_more n S1 = some (v, S2) ∧ Good S2 := by
  obtain ⟨T, ⟨ht, hm, w⟩, -, -, -, hw, hroom⟩ := id hG
  have hq := pw_le w.1.1
  have w6 := w.1.1
  have h8 := w.2.1.1
  have h10 := w.2.1.2.2.1
  refine ⟨5000, ?_⟩
  obtain ⟨S1, a1, a2, a3, a4, a5, a6⟩ := sp_wanted ht w hw hroom (n := 5000) (by omega)
  obtain ⟨G1, t1, m1⟩ := good_ways hG ht hm w a2 a4 a5 a6
  obtain ⟨v, S2, b1, b2, b3, b4⟩ := sm_needs (mv := 255) (has := -1) m1 w (by omega) (by omega) (by omega) (n := 5000) (by omega)
  have b1 : fM_findNeeds 5000 S1 255 (-1) = some (v, S2) := b1
  have f2 : frR 54 60 S1 S2 := ⟨fun h hh => b2.1 h (by omega), b2.2⟩
  have m2 := frR_mAt b2 m1 (by omega)
  rcases b4 with ⟨t, -, -, -, z, -⟩ | ⟨hv, tE, c1, c2, c3, c4⟩
  · have := Ex_bd (T := T) (mv := 255) t (T.2 8)
    omega
  have L1 := Le_Lr (T := T) (mv := 255) (t := tE) w.2.2
  have L2 := Ex_none c1 c4 h8
  have L3 := Lr_all w6 255 h8
  have lb := Lr_bd (T := T) (mv := allP T) 255 (T.2 8)
  have eb : 0 ≤ Le T 255 tE (T.2 8) ∧ Le T 255 tE (T.2 8) ≤ 1000000 := by
    obtain ⟨i, -, e⟩ := Le_at (T := T) (mv := 255) tE (T.2 8)
    have := Ex_bd (T := T) (mv := 255) i (T.2 8)
    omega
  have EM : fM_more 5000 S1 = some (if 999 < Le T 255 tE (T.2 8) then -4 else if (T.2 10 : Int) < Le T 255 tE (T.2 8) then Le T 255 tE (T.2 8) - (T.2 10 : Int) else 0, S2) := by
    unfold fM_more
    rw [b1, Option.bind_some]
    show gX (zF S2 49 2) 256 (gC v 0 (if v < 0 then _ else _)) = _
    rw [m2.1.2.2.1, gX_pos (by omega) (by omega) (by omega), hv, gC_pos (x := -4) (by omega) (by omega) (by omega) (by omega), if_pos (by omega), c3 _ h8, m2.1.2.2.2.2.1, gC_pos (x := Le T 255 tE (T.2 8)) (by omega) (by omega) (by omega) (by omega)]
    by_cases k : 999 < Le T 255 tE (T.2 8)
    · rw [if_pos k, if_pos k]
    · rw [if_neg k, if_neg k, gC_pos (x := Le T 255 tE (T.2 8)) (by omega) (by omega) (by omega) (by omega)]
      by_cases k2 : (T.2 10 : Int) < Le T 255 tE (T.2 8)
      · rw [if_pos k2, if_pos k2]
      · rw [if_neg k2, if_neg k2]
  unfold fD_more
  rw [a1, Option.bind_some]
  unfold sought at a3
  cases hf : fnd T (allP T) with
  | some k =>
    rw [hf] at a3
    obtain ⟨s1, s2, s3⟩ := a3
    have hk := findFrom_some hf
    have hk2 := of_decide_eq_true hk.2.2.1
    have hk3 := Lr_le (T := T) (mv := allP T) (r := k) (r' := 255) (by have := hk.2.1; omega) (T.2 8)
    refine ⟨0, S1, S2, ?_, ?_, good_ms G1 f2⟩
    · rw [s1, gC_pos (by omega) (by omega) (by omega) (by omega), if_neg (by omega)]
    · rw [EM, if_neg (by omega), if_neg (by omega)]
  | none =>
    rw [hf] at a3
    obtain ⟨s1, s2, s3⟩ := a3
    have hn : ¬ Lr T (allP T) 255 (T.2 8) ≤ (T.2 10 : Int) := of_decide_eq_false (findFrom_none hf 255 (by omega) (by omega))
    rw [s1, gC_pos (x := 0) (y := 0) (by omega) (by omega) (by omega) (by omega), if_pos rfl, s3, gC_pos (by omega) (by omega) (by omega) (by omega)]
    by_cases k : 999 < Lr T (allP T) 255 (T.2 8)
    · refine ⟨-4, S1, S2, ?_, ?_, good_ms G1 f2⟩
      · rw [if_pos k]
      · rw [EM, if_pos (by omega)]
    · refine ⟨Lr T (allP T) 255 (T.2 8) - (T.2 10 : Int), S1, S2, ?_, ?_, good_ms G1 f2⟩
      · rw [if_neg k, t1.1 10 (by omega) (by omega)]
      · rw [EM, if_neg (by omega), if_pos (by omega), show Le T 255 tE (T.2 8) = Lr T (allP T) 255 (T.2 8) by omega]
theorem p_more : P_more Inv := mkPair (fun n S => fD_more n S) (fun n S => fM_more n S) (fun o n S w h => sD_more o n S h) (fun o n S w h => sM_more o n S h) (fun S hG => q_more hG)
end MO
