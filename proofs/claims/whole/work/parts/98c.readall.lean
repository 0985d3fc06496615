/-! ===== reading: a whole town ===== -/
section RDf
variable {b : Int → Int} {N : Nat}
def wfD (T : TW) : Prop := wfR T ∧ T.2 8 < 2 ^ T.2 6 ∧ firmB T (T.2 8) = true ∧ T.2 7 = 0
theorem nDf_mono {a s t : Nat} (h : nDf a s = 0) : nDf a (s ||| t) = 0 := by
  apply Nat.eq_of_testBit_eq
  intro i
  have := congrArg (fun z => Nat.testBit z i) h
  simp only [nDf_bit, Nat.zero_testBit] at this
  rw [nDf_bit, Nat.zero_testBit, Nat.testBit_or]
  revert this
  cases a.testBit i <;> cases s.testBit i <;> cases t.testBit i <;> simp
theorem wfD_add {T : TW} (w : wfD T) (h6 : T.2 6 < 8) {k y pl ow rs st : Nat} (hk : k ≤ 3) (hy : 1 ≤ y) (hy2 : y ≤ 99) (hp : pl ≤ 99) (ho : ow ≤ 3) (hr : rs < 2 ^ T.2 6) (hs : st = T.2 8 ∨ (st = T.2 8 ||| 2 ^ T.2 6 ∧ nDf rs (T.2 8) = 0)) : wfD (tP (tN T 8 st) k y pl ow rs) := by
  obtain ⟨w1, w2, w3, w4⟩ := w
  have p2 : 2 ^ T.2 6 ≤ 2 ^ (T.2 6 + 1) := Nat.pow_le_pow_right (by omega) (by omega)
  have e6 : (tP (tN T 8 st) k y pl ow rs).2 6 = T.2 6 + 1 := rfl
  have e8 : (tP (tN T 8 st) k y pl ow rs).2 8 = st := rfl
  have new : ∀ p i, p = T.2 6 → i ≤ 5 → (tP (tN T 8 st) k y pl ow rs).1 i p = (if i = 1 then k else if i = 2 then y else if i = 3 then pl else if i = 4 then ow else rs) := fun p i e hi => if_pos ⟨e, hi⟩
  have old : ∀ p i, p ≠ T.2 6 → (tP (tN T 8 st) k y pl ow rs).1 i p = T.1 i p := fun p i e => if_neg (fun q => e q.1)
  refine ⟨⟨?_, ?_, fun p hp => ?_, fun p hp => ?_⟩, ?_, ?_, w4⟩
  · rw [e6]; omega
  · show T.2 7 ≤ 4
    omega
  · rw [e6] at hp ⊢
    by_cases e : p = T.2 6
    · rw [new p 1 e (by omega), new p 2 e (by omega), new p 3 e (by omega), new p 4 e (by omega), new p 5 e (by omega)]
      simp only [if_true]
      exact ⟨by omega, by simp; omega, by simp; omega, by simp; omega, by simp; omega, by simp; omega⟩
    · rw [old p 1 e, old p 2 e, old p 3 e, old p 4 e, old p 5 e]
      have := w1.2.2.1 p (by omega)
      omega
  · have hp : p < T.2 7 := hp
    omega
  · rw [e6, e8]
    rcases hs with rfl | ⟨rfl, -⟩
    · omega
    · exact bit_lt (by omega) (by omega)
  · rw [e8]
    rcases hs with rfl | ⟨rfl, hs2⟩
    · exact tP_firm (T := tN T 8 (T.2 8)) w2 ((tN_firm (by omega) _).trans w3)
    · unfold firmB at w3 ⊢
      rw [allTo_iff] at w3 ⊢
      intro p hp
      rw [e6] at hp
      unfold fF
      by_cases e : p = T.2 6
      · rw [new p 5 e (by omega)]
        show (!((T.2 8 ||| 2 ^ T.2 6).testBit p && !(nDf rs (T.2 8 ||| 2 ^ T.2 6) == 0))) = true
        rw [nDf_mono hs2]
        simp
      · have := w3 p (by omega)
        unfold fF at this
        rw [old p 5 e, Nat.testBit_or, Nat.testBit_two_pow_of_ne (fun z => e z.symm), Bool.or_false]
        cases hb : (T.2 8).testBit p with
        | false => rfl
        | true =>
          rw [hb] at this
          have h0 : nDf (T.1 5 p) (T.2 8) = 0 := by simpa using this
          rw [nDf_mono h0]
          rfl
def keepT (T T' : TW) : Prop := T'.2 9 = T.2 9 ∧ T'.2 10 = T.2 10 ∧ T'.2 11 = T.2 11
theorem town_both (o : okb b N) : ∀ (d : Nat) (T : TW) (S R : ZS) (p n : Nat), T.2 6 + d + 1 = 8 → d + 900 ≤ n → tC S b N p → tM R b N p → tAt S 15 T → rdAt R T → wfD T → ∃ v S' R' p', fP_readTown_1 n S ((T.2 6 : Int) + 1) = some (.inl (v, S')) ∧ fM_readAll_1 n R 1 8 (T.2 6 : Int) = some (.inl (v, R')) ∧ frD S S' ∧ frT R R' ∧ tC S' b N p' ∧ tM R' b N p' ∧ ((v = 0 ∧ skp b N p' = p') ∨ (v = 1 ∧ ∃ T', tAt S' 15 T' ∧ rdAt R' T' ∧ wfD T' ∧ keepT T T' ∧ zF R' 49 11 = (T'.2 6 : Int))) := by
  intro d
  induction d with
  | zero =>
    intro T S R p n h1 h2 hC hM ht hr w
    obtain ⟨m, rfl⟩ : ∃ m, n = m + 1 := ⟨n - 1, by omega⟩
    obtain ⟨v, S1, R1, p1, a1, a2, a3, a4, a5, a6, a7⟩ := part_both o (n := m) (by omega) hC hM ht hr (by omega) w.2.1
    rw [fP_readTown_1, fM_readAll_1, gC_pos (x := (T.2 6 : Int) + 1) (y := 8) (by omega) (by omega) (by omega) (by omega), if_neg (show ¬ (8 : Int) < (T.2 6 : Int) + 1 by omega), a1, Option.bind_some, gC_pos (x := (T.2 6 : Int)) (y := 8) (by omega) (by omega) (by omega) (by omega), if_pos (show (T.2 6 : Int) < 8 by omega), gC_pos (x := 1) (y := 0) (by omega) (by omega) (by omega) (by omega), if_neg (show ¬ (1 : Int) = 0 by decide), a2, Option.bind_some]
    dsimp only
    rcases a7 with ⟨rfl, a7⟩ | ⟨rfl, kd, y, pl, ow, rs, st, k1, k2, k3, k4, k5, k6, k7, k8, k9⟩
    · rw [gC_pos (x := 0) (y := 0) (by omega) (by omega) (by omega) (by omega), if_pos rfl, gB_0, gC_pos (x := 0) (y := 0) (by omega) (by omega) (by omega) (by omega), if_pos rfl, gB_0]
      exact ⟨0, S1, R1, p1, rfl, rfl, a3, a4, a5, a6, Or.inl ⟨rfl, a7⟩⟩
    · rw [gC_pos (x := 1) (y := 0) (by omega) (by omega) (by omega) (by omega), if_neg (show ¬ (1 : Int) = 0 by decide), gC_pos (x := 1) (y := 0) (by omega) (by omega) (by omega) (by omega), if_neg (show ¬ (1 : Int) = 0 by decide)]
      have w' := wfD_add w (by omega) k1 k2 k3 k4 k5 k6 k7
      have a6' : tM (wF R1 49 11 ((T.2 6 : Int) + 1)) b N p1 := a6
      obtain ⟨S2, c1, c2, c3⟩ := tC_next o a5 (n := m) (by omega)
      obtain ⟨R2, d1, d2, d3⟩ := tM_next o a6' (n := m) (by omega)
      rw [c1, d1, Option.bind_some, Option.bind_some]
      dsimp only
      have kk := skp_skp (b := b) a5.2.2.1
      have f2 := frD_trans a3 (frD_1 c2)
      have g2 : frT R R2 := frT_trans a4 (frT_trans (frT_wF R1 (j := 11) ((T.2 6 : Int) + 1) (by omega) (by omega)) (frT_1 d2))
      by_cases k : skp b N p1 < N
      · have bb := o.2 _ k
        rw [if_pos k, if_pos k, gC_pos (x := b ((skp b N p1 : Nat) : Int)) (y := 0) (by omega) (by omega) (by omega) (by omega), if_neg (by omega), gC_pos (x := (T.2 6 : Int) + 1) (y := 8) (by omega) (by omega) (by omega) (by omega), if_pos (by omega), gB_0, gC_pos (x := b ((skp b N p1 : Nat) : Int)) (y := 0) (by omega) (by omega) (by omega) (by omega), if_neg (by omega), gC_pos (x := b ((skp b N p1 : Nat) : Int)) (y := 44) (by omega) (by omega) (by omega) (by omega), gC_pos (x := (T.2 6 : Int)) (y := 8 - 1) (by omega) (by omega) (by omega) (by omega), if_pos (show (T.2 6 : Int) = 8 - 1 by omega), gB_0, ite_self]
        exact ⟨0, S2, R2, _, rfl, rfl, f2, g2, c3, d3, Or.inl ⟨rfl, kk⟩⟩
      · rw [if_neg k, if_neg k, gC_pos (x := 0) (y := 0) (by omega) (by omega) (by omega) (by omega), if_pos rfl, gB_1, gC_pos (x := -1) (y := 0) (by omega) (by omega) (by omega) (by omega), if_pos (by decide), gB_1]
        exact ⟨1, S2, R2, _, rfl, rfl, f2, g2, c3, d3, Or.inr ⟨rfl, _, fr1_tAt c2 k8 (by decide), rd_fr1 d2 k9, w', ⟨rfl, rfl, rfl⟩, fr1_F d2 (Or.inr (by decide))⟩⟩
  | succ d ih =>
    intro T S R p n h1 h2 hC hM ht hr w
    obtain ⟨m, rfl⟩ : ∃ m, n = m + 1 := ⟨n - 1, by omega⟩
    obtain ⟨v, S1, R1, p1, a1, a2, a3, a4, a5, a6, a7⟩ := part_both o (n := m) (by omega) hC hM ht hr (by omega) w.2.1
    rw [fP_readTown_1, fM_readAll_1, gC_pos (x := (T.2 6 : Int) + 1) (y := 8) (by omega) (by omega) (by omega) (by omega), if_neg (show ¬ (8 : Int) < (T.2 6 : Int) + 1 by omega), a1, Option.bind_some, gC_pos (x := (T.2 6 : Int)) (y := 8) (by omega) (by omega) (by omega) (by omega), if_pos (show (T.2 6 : Int) < 8 by omega), gC_pos (x := 1) (y := 0) (by omega) (by omega) (by omega) (by omega), if_neg (show ¬ (1 : Int) = 0 by decide), a2, Option.bind_some]
    dsimp only
    rcases a7 with ⟨rfl, a7⟩ | ⟨rfl, kd, y, pl, ow, rs, st, k1, k2, k3, k4, k5, k6, k7, k8, k9⟩
    · rw [gC_pos (x := 0) (y := 0) (by omega) (by omega) (by omega) (by omega), if_pos rfl, gB_0, gC_pos (x := 0) (y := 0) (by omega) (by omega) (by omega) (by omega), if_pos rfl, gB_0]
      exact ⟨0, S1, R1, p1, rfl, rfl, a3, a4, a5, a6, Or.inl ⟨rfl, a7⟩⟩
    · rw [gC_pos (x := 1) (y := 0) (by omega) (by omega) (by omega) (by omega), if_neg (show ¬ (1 : Int) = 0 by decide), gC_pos (x := 1) (y := 0) (by omega) (by omega) (by omega) (by omega), if_neg (show ¬ (1 : Int) = 0 by decide)]
      have w' := wfD_add w (by omega) k1 k2 k3 k4 k5 k6 k7
      have a6' : tM (wF R1 49 11 ((T.2 6 : Int) + 1)) b N p1 := a6
      obtain ⟨S2, c1, c2, c3⟩ := tC_next o a5 (n := m) (by omega)
      obtain ⟨R2, d1, d2, d3⟩ := tM_next o a6' (n := m) (by omega)
      rw [c1, d1, Option.bind_some, Option.bind_some]
      dsimp only
      have kk := skp_skp (b := b) a5.2.2.1
      have f2 := frD_trans a3 (frD_1 c2)
      have g2 : frT R R2 := frT_trans a4 (frT_trans (frT_wF R1 (j := 11) ((T.2 6 : Int) + 1) (by omega) (by omega)) (frT_1 d2))
      by_cases k : skp b N p1 < N
      · have bb := o.2 _ k
        obtain ⟨S3, e1, e2, e3⟩ := tC_take o c3 (n := m) (by omega) (c := 44) (by omega) (by omega)
        rw [if_pos k, if_pos k, gC_pos (x := b ((skp b N p1 : Nat) : Int)) (y := 0) (by omega) (by omega) (by omega) (by omega), if_neg (by omega), gC_pos (x := (T.2 6 : Int) + 1) (y := 8) (by omega) (by omega) (by omega) (by omega), if_neg (by omega), e1, Option.bind_some, gC_pos (x := b ((skp b N p1 : Nat) : Int)) (y := 0) (by omega) (by omega) (by omega) (by omega), if_neg (show ¬ b ((skp b N p1 : Nat) : Int) < 0 by omega), gC_pos (x := b ((skp b N p1 : Nat) : Int)) (y := 44) (by omega) (by omega) (by omega) (by omega), gC_pos (x := (T.2 6 : Int)) (y := 8 - 1) (by omega) (by omega) (by omega) (by omega), if_neg (show ¬ (T.2 6 : Int) = 8 - 1 by omega), gB_0]
        dsimp only
        unfold tk at e3 ⊢
        rw [kk] at e3 ⊢
        by_cases k2 : b ((skp b N p1 : Nat) : Int) = 44
        · rw [if_pos ⟨k, k2⟩] at e3 ⊢
          dsimp only at e3 ⊢
          rw [gC_pos (x := 1) (y := 0) (by omega) (by omega) (by omega) (by omega), if_neg (show ¬ (1 : Int) = 0 by decide), if_pos k2, d3.2.1]
          obtain ⟨v, S', R', p', i1, i2, i3, i4, i5, i6, i7⟩ := ih (tP (tN T 8 st) kd y pl ow rs) S3 (wF R2 49 10 (((skp b N p1 : Nat) : Int) + 1)) (skp b N p1 + 1) m (by show T.2 6 + 1 + d + 1 = 8; omega) (by omega) e3 (tM_to d3 (by omega) (by omega)) (fr1_tAt e2 (fr1_tAt c2 k8 (by decide)) (by decide)) (rd_fr1 (fr1_wF _ _ _ _) (rd_fr1 d2 k9)) w'
          have i1 : fP_readTown_1 m S3 ((T.2 6 : Int) + 1 + 1) = some (.inl (v, S')) := i1
          have i2 : fM_readAll_1 m (wF R2 49 10 (((skp b N p1 : Nat) : Int) + 1)) 1 8 ((T.2 6 : Int) + 1) = some (.inl (v, R')) := i2
          exact ⟨v, S', R', p', i1, i2, frD_trans (frD_trans f2 (frD_1 e2)) i3, frT_trans (frT_trans g2 (frT_1 (fr1_wF _ _ _ _))) i4, i5, i6, i7⟩
        · rw [if_neg (fun z => k2 z.2)] at e3 ⊢
          dsimp only at e3 ⊢
          rw [gC_pos (x := 0) (y := 0) (by omega) (by omega) (by omega) (by omega), if_pos rfl, gB_0, if_neg k2]
          exact ⟨0, S3, R2, _, rfl, rfl, frD_trans f2 (frD_1 e2), g2, e3, d3, Or.inl ⟨rfl, kk⟩⟩
      · rw [if_neg k, if_neg k, gC_pos (x := 0) (y := 0) (by omega) (by omega) (by omega) (by omega), if_pos rfl, gB_1, gC_pos (x := -1) (y := 0) (by omega) (by omega) (by omega) (by omega), if_pos (by decide), gB_1]
        exact ⟨1, S2, R2, _, rfl, rfl, f2, g2, c3, d3, Or.inr ⟨rfl, _, fr1_tAt c2 k8 (by decide), rd_fr1 d2 k9, w', ⟨rfl, rfl, rfl⟩, fr1_F d2 (Or.inr (by decide))⟩⟩
end RDf
