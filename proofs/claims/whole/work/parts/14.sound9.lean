theorem eCall_sh {k own : Nat} {i : Instr} {pc : Nat} {L : eL} {st : List Value} {AH : eH} {r : eR} (h : eCall k own i pc L st AH = some r) : (∃ pc' st' AH', r = .inl (pc', L, st', AH') ∧ AH.length ≤ AH'.length ∧ eTot AH ≤ eTot AH') ∨ (∃ v, r = .inr (.inl (v, AH))) ∨ ∃ q as st', r = .inr (.inr (q, as, (pc + 3, L, st', AH))) := by
  unfold eCall at h
  split at h
  · split at h
    · split at h
      · rename_i st' AH' hcp
        cases h
        obtain ⟨n, dp, sp, a, b, -, -, -, -, -, hh⟩ := eCpy_ok hcp
        rcases hh with ⟨n0, n1, f, g, e1, e2, e3, e4, rfl⟩ | ⟨n0, n1, f, g, e1, e2, e3, e4, rfl⟩
        · exact Or.inl ⟨_, _, _, rfl, by simp, by refine Nat.le_of_eq (Eq.symm (eTot_set e2 ?_)); rfl⟩
        · exact Or.inl ⟨_, _, _, rfl, by simp, by refine Nat.le_of_eq (Eq.symm (eTot_set e2 ?_)); rfl⟩
      · cases h
    · (repeat' split at h) <;> first | (cases h; exact Or.inl ⟨_, _, _, rfl, Nat.le_refl _, Nat.le_refl _⟩) | (cases h; exact Or.inr (Or.inr ⟨_, _, _, rfl⟩)) | cases h
  all_goals ((repeat' split at h) <;> first | (cases h; exact Or.inl ⟨_, _, _, rfl, Nat.le_refl _, Nat.le_refl _⟩) | (cases h; exact Or.inr (Or.inl ⟨_, rfl⟩)) | (cases h; exact Or.inr (Or.inr ⟨_, _, _, rfl⟩)) | cases h)
theorem eStep_sh {o : eO} {k : Nat} {i : Instr} {pc : Nat} {L : eL} {st : List Value} {AH : eH} {r : eR} (h : eStep o k i pc L st AH = some r) : (∃ pc' L' st' AH', r = .inl (pc', L', st', AH') ∧ AH.length ≤ AH'.length ∧ eTot AH ≤ eTot AH') ∨ (∃ v, r = .inr (.inl (v, AH))) ∨ ∃ q as st', r = .inr (.inr (q, as, (pc + 3, L, st', AH))) := by
  unfold eStep at h
  split at h
  · obtain ⟨a, b, c, rfl⟩ := eLoc_sh h
    exact Or.inl ⟨a, b, c, AH, rfl, Nat.le_refl _, Nat.le_refl _⟩
  · obtain ⟨a, c, rfl⟩ := eAri_sh h
    exact Or.inl ⟨a, L, c, AH, rfl, Nat.le_refl _, Nat.le_refl _⟩
  · obtain ⟨a, c, d, rfl, h1, h2⟩ := eHp_sh h
    exact Or.inl ⟨a, L, c, d, rfl, h1, h2⟩
  · rcases eCall_sh h with ⟨a, c, d, rfl, h1, h2⟩ | h1 | h1
    · exact Or.inl ⟨a, L, c, d, rfl, h1, h2⟩
    · exact Or.inr (Or.inl h1)
    · exact Or.inr (Or.inr h1)
set_option maxHeartbeats 4000000 in
/-- THE ENGINE IS SOUND: what it answers, the machine answers -/
theorem eX_ok (l : Launch) (o : eO) (B : Nat) (ro : Nat → Nat) (cA : Nat → ClassId) (D : va_G) : ∀ (n k pc : Nat) (L : eL) (st : List Value) (AH : eH) (v : Option Value) (AH1 : eH), eX o n k pc L st AH = some (v, AH1) → (AH.length ≤ AH1.length ∧ eTot AH ≤ eTot AH1) ∧ eSim l o B ro cA D k pc L st AH v AH1 := by
  intro n
  induction n with
  | zero => intro k pc L st AH v AH1 h; cases h
  | succ n ih =>
    intro k pc L st AH v AH1 h
    unfold eX at h
    cases hat : eAt k pc with
    | none => rw [hat] at h; cases h
    | some il =>
      obtain ⟨i, len⟩ := il
      have hmem : (pc, (i, len)) ∈ eCd k := eFind_mem hat
      have hd : decode (eBy k) pc = .ok (i, len) := eCd_ok k (pc, (i, len)) hmem
      have hc := eChk_ok k (pc, (i, len)) hmem
      rw [hat] at h
      dsimp only at h
      cases hst : eStep o k i pc L st AH with
      | none => rw [hst] at h; cases h
      | some r =>
        rw [hst] at h
        rcases eStep_sh hst with ⟨pc', L', st', AH', rfl, hm1, hm2⟩ | ⟨w, rfl⟩ | ⟨q, as, st', rfl⟩
        · dsimp only at h
          obtain ⟨⟨hn1, hn2⟩, hsim⟩ := ih _ _ _ _ _ _ _ h
          refine ⟨⟨Nat.le_trans hm1 hn1, Nat.le_trans hm2 hn2⟩, ?_⟩
          intro p e R s m args below meth c H locs cells slots Q ls len0 tot0 hF hI hl h0 hc1 hc2 hr1 hr2 hr3 hr4 hQ
          refine eSized hI h0 hc1 fun hsz => ?_
          unfold eStep at hst
          split at hst
          · obtain ⟨a, b, d, e1, kk⟩ := eLoc_ok (R := R) (H := H) (locs := locs) (cells := cells) (slots := slots) (Q := Q) (l := l) (e := e) (below := below) hF hd hc hl hst
            cases e1
            exact kk fun ls' hl' => hsim p e R s m args below meth c H locs cells slots Q ls' len0 tot0 hF hI hl' h0 hc1 hc2 hr1 hr2 hr3 hr4 hQ
          · obtain ⟨a, d, e1, kk⟩ := eAri_ok (R := R) (H := H) (locs := locs) (cells := cells) (slots := slots) (Q := Q) (l := l) (e := e) (below := below) (ls := ls) hF hd hc hst
            cases e1
            exact kk (hsim p e R s m args below meth c H locs cells slots Q ls len0 tot0 hF hI hl h0 hc1 hc2 hr1 hr2 hr3 hr4 hQ)
          · obtain ⟨a, d, AH2, dc, ds, e1, g1, g2, kk⟩ := eHp_ok (R := R) (cells := cells) (slots := slots) (Q := Q) (l := l) (e := e) (below := below) (ls := ls) hF hd hc hI hsz (by omega) hst
            cases e1
            exact kk (by omega) (by omega) fun H' locs' hI' => hsim p e R s m args below meth c H' locs' (cells + dc) (slots + ds) Q ls len0 tot0 hF hI' hl h0 (by omega) (by omega) hr1 hr2 hr3 hr4 hQ
          · rcases eCall_ok (R := R) (cells := cells) (slots := slots) (Q := Q) (l := l) (e := e) (below := below) hF hd hc hl hI hsz hr3 hr4 (by omega) (by omega) hst with ⟨a, d, AH2, e1, g1, g2, kk⟩ | ⟨w, e1, -⟩ | ⟨q, as, st2, e1, -⟩
            · cases e1
              exact kk fun H' locs' hI' => hsim p e R s m args below meth c H' locs' cells slots Q ls len0 tot0 hF hI' hl h0 (by omega) (by omega) hr1 hr2 hr3 hr4 hQ
            · cases e1
            · cases e1
        · cases h
          refine ⟨⟨Nat.le_refl _, Nat.le_refl _⟩, ?_⟩
          intro p e R s m args below meth c H locs cells slots Q ls len0 tot0 hF hI hl h0 hc1 hc2 hr1 hr2 hr3 hr4 hQ
          refine eSized hI h0 hc1 fun hsz => ?_
          unfold eStep at hst
          split at hst
          · obtain ⟨a, b, d, e1⟩ := eLoc_sh hst
            cases e1
          · obtain ⟨a, d, e1⟩ := eAri_sh hst
            cases e1
          · obtain ⟨a, d, AH2, e1, -⟩ := eHp_sh hst
            cases e1
          · rcases eCall_ok (R := R) (cells := cells) (slots := slots) (Q := Q) (l := l) (e := e) (below := below) hF hd hc hl hI hsz hr3 hr4 (by omega) (by omega) hst with ⟨a, d, AH2, e1, -⟩ | ⟨w, e1, g1, g2, g3⟩ | ⟨q, as, st2, e1, -⟩
            · cases e1
            · cases e1
              subst g3
              have := hQ i pc ls H locs cells slots hd g1 hI hc1 hc2
              rw [g2]
              cases v with
              | none => exact this
              | some z => exact this
            · cases e1
        · dsimp only at h
          cases hle : Nat.ble (eArgs as).length (eMx.getD q 0) with
          | false => rw [hle] at h; cases h
          | true =>
            cases hx : eX o n q 0 (eEnt q as) [] AH with
            | none => rw [hle, hx] at h; cases h
            | some z =>
              obtain ⟨w, AH2⟩ := z
              rw [hle, hx] at h
              dsimp only at h
              obtain ⟨⟨hm1, hm2⟩, hsim1⟩ := ih _ _ _ _ _ _ _ hx
              obtain ⟨⟨hn1, hn2⟩, hsim⟩ := ih _ _ _ _ _ _ _ h
              refine ⟨⟨Nat.le_trans hm1 hn1, Nat.le_trans hm2 hn2⟩, ?_⟩
              intro p e R s m args below meth c H locs cells slots Q ls len0 tot0 hF hI hl h0 hc1 hc2 hr1 hr2 hr3 hr4 hQ
              refine eSized hI h0 hc1 fun hsz => ?_
              unfold eStep at hst
              split at hst
              · obtain ⟨a, b, d, e1⟩ := eLoc_sh hst
                cases e1
              · obtain ⟨a, d, e1⟩ := eAri_sh hst
                cases e1
              · obtain ⟨a, d, AH3, e1, -⟩ := eHp_sh hst
                cases e1
              · rcases eCall_ok (R := R) (cells := cells) (slots := slots) (Q := Q) (l := l) (e := e) (below := below) hF hd hc hl hI hsz hr3 hr4 (by omega) (by omega) hst with ⟨a, d, AH3, e1, -⟩ | ⟨w, e1, -⟩ | ⟨q', as', st2, e1, g1, g2, g3⟩
                · cases e1
                · cases e1
                · cases e1
                  refine g3 w AH2 _ _ (eMet hsim1 hm1 hm2 g1 g2 (Nat.le_of_ble_eq_true hle)) (by omega) (by omega) fun H1 locs1 hI1 => ?_
                  have := hsim p e R s m args below meth c H1 locs1 (cells + (AH2.length - AH.length)) (slots + (eTot AH2 - eTot AH)) Q ls len0 tot0 hF hI1 hl h0 (by omega) (by omega) hr1 hr2 hr3 hr4 hQ
                  cases w with
                  | none => exact this
                  | some z => exact this
