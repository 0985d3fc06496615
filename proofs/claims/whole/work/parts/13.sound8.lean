theorem eIni_ret {q : Nat} (h : eIni q = true) : eRt.getD q none = none ∧ (q ≠ 36 ∧ q ≠ 37 ∧ q ≠ 84) := by
  unfold eIni at h
  split at h <;> first | exact ⟨rfl, by decide, by decide, by decide⟩ | cases h
theorem eNa_0 {q : Nat} (h : eNa.getD q 1 = 0) : eNa.getD q 0 = 0 := by
  rw [List.getD_eq_getElem?_getD] at h ⊢
  cases hq : eNa[q]? with
  | none => rfl
  | some z => rw [hq] at h; exact h
theorem eOwn_math {q c : Nat} (h : c = eOwn q) (hc : c < 8 ∨ c = 11) : q ≠ 36 ∧ q ≠ 37 ∧ q ≠ 84 := by
  refine ⟨fun e => ?_, fun e => ?_, fun e => ?_⟩ <;> subst e <;> rw [h] at hc <;> revert hc <;> decide
theorem eEdge_of {k : Nat} {q : Nat × Instr × Nat} (h : eChk k q = true) : eEdge k q.2.1 = true ∧ q.2.2 = eLen q.2.1 q.2.2 := by
  simp only [eChk, Bool.and_eq_true] at h
  exact ⟨h.2, Nat.eq_of_beq_eq_true h.1.1.1.1⟩
section E6
variable {p : Program} {l : Launch} {e : Env} {R : Room} {s : State} {m : MethodId} {args : Array Value} {below : List Frame} {meth : Method} {c : Code} {H : Heap} {locs : List Loc} {cells slots : Nat} {Q : State → Prop}
variable {o : eO} {B : Nat} {ro : Nat → Nat} {cA : Nat → ClassId} {D : va_G} {k : Nat}
set_option maxHeartbeats 4000000 in
theorem eCall_ok (hF : eFx o B ro cA D k p s m args meth c) {i : Instr} {pc len : Nat} {L : eL} {st : List Value} {AH : eH} {r : eR} {ls : Array Slot}
    (hd : decode (eBy k) pc = .ok (i, len)) (hc : eChk k (pc, i, len) = true) (hl : eLc B ro ls (eMx.getD k 0) L) (hI : eIv B ro cA D AH s H locs) (hsz : H.size = B + AH.length) (hfr : eFr.getD k 0 ≤ R.frames) (hlo : eLo.getD k 0 ≤ R.locals) (hcs : cells ≤ R.cells) (hss : slots ≤ R.slots) (h : eCall k (eOwn k) i pc L st AH = some r) :
    (∃ pc' st' AH', r = .inl (pc', L, st', AH') ∧ AH'.length = AH.length ∧ eTot AH' = eTot AH ∧ ((∀ H' locs', eIv B ro cA D AH' s H' locs' → W p l e R s m args below meth c H' locs' cells slots Q (F0 m pc' ls (st'.map (eRe B ro)))) → W p l e R s m args below meth c H locs cells slots Q (F0 m pc ls (st.map (eRe B ro))))) ∨
    (∃ v, r = .inr (.inl (v, AH)) ∧ eRet k i v ∧ st = v.toList ∧ len = 1) ∨
    (∃ q as st', r = .inr (.inr (q, as, (pc + 3, L, st', AH))) ∧ q < 202 ∧ (q ≠ 36 ∧ q ≠ 37 ∧ q ≠ 84) ∧ eThru l o B ro cA D p e R s m args below meth c H locs cells slots Q q as AH pc ls st st') := by
  obtain ⟨hed, hlen⟩ := eEdge_of hc
  have hF' := hF
  obtain ⟨hx, hb, hml, hr, hlk, hin, hown, hts, hK, hRo⟩ := hF
  have hmls : c.maxLocals = ls.size := hml.trans hl.1.1.symm
  have hD := eWd_D B ro cA AH
  cases i with
  | invokestatic idx =>
    have hlen : len = 3 := hlen
    subst hlen
    simp only [eCall] at h
    simp only [eEdge] at hed
    cases hac : eHas eAc (eOwn k) idx with
    | true =>
      rw [hac] at h hed
      simp only [Bool.and_eq_true] at hed
      have hf1 : 1 ≤ R.frames := Nat.le_trans (Nat.le_of_ble_eq_true hed.1) hfr
      have hl1 : 26 ≤ R.locals := Nat.le_trans (Nat.le_of_ble_eq_true hed.2) hlo
      cases hcp : eCpy st AH with
      | none => rw [hcp] at h; cases h
      | some z =>
        obtain ⟨st', AH'⟩ := z
        rw [hcp] at h
        cases h
        obtain ⟨n, dp, sp, a, b, rfl, h1, h2, h3, hw, hh⟩ := eCpy_ok hcp
        have hlk1 := hts _ (eAc_in _ (eHas_mem hac))
        have hwr : ((st'.map (eRe B ro)).map fun v => v.category).sum + (nativeFrameWords "java/lang/System" "arraycopy" 5 + 11) ≤ R.locals := by
          rw [eWords_eq, show nativeFrameWords "java/lang/System" "arraycopy" 5 = 7 by decide +kernel]
          omega
        rcases hh with ⟨n0, n1, f, g, e1, e2, e3, e4, rfl⟩ | ⟨n0, n1, f, g, e1, e2, e3, e4, rfl⟩
        · refine Or.inl ⟨_, _, _, rfl, by simp, eTot_set e2 rfl, fun kk => ?_⟩
          exact va_copyi hx hb hmls hown hlk1 (hts _ (eWs_in eAcm.1 rfl)) (hts _ (eWs_in eAcm.2.1 rfl)) (hts _ (eWs_in eAcm.2.2 rfl)) hK hI.1 hD hI.2 a b 0 0 (eWd_get e1) (eWd_get e2) rfl rfl rfl h1 h2 h3 e3 e4 (fun _ _ => rfl) hf1 hwr hd (fun H1 locs1 hP1 _ hS1 => kk H1 locs1 ⟨by rw [← eWd_set]; exact hP1, hS1⟩)
        · refine Or.inl ⟨_, _, _, rfl, by simp, eTot_set e2 rfl, fun kk => ?_⟩
          exact va_copyl hx hb hmls hown hlk1 (hts _ (eWs_in eAcm.1 rfl)) (hts _ (eWs_in eAcm.2.1 rfl)) (hts _ (eWs_in eAcm.2.2 rfl)) hK hI.1 hD hI.2 a b 1 1 (eWd_get e1) (eWd_get e2) rfl rfl rfl h1 h2 h3 e3 e4 (fun _ _ => rfl) hf1 hwr hd (fun H1 locs1 hP1 _ hS1 => kk H1 locs1 ⟨by rw [← eWd_set]; exact hP1, hS1⟩)
    | false =>
      rw [hac] at h hed
      dsimp only at h hed
      cases hq : eFind (eLs (eOwn k)) idx with
      | none => rw [hq] at h; cases h
      | some q =>
        rw [hq] at h hed
        dsimp only at h hed
        have hm := eFind_mem hq
        have hlt := (eLsv_lt (eOwn k)).1 _ hm
        cases hmt : eMth q st with
        | none =>
          rw [hmt] at h
          dsimp only at h
          cases hpop : ePop (eNa.getD q 0) [] st with
          | none => rw [hpop] at h; cases h
          | some z =>
            obtain ⟨as, st'⟩ := z
            rw [hpop] at h
            dsimp only at h
            cases hw : Nat.ble (eWords st') 8 with
            | false => rw [hw] at h; cases h
            | true =>
              rw [hw] at h
              cases h
              exact Or.inr (Or.inr ⟨q, as, st', rfl, hlt, eMth_none hmt, eSta_ok hF' hd hl hI hsz hed hfr hlo hq hpop (Nat.le_of_ble_eq_true hw)⟩)
        | some z =>
          cases z with
          | none => rw [hmt] at h; cases h
          | some w =>
            obtain ⟨v, st'⟩ := w
            rw [hmt] at h
            dsimp only at h
            cases hw : Nat.ble (eWords st') 7 with
            | false => rw [hw] at h; cases h
            | true =>
              rw [hw] at h
              cases h
              have hw := Nat.le_of_ble_eq_true hw
              have hro := eFits_ok hed hfr hlo
              have hwr : ((st'.map (eRe B ro)).map fun v => v.category).sum + 13 ≤ R.locals := by
                rw [eWords_eq]
                have := hro.2
                have : 1 ≤ eMx.getD q 0 := by rcases eMth_eq hmt with ⟨rfl, -⟩ | ⟨rfl, -⟩ | ⟨rfl, -⟩ <;> decide
                omega
              have hf1 : 1 ≤ R.frames := by have := hro.1; omega
              have hlk1 := hts _ (eLs_in _ _ hm)
              have hst1 := hts _ (eLsS_in _ _ hm)
              have hin1 := hts _ (eLsI_in _ _ hm)
              have hco := hts _ (eMp_in q hlt)
              dsimp only at hlk1 hst1 hin1
              rcases eMth_eq hmt with ⟨rfl, x, y, rfl, rfl⟩ | ⟨rfl, x, y, rfl, rfl⟩ | ⟨rfl, x, rfl, rfl⟩
              · rw [eMth_n.1] at hlk1 hst1 hin1 hco
                rw [eMth_n.2.2.2.1] at hco
                exact Or.inl ⟨_, _, _, rfl, rfl, rfl, fun kk => va_mmax hx hb hmls hown hlk1 hst1 hin1 hco hf1 hwr hcs hss hd (kk H locs hI)⟩
              · rw [eMth_n.2.1] at hlk1 hst1 hin1 hco
                rw [eMth_n.2.2.2.2.1] at hco
                exact Or.inl ⟨_, _, _, rfl, rfl, rfl, fun kk => va_mmin hx hb hmls hown hlk1 hst1 hin1 hco hf1 hwr hcs hss hd (kk H locs hI)⟩
              · rw [eMth_n.2.2.1] at hlk1 hst1 hin1 hco
                rw [eMth_n.2.2.2.2.2] at hco
                exact Or.inl ⟨_, _, _, rfl, rfl, rfl, fun kk => va_mabs hx hb hmls hown hlk1 hst1 hin1 hco hf1 (by omega) hcs hss hd (kk H locs hI)⟩
  | invokevirtual idx =>
    have hlen : len = 3 := hlen
    subst hlen
    simp only [eCall] at h
    simp only [eEdge] at hed
    cases hq : eFind (eLv (eOwn k)) idx with
    | none => rw [hq] at h; cases h
    | some q =>
      rw [hq] at h hed
      dsimp only at h hed
      have hm := eFind_mem hq
      have hlt := (eLsv_lt (eOwn k)).2.1 _ hm
      cases hpop : ePop (eNa.getD q 0) [] st with
      | none => rw [hpop] at h; cases h
      | some z =>
        obtain ⟨as, st2⟩ := z
        rw [hpop] at h
        cases st2 with
        | nil => cases h
        | cons rv st' =>
          cases rv with
          | ref hh =>
            dsimp only at h
            cases hob : AH[hh]? with
            | none => rw [hob] at h; cases h
            | some ce =>
              cases ce with
              | inl z => rw [hob] at h; cases h
              | inr z =>
                obtain ⟨cj, fs⟩ := z
                cases hw : Nat.ble (eWords st') 8 with
                | false => rw [hob, hw] at h; cases h
                | true =>
                  rw [hob, hw] at h
                  dsimp only at h
                  cases hcj : Nat.beq cj (eOwn q) with
                  | false => rw [hcj] at h; cases h
                  | true =>
                    rw [hcj] at h
                    cases h
                    have hcj := Nat.eq_of_beq_eq_true hcj
                    have hc8 : cj < 8 := by
                      obtain ⟨rr, hr1, -⟩ := hI.1 hh _ (eWd_get hob)
                      exact (List.getElem?_eq_some_iff.mp hr1).1
                    exact Or.inr (Or.inr ⟨q, _, st', rfl, hlt, eOwn_math hcj (Or.inl hc8), eVir_ok hF' hd hl hI hsz hed hfr hlo hq hpop (Nat.le_of_ble_eq_true hw) hob hcj hc8⟩)
          | retAddr kr =>
            match kr, hpop, h with
            | 2, hpop, h =>
              split at h
              · rename_i e1
                cases e1
              · rename_i e1
                cases e1
                split at h
                · rename_i hcj hw
                  cases h
                  have hcj := Nat.eq_of_beq_eq_true hcj
                  exact Or.inr (Or.inr ⟨q, _, st', rfl, hlt, eOwn_math hcj (Or.inr rfl), eVis_ok hF' hd hl hI hsz hed hfr hlo hq hpop (Nat.le_of_ble_eq_true hw) hcj⟩)
                · cases h
              · cases h
            | 0, hpop, h => cases h
            | 1, hpop, h => cases h
            | kr + 3, hpop, h => cases h
          | _ => cases h
  | invokespecial idx =>
    have hlen : len = 3 := hlen
    subst hlen
    simp only [eCall] at h
    simp only [eEdge] at hed
    cases hoi : eHas eOi (eOwn k) idx with
    | true =>
      rw [hoi] at h hed
      simp only [Bool.and_eq_true] at hed
      have hf1 : 1 ≤ R.frames := Nat.le_trans (Nat.le_of_ble_eq_true hed.1) hfr
      have hl1 : 20 ≤ R.locals := Nat.le_trans (Nat.le_of_ble_eq_true hed.2) hlo
      dsimp only at h
      split at h
      · rename_i hh st'
        split at h
        · rename_i hw
          cases h
          have hw := Nat.le_of_ble_eq_true hw
          refine Or.inl ⟨_, _, _, rfl, rfl, rfl, fun kk => ?_⟩
          exact W.objInit hx hb hown (hts _ (eOi_in _ (eHas_mem hoi))) (hts _ (eWs_in eOb_m.1 rfl)) (hts _ (eWs_in eOb_m.2 rfl)) rfl hmls.symm rfl hd hf1 (by have := eWords_eq B ro st'; show 2 * 0 + _ + 12 ≤ _; rw [this]; omega) (kk H locs hI)
        · cases h
      · cases h
    | false =>
      rw [hoi] at h hed
      dsimp only at h hed
      cases hq : eFind (eLi (eOwn k)) idx with
      | some q =>
        rw [hq] at h hed
        have hed : eFits k q = true := by
          cases hq2 : eFind (eLm (eOwn k)) idx <;> rw [hq2] at hed <;> exact hed
        obtain ⟨hini, hlt⟩ := (eLsv_lt (eOwn k)).2.2.1 _ (eFind_mem hq)
        cases hq2 : eFind (eLm (eOwn k)) idx with
          | none =>
            rw [hq2] at h
            cases st with
            | nil => cases h
            | cons rv st' =>
              cases rv with
              | ref hh =>
                dsimp only at h
                split at h
                · rename_i hw hna
                  cases h
                  exact Or.inr (Or.inr ⟨q, _, _, rfl, hlt, (eIni_ret hini).2, eSpe_ok hF' hd hl hI hsz hed hfr hlo hq (eNa_0 hna) (eIni_ret hini).1 (Nat.le_of_ble_eq_true hw)⟩)
                · cases h
              | _ => cases h
          | some q2 =>
            rw [hq2] at h
            cases st with
            | nil => cases h
            | cons rv st' =>
              cases rv with
              | ref hh =>
                dsimp only at h
                split at h
                · rename_i hw hna
                  cases h
                  exact Or.inr (Or.inr ⟨q, _, _, rfl, hlt, (eIni_ret hini).2, eSpe_ok hF' hd hl hI hsz hed hfr hlo hq (eNa_0 hna) (eIni_ret hini).1 (Nat.le_of_ble_eq_true hw)⟩)
                · cases h
              | _ => cases h
      | none =>
        cases hq2 : eFind (eLm (eOwn k)) idx with
        | none => rw [hq, hq2] at h; cases h
        | some q =>
          rw [hq, hq2] at h hed
          obtain ⟨⟨hini, hlt⟩, -⟩ := (eLsv_lt (eOwn k)).2.2.2 _ (eFind_mem hq2)
          cases st with
          | nil => cases h
          | cons rv st' =>
            cases rv with
            | ref hh =>
              dsimp only at h
              split at h
              · rename_i hw hna
                cases h
                exact Or.inr (Or.inr ⟨q, _, _, rfl, hlt, (eIni_ret hini).2, eSpn_ok hF' hd hl hI hsz hed hfr hlo hq2 (eNa_0 hna) (eIni_ret hini).1 (Nat.le_of_ble_eq_true hw)⟩)
              · cases h
            | _ => cases h
  | ireturn =>
    simp only [eCall] at h
    split at h
    · rename_i x ty hty
      split at h
      · rename_i hfi
        cases h
        exact Or.inr (Or.inl ⟨_, rfl, ⟨x, ty, rfl, hty, hfi⟩, rfl, hlen⟩)
      · cases h
    · cases h
  | lreturn =>
    simp only [eCall] at h
    split at h
    · rename_i x hty
      cases h
      exact Or.inr (Or.inl ⟨_, rfl, ⟨x, rfl, hty⟩, rfl, hlen⟩)
    · cases h
  | areturn =>
    simp only [eCall] at h
    split at h
    · rename_i x ty hty
      cases h
      exact Or.inr (Or.inl ⟨_, rfl, ⟨x, ty, rfl, hty⟩, rfl, hlen⟩)
    · cases h
  | return_ =>
    simp only [eCall] at h
    split at h
    · rename_i hty
      cases h
      exact Or.inr (Or.inl ⟨_, rfl, ⟨rfl, eRt_none hty⟩, rfl, hlen⟩)
    · cases h
  | _ => cases h
end E6
