theorem eHas_mem : ∀ {l : List (Nat × Nat)} {x y : Nat}, eHas l x y = true → (x, y) ∈ l
  | [], _, _, h => by cases h
  | (a, b) :: l, x, y, h => by
    unfold eHas at h
    split at h
    · rename_i h1 h2
      rw [Nat.eq_of_beq_eq_true h1, Nat.eq_of_beq_eq_true h2]
      exact List.mem_cons_self
    · exact List.mem_cons_of_mem _ (eHas_mem h)
theorem eOi_in : ∀ q ∈ eOi, Cond.methodLink (eN q.1) q.2 Lib.objectInit ∈ eWs := eIn_of (fun q : Nat × Nat => Cond.methodLink (eN q.1) q.2 Lib.objectInit) eOip eOi (fun _ => rfl) eOi_w
theorem eAc_in : ∀ q ∈ eAc, Cond.methodLink (eN q.1) q.2 arraycopyName ∈ eWs := eIn_of (fun q : Nat × Nat => Cond.methodLink (eN q.1) q.2 arraycopyName) eAcp eAc (fun _ => rfl) eAc_w
theorem eMth_eq {q : Nat} {st st' : List Value} {v : Value} (h : eMth q st = some (some (v, st'))) : (q = 36 ∧ ∃ x y : Int32, st = .int y :: .int x :: st' ∧ v = .int (if x < y then y else x)) ∨ (q = 37 ∧ ∃ x y : Int32, st = .int y :: .int x :: st' ∧ v = .int (if y < x then y else x)) ∨ (q = 84 ∧ ∃ x : Int32, st = .int x :: st' ∧ v = .int (if 0 ≤ x then x else 0 - x)) := by
  unfold eMth at h
  split at h
  · cases h; exact Or.inl ⟨rfl, _, _, rfl, rfl⟩
  · cases h; exact Or.inr (Or.inl ⟨rfl, _, _, rfl, rfl⟩)
  · cases h; exact Or.inr (Or.inr ⟨rfl, _, rfl, rfl⟩)
  · cases h
  · cases h
  · cases h
  · cases h
theorem eMth_none {q : Nat} {st : List Value} (h : eMth q st = none) : q ≠ 36 ∧ q ≠ 37 ∧ q ≠ 84 := by
  refine ⟨fun e => ?_, fun e => ?_, fun e => ?_⟩ <;> subst e <;> rcases st with _ | ⟨a, _ | ⟨b, t⟩⟩ <;> (try cases a) <;> (try cases b) <;> cases h
def eRet (k : Nat) (i : Instr) (v : Option Value) : Prop := match i with
  | .ireturn => ∃ x ty, v = some (.int x) ∧ eRt.getD k none = some ty ∧ eFit ty (.int x) = true
  | .lreturn => ∃ x, v = some (.long x) ∧ eRt.getD k none = some .long
  | .areturn => ∃ h t, v = some (.ref h) ∧ eRt.getD k none = some (.array t)
  | .return_ => v = none ∧ eRt.getD k none = none
  | _ => False
theorem eRt_none {k : Nat} (h : eRt.getD k (some .int) = none) : eRt.getD k none = none := by
  rw [List.getD_eq_getElem?_getD] at h ⊢
  cases hq : eRt[k]? with
  | none => rw [hq] at h; cases h
  | some z => rw [hq] at h; exact h
theorem eCpy_ok {st st' : List Value} {AH AH' : eH} (h : eCpy st AH = some (st', AH')) : ∃ (n dp sp : Int32) (a b : Nat), st = .int n :: .int dp :: .ref b :: .int sp :: .ref a :: st' ∧ ¬ sp < 0 ∧ ¬ dp < 0 ∧ ¬ n < 0 ∧ eWords st' ≤ 8 ∧
    ((∃ n0 n1 f g, AH[a]? = some (.inl (0, n0, .inl f)) ∧ AH[b]? = some (.inl (0, n1, .inl g)) ∧ sp.toNatClampNeg + n.toNatClampNeg ≤ n0 ∧ dp.toNatClampNeg + n.toNatClampNeg ≤ n1 ∧ AH' = AH.set b (.inl (0, n1, .inl (va_cpy f g sp.toNatClampNeg dp.toNatClampNeg n.toNatClampNeg)))) ∨
    (∃ n0 n1 f g, AH[a]? = some (.inl (1, n0, .inr f)) ∧ AH[b]? = some (.inl (1, n1, .inr g)) ∧ sp.toNatClampNeg + n.toNatClampNeg ≤ n0 ∧ dp.toNatClampNeg + n.toNatClampNeg ≤ n1 ∧ AH' = AH.set b (.inl (1, n1, .inr (va_cpy f g sp.toNatClampNeg dp.toNatClampNeg n.toNatClampNeg))))) := by
  unfold eCpy at h
  split at h
  · rename_i n dp b sp a st1
    split at h
    · cases h
    · rename_i hn
      have h1 : ¬ sp < 0 := fun z => hn (Or.inl z)
      have h2 : ¬ dp < 0 := fun z => hn (Or.inr (Or.inl z))
      have h3 : ¬ n < 0 := fun z => hn (Or.inr (Or.inr z))
      split at h
      · rename_i n0 f n1 g e1 e2
        split at h
        · rename_i q1 q2 q3
          cases h
          exact ⟨n, dp, sp, a, b, rfl, h1, h2, h3, Nat.le_of_ble_eq_true q3, Or.inl ⟨n0, n1, f, g, e1, e2, Nat.le_of_ble_eq_true q1, Nat.le_of_ble_eq_true q2, rfl⟩⟩
        · cases h
      · rename_i n0 f n1 g e1 e2
        split at h
        · rename_i q1 q2 q3
          cases h
          exact ⟨n, dp, sp, a, b, rfl, h1, h2, h3, Nat.le_of_ble_eq_true q3, Or.inr ⟨n0, n1, f, g, e1, e2, Nat.le_of_ble_eq_true q1, Nat.le_of_ble_eq_true q2, rfl⟩⟩
        · cases h
      · cases h
  · cases h
section E5
variable {p : Program} {l : Launch} {e : Env} {R : Room} {s : State} {m : MethodId} {args : Array Value} {below : List Frame} {meth : Method} {c : Code} {H : Heap} {locs : List Loc} {cells slots : Nat} {Q : State → Prop}
variable {o : eO} {B : Nat} {ro : Nat → Nat} {cA : Nat → ClassId} {D : va_G} {k : Nat}
/-- a call's road through a contract -/
def eThru (l : Launch) (o : eO) (B : Nat) (ro : Nat → Nat) (cA : Nat → ClassId) (D : va_G) (p : Program) (e : Env) (R : Room) (s : State) (m : MethodId) (args : Array Value) (below : List Frame) (meth : Method) (c : Code) (H : Heap) (locs : List Loc) (cells slots : Nat) (Q : State → Prop) (q : Nat) (as : List Value) (AH : eH) (pc : Nat) (ls : Array Slot) (st st' : List Value) : Prop :=
  ∀ (v : Option Value) (AH1 : eH) (mc ms : Nat), Met l (eM q) (Cond.code (eM q) (eBy q) (eMx.getD q 0) (eRt.getD q none) :: eWs) { frames := eFr.getD q 0, cells := mc, slots := ms, locals := eLo.getD q 0 } (ePc o B ro cA D as AH) (eQc B ro cA D v AH1) mc ms (eA B) → cells + mc ≤ R.cells → slots + ms ≤ R.slots →
    (∀ H1 locs1, eIv B ro cA D AH1 s H1 locs1 → W p l e R s m args below meth c H1 locs1 (cells + mc) (slots + ms) Q (F0 m (pc + 3) ls ((v.map (eRe B ro)).toList ++ st'.map (eRe B ro)))) → W p l e R s m args below meth c H locs cells slots Q (F0 m pc ls (st.map (eRe B ro)))
theorem ePre_at (hF : eFx o B ro cA D k p s m args meth c) {AH : eH} {as : List Value} (hI : eIv B ro cA D AH s H locs) (hsz : H.size = B + AH.length) : ∀ U : State, U.heap = H → s.WarmedH U.vm → ePc o B ro cA D as AH (as.map (eRe B ro)).toArray U := by
  intro U hU hW
  obtain ⟨hx, hb, hml, hr, hlk, hin, hown, hts, hK, hRo⟩ := hF
  refine ⟨rfl, by rw [hU]; exact hsz, by rw [hU]; exact hI.1, va_K.moved hW.alike hK, ?_⟩
  rw [hU]
  exact eRo_kept hI.2.2.1 (eRo_warm hW hRo)
theorem eFits_ok {k q : Nat} {R : Room} (h : eFits k q = true) (h1 : eFr.getD k 0 ≤ R.frames) (h2 : eLo.getD k 0 ≤ R.locals) : eFr.getD q 0 + 1 ≤ R.frames ∧ 8 + (eMx.getD q 0 + 11) + eLo.getD q 0 ≤ R.locals := by
  unfold eFits at h
  simp only [Bool.and_eq_true] at h
  exact ⟨Nat.le_trans (Nat.le_of_ble_eq_true h.1) h1, Nat.le_trans (Nat.le_of_ble_eq_true h.2) h2⟩
theorem eSta_ok (hF : eFx o B ro cA D k p s m args meth c) {idx pc q : Nat} {L : eL} {st st' as : List Value} {AH : eH} {ls : Array Slot} (hd : decode (eBy k) pc = .ok (.invokestatic idx, 3)) (hl : eLc B ro ls (eMx.getD k 0) L) (hI : eIv B ro cA D AH s H locs) (hsz : H.size = B + AH.length)
    (hfi : eFits k q = true) (h1 : eFr.getD k 0 ≤ R.frames) (h2 : eLo.getD k 0 ≤ R.locals) (hq : eFind (eLs (eOwn k)) idx = some q) (hpop : ePop (eNa.getD q 0) [] st = some (as, st')) (hw : eWords st' ≤ 8) :
    eThru l o B ro cA D p e R s m args below meth c H locs cells slots Q q as AH pc ls st st' := by
  intro v AH1 mc ms hM hc hs kk
  have hF' := hF
  obtain ⟨hx, hb, hml, hr, hlk, hin, hown, hts, hK, hRo⟩ := hF
  have hm := eFind_mem hq
  have hlt := (eLsv_lt (eOwn k)).1 _ hm
  obtain ⟨-, hy, hdsc, -⟩ := eM_ok (show q < 203 by omega)
  obtain ⟨hlen, hst⟩ := ePop_st hpop
  refine eCalled hI.2 (va_runS (As := as.map (eRe B ro)) (rest := st'.map (eRe B ro)) ⟨hx, hb, hml, hown, hts⟩ hM ⟨callB_of (eNa.getD q 0) hts (eGoodIn hlt) rfl rfl rfl (hts _ (eLsI_in _ _ hm)) (hts _ (eLs_in _ _ hm)) ⟨hy.1, hy.2, hdsc⟩ (eFits_ok hfi h1 h2), hts _ (eLsS_in _ _ hm)⟩ ⟨ePc_blind o B ro cA D as AH, ePre_at hF' hI hsz⟩ rfl (by simp [hlen]) hl.1.1 (by rw [hst]; simp) (lv_room (by rw [eWords_eq]; exact hw)) hd ⟨hc, hs⟩) kk
theorem eVir_ok (hF : eFx o B ro cA D k p s m args meth c) {idx pc q hh cj : Nat} {fs : List Value} {L : eL} {st st' as : List Value} {AH : eH} {ls : Array Slot} (hd : decode (eBy k) pc = .ok (.invokevirtual idx, 3)) (hl : eLc B ro ls (eMx.getD k 0) L) (hI : eIv B ro cA D AH s H locs) (hsz : H.size = B + AH.length)
    (hfi : eFits k q = true) (h1 : eFr.getD k 0 ≤ R.frames) (h2 : eLo.getD k 0 ≤ R.locals) (hq : eFind (eLv (eOwn k)) idx = some q) (hpop : ePop (eNa.getD q 0) [] st = some (as, .ref hh :: st')) (hw : eWords st' ≤ 8) (hob : AH[hh]? = some (.inr (cj, fs))) (hcj : cj = eOwn q) (hc8 : cj < 8) :
    eThru l o B ro cA D p e R s m args below meth c H locs cells slots Q q (.ref hh :: as) AH pc ls st st' := by
  intro v AH1 mc ms hM hc hs kk
  have hF' := hF
  obtain ⟨hx, hb, hml, hr, hlk, hin, hown, hts, hK, hRo⟩ := hF
  have hm := eFind_mem hq
  have hlt := (eLsv_lt (eOwn k)).2.1 _ hm
  obtain ⟨hcl, hy, hdsc, -⟩ := eM_ok (show q < 203 by omega)
  obtain ⟨hlen, hst⟩ := ePop_st hpop
  obtain ⟨N, hcC, -⟩ := eCl_ok cj hc8
  have hrec := va_recv hK hI.1 hcC (eWd_get hob)
  rw [show (eN cj, eU cj, N).1 = (eM q).cls by rw [← hcl, hcj]] at hrec
  refine eCalled hI.2 (va_runV (C := (eM q).cls) (As := as.map (eRe B ro)) (rest := st'.map (eRe B ro)) ⟨hx, hb, hml, hown, hts⟩ hM ⟨callB_of (eNa.getD q 0) hts (eGoodIn hlt) rfl rfl rfl (hts _ (eLvI_in _ _ hm)) (hts _ (eLv_in _ _ hm)) ⟨hy.1, hy.2, hdsc⟩ (eFits_ok hfi h1 h2), hts _ (eLvM_in _ _ hm), hts _ (eLvS_in _ _ hm)⟩ ⟨ePc_blind o B ro cA D _ AH, hrec, ePre_at hF' hI hsz⟩ rfl (by simp [hlen]) hl.1.1 (by rw [hst]; simp [eRe]) (lv_room (by rw [eWords_eq]; exact hw)) hd ⟨hc, hs⟩) kk
theorem eVis_ok (hF : eFx o B ro cA D k p s m args meth c) {idx pc q : Nat} {L : eL} {st st' as : List Value} {AH : eH} {ls : Array Slot} (hd : decode (eBy k) pc = .ok (.invokevirtual idx, 3)) (hl : eLc B ro ls (eMx.getD k 0) L) (hI : eIv B ro cA D AH s H locs) (hsz : H.size = B + AH.length)
    (hfi : eFits k q = true) (h1 : eFr.getD k 0 ≤ R.frames) (h2 : eLo.getD k 0 ≤ R.locals) (hq : eFind (eLv (eOwn k)) idx = some q) (hpop : ePop (eNa.getD q 0) [] st = some (as, .retAddr 2 :: st')) (hw : eWords st' ≤ 8) (hcj : 11 = eOwn q) :
    eThru l o B ro cA D p e R s m args below meth c H locs cells slots Q q (.retAddr 2 :: as) AH pc ls st st' := by
  intro v AH1 mc ms hM hc hs kk
  have hF' := hF
  obtain ⟨hx, hb, hml, hr, hlk, hin, hown, hts, hK, hRo⟩ := hF
  have hm := eFind_mem hq
  have hlt := (eLsv_lt (eOwn k)).2.1 _ hm
  obtain ⟨hcl, hy, hdsc, -⟩ := eM_ok (show q < 203 by omega)
  obtain ⟨hlen, hst⟩ := ePop_st hpop
  have hrec : ∃ cell : Cell, H[ro 2]? = some cell ∧ cell.vm.isStatics = false ∧ s.vm.findClass (eM q).cls = some cell.cls := by
    obtain ⟨cell, g1, g2, g3, -⟩ := (hRo.2.2.2.2.2.2.1).kept hI.2.2.1
    refine ⟨cell, g1, g2, ?_⟩
    rw [← hcl, ← hcj]
    exact g3
  refine eCalled hI.2 (va_runV (C := (eM q).cls) (b := ro 2) (As := as.map (eRe B ro)) (rest := st'.map (eRe B ro)) ⟨hx, hb, hml, hown, hts⟩ hM ⟨callB_of (eNa.getD q 0) hts (eGoodIn hlt) rfl rfl rfl (hts _ (eLvI_in _ _ hm)) (hts _ (eLv_in _ _ hm)) ⟨hy.1, hy.2, hdsc⟩ (eFits_ok hfi h1 h2), hts _ (eLvM_in _ _ hm), hts _ (eLvS_in _ _ hm)⟩ ⟨ePc_blind o B ro cA D _ AH, hrec, ePre_at hF' hI hsz⟩ rfl (by simp [hlen]) hl.1.1 (by rw [hst]; simp [eRe]) (lv_room (by rw [eWords_eq]; exact hw)) hd ⟨hc, hs⟩) kk
theorem eSpe_ok (hF : eFx o B ro cA D k p s m args meth c) {idx pc q hh : Nat} {L : eL} {st' : List Value} {AH : eH} {ls : Array Slot} (hd : decode (eBy k) pc = .ok (.invokespecial idx, 3)) (hl : eLc B ro ls (eMx.getD k 0) L) (hI : eIv B ro cA D AH s H locs) (hsz : H.size = B + AH.length)
    (hfi : eFits k q = true) (h1 : eFr.getD k 0 ≤ R.frames) (h2 : eLo.getD k 0 ≤ R.locals) (hq : eFind (eLi (eOwn k)) idx = some q) (hna : eNa.getD q 0 = 0) (hret : eRt.getD q none = none) (hw : eWords st' ≤ 8) :
    eThru l o B ro cA D p e R s m args below meth c H locs cells slots Q q [.ref hh] AH pc ls (.ref hh :: st') st' := by
  intro v AH1 mc ms hM hc hs kk
  have hF' := hF
  obtain ⟨hx, hb, hml, hr, hlk, hin, hown, hts, hK, hRo⟩ := hF
  have hm := eFind_mem hq
  obtain ⟨hini, hlt⟩ := (eLsv_lt (eOwn k)).2.2.1 _ hm
  obtain ⟨-, hy, hdsc, -, hnm⟩ := eM_ok (show q < 203 by omega)
  have hB := callB_of (R := R) (own := eN (eOwn k)) (index := idx) (mc := mc) (ms := ms) (rm := { frames := eFr.getD q 0, cells := mc, slots := ms, locals := eLo.getD q 0 }) (eNa.getD q 0) hts (eGoodIn hlt) rfl rfl rfl (hts _ (eLiI_in _ _ hm)) (hts _ (eLi_in _ _ hm)) ⟨hy.1, hy.2, hdsc⟩ (eFits_ok hfi h1 h2)
  rw [hret] at hM hB
  refine eCalled hI.2 (va_runI (b := B + hh) (As := []) (rest := st'.map (eRe B ro)) ⟨hx, hb, hml, hown, hts⟩ hM ⟨hB, hnm hini, hts _ (eLiM_in _ _ hm)⟩ ⟨ePc_blind o B ro cA D _ AH, ePre_at hF' hI hsz⟩ rfl hna.symm hl.1.1 rfl (lv_room (by rw [eWords_eq]; exact hw)) hd ⟨hc, hs⟩) kk
theorem eSpn_ok (hF : eFx o B ro cA D k p s m args meth c) {idx pc q hh : Nat} {L : eL} {st' : List Value} {AH : eH} {ls : Array Slot} (hd : decode (eBy k) pc = .ok (.invokespecial idx, 3)) (hl : eLc B ro ls (eMx.getD k 0) L) (hI : eIv B ro cA D AH s H locs) (hsz : H.size = B + AH.length)
    (hfi : eFits k q = true) (h1 : eFr.getD k 0 ≤ R.frames) (h2 : eLo.getD k 0 ≤ R.locals) (hq : eFind (eLm (eOwn k)) idx = some q) (hna : eNa.getD q 0 = 0) (hret : eRt.getD q none = none) (hw : eWords st' ≤ 8) :
    eThru l o B ro cA D p e R s m args below meth c H locs cells slots Q q [.ref hh] AH pc ls (.ref hh :: st') st' := by
  intro v AH1 mc ms hM hc hs kk
  have hF' := hF
  obtain ⟨hx, hb, hml, hr, hlk, hin, hown, hts, hK, hRo⟩ := hF
  have hm := eFind_mem hq
  obtain ⟨⟨hini, hlt⟩, ho6⟩ := (eLsv_lt (eOwn k)).2.2.2 _ hm
  obtain ⟨-, hy, hdsc, -, hnm⟩ := eM_ok (show q < 203 by omega)
  have hmM := eLmM_in _ _ hm
  have hmI := eLmI_in _ _ hm
  rw [ho6] at hm
  have hB := va_cnB (R := R) (own := eN (eOwn k)) (host := "DownAsUp") (index := idx) (mc := mc) (ms := ms) (rm := { frames := eFr.getD q 0, cells := mc, slots := ms, locals := eLo.getD q 0 }) (eNa.getD q 0) hts (eGoodIn hlt) rfl rfl rfl (by rw [ho6]; exact hRo.2.2.2.2.2.2.2.2.2 _ hm) (hts _ hmI) ⟨hy.1, hy.2, hdsc⟩ (eFits_ok hfi h1 h2)
  rw [hret] at hM hB
  refine eCalled hI.2 (va_runIN (b := B + hh) (As := []) (rest := st'.map (eRe B ro)) ⟨hx, hb, hml, hown, hts⟩ hM ⟨hB, hnm hini, hts _ hmM⟩ ⟨ePc_blind o B ro cA D _ AH, ePre_at hF' hI hsz⟩ rfl hna.symm hl.1.1 rfl (lv_room (by rw [eWords_eq]; exact hw)) hd ⟨hc, hs⟩) kk
end E5
