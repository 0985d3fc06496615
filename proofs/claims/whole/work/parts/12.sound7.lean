/-! ===== the engine is sound ===== -/
def eSim (l : Launch) (o : eO) (B : Nat) (ro : Nat → Nat) (cA : Nat → ClassId) (D : va_G) (k pc : Nat) (L : eL) (st : List Value) (AH : eH) (v : Option Value) (AH1 : eH) : Prop :=
  ∀ (p : Program) (e : Env) (R : Room) (s : State) (m : MethodId) (args : Array Value) (below : List Frame) (meth : Method) (c : Code) (H : Heap) (locs : List Loc) (cells slots : Nat) (Q : State → Prop) (ls : Array Slot) (len0 tot0 : Nat),
    eFx o B ro cA D k p s m args meth c → eIv B ro cA D AH s H locs → eLc B ro ls (eMx.getD k 0) L → s.heap.size = B + len0 → cells + len0 = AH.length → slots + tot0 = eTot AH → AH1.length ≤ R.cells + len0 → eTot AH1 ≤ R.slots + tot0 → eFr.getD k 0 ≤ R.frames → eLo.getD k 0 ≤ R.locals →
    (∀ (i : Instr) (pc' : Nat) (ls' : Array Slot) (H' : Heap) (locs' : List Loc) (cells' slots' : Nat), decode (eBy k) pc' = .ok (i, 1) → eRet k i v → eIv B ro cA D AH1 s H' locs' → cells' + len0 = AH1.length → slots' + tot0 = eTot AH1 → W p l e R s m args below meth c H' locs' cells' slots' Q (F0 m pc' ls' ((v.map (eRe B ro)).toList))) →
    W p l e R s m args below meth c H locs cells slots Q (F0 m pc ls (st.map (eRe B ro)))
theorem eMet {l : Launch} {o : eO} {B : Nat} {ro : Nat → Nat} {cA : Nat → ClassId} {D : va_G} {q : Nat} {as : List Value} {AH AH1 : eH} {v : Option Value} (hs : eSim l o B ro cA D q 0 (eEnt q as) [] AH v AH1) (hm1 : AH.length ≤ AH1.length) (hm2 : eTot AH ≤ eTot AH1) (hq : q < 202) (hne : q ≠ 36 ∧ q ≠ 37 ∧ q ≠ 84) (ha : (eArgs as).length ≤ eMx.getD q 0) :
    Met l (eM q) (Cond.code (eM q) (eBy q) (eMx.getD q 0) (eRt.getD q none) :: eWs) { frames := eFr.getD q 0, cells := AH1.length - AH.length, slots := eTot AH1 - eTot AH, locals := eLo.getD q 0 } (ePc o B ro cA D as AH) (eQc B ro cA D v AH1) (AH1.length - AH.length) (eTot AH1 - eTot AH) (eA B) := by
  obtain ⟨hcl, hy, hdsc, hpl, hnm⟩ := eM_ok (show q < 203 by omega)
  have hpl : plainName (eM q).cls = true := by
    rcases hpl with h | h | h | h
    · exact h
    · exact absurd h hne.1
    · exact absurd h hne.2.1
    · exact absurd h hne.2.2
  refine Met.ofW (cc := eBy q) (maxL := eMx.getD q 0) (ret := eRt.getD q none) hpl rfl ?_
  intro p e s m args below meth c s₁ Bd hml hv
  obtain ⟨rfl, hsz, hP, hK, hRo⟩ := hv
  have hts0 := atoms_spec (ws := Cond.code (eM q) (eBy q) (eMx.getD q 0) (eRt.getD q none) :: eWs) Bd.pre
  have hts : ∀ w ∈ eWs, w.before (as.map (eRe B ro)).toArray s = true := fun w hw => hts0 w (List.mem_cons_of_mem _ hw)
  have hown : s.vm.findClass (eM q).cls = some m.cls := findClass_of_methodNamed Bd.named
  rw [lg_entry_eq]
  refine hs p e _ s m _ below meth c s.heap [] 0 0 _ _ AH.length (eTot AH) ⟨Bd.exec, Bd.bytes, hml, Bd.returns, Bd.notSynchronized, fun hi => (name_of_methodNamed Bd.named Bd.method).1.trans (hnm hi), by rw [hcl]; exact hown, hts, hK, hRo⟩ ⟨hP, va_S.rf⟩ (eEnt_ok ha) hsz (Nat.zero_add _) (Nat.zero_add _) (by show AH1.length ≤ AH1.length - AH.length + AH.length; omega) (by show eTot AH1 ≤ eTot AH1 - eTot AH + eTot AH; omega) (Nat.le_refl _) (Nat.le_refl _) ?_
  intro i pc' ls' H' locs' cells' slots' hd hr hI hc1 hc2
  have e1 : cells' = AH1.length - AH.length := by omega
  have e2 : slots' = eTot AH1 - eTot AH := by omega
  subst e1
  subst e2
  have hqc : ∀ t : State, t.heap = H' → s.WarmedH t.vm → eQc B ro cA D v AH1 (as.map (eRe B ro)).toArray s (.returned (v.map (eRe B ro))) t := by
    intro t ht _
    refine ⟨rfl, by rw [ht]; exact hI.1, by rw [ht]; exact hI.2.1, fun a g1 g2 => by rw [ht]; exact hI.2.2.1 a g1 g2⟩
  cases i with
  | ireturn =>
    obtain ⟨x, ty, rfl, h1, h2⟩ := hr
    exact W.zret (v := x) Bd.exec Bd.bytes (Bd.returns.trans h1) (eFit_ok (B := B) (ro := ro) h2).1 hqc hI.2.2.2 hd Bd.notSynchronized
  | lreturn =>
    obtain ⟨x, rfl, h1⟩ := hr
    exact W.lret (v := x) Bd.exec Bd.bytes (Bd.returns.trans h1) hqc hI.2.2.2 hd Bd.notSynchronized
  | areturn =>
    obtain ⟨x, t, rfl, h1⟩ := hr
    exact W.aret (v := .ref (B + x)) Bd.exec Bd.bytes (Bd.returns.trans h1) (Or.inr ⟨_, rfl⟩) (Or.inr ⟨_, rfl⟩) hqc hI.2.2.2 hd Bd.notSynchronized
  | return_ =>
    obtain ⟨rfl, h1⟩ := hr
    exact W.vret Bd.exec Bd.bytes (Bd.returns.trans h1) hqc hI.2.2.2 hd Bd.notSynchronized
  | _ => exact hr.elim
/-! shapes -/
theorem eLoc_sh {own : Nat} {i : Instr} {pc : Nat} {L : eL} {st : List Value} {AH : eH} {r : eR} (h : eLoc own i pc L st AH = some r) : ∃ pc' L' st', r = .inl (pc', L', st', AH) := by
  cases i <;> simp only [eLoc, ePush] at h <;> (repeat' split at h) <;> first | (cases h; exact ⟨_, _, _, rfl⟩) | cases h
theorem eAri_sh {i : Instr} {pc : Nat} {L : eL} {st : List Value} {AH : eH} {r : eR} (h : eAri i pc L st AH = some r) : ∃ pc' st', r = .inl (pc', L, st', AH) := by
  unfold eAri ePush at h
  (repeat' split at h) <;> first | (cases h; exact ⟨_, _, rfl⟩) | cases h
theorem eHp_sh {o : eO} {own : Nat} {ini : Bool} {i : Instr} {pc : Nat} {L : eL} {st : List Value} {AH : eH} {r : eR} (h : eHp o own ini i pc L st AH = some r) : ∃ pc' st' AH', r = .inl (pc', L, st', AH') ∧ AH.length ≤ AH'.length ∧ eTot AH ≤ eTot AH' := by
  unfold eHp ePush at h
  (repeat' split at h) <;> first | (cases h; exact ⟨_, _, _, rfl, Nat.le_refl _, Nat.le_refl _⟩) | (cases h; refine ⟨_, _, _, rfl, by simp, ?_⟩; rw [eTot_app]; omega) | (cases h; refine ⟨_, _, _, rfl, by simp, ?_⟩; rw [eTot_set (by assumption) (by simp [eSz])]; exact Nat.le_refl _) | cases h
