/-! dead locals may be forgotten: the engine does no less with more of them known -/
def eSub (L L' : eL) : Prop := L.length = L'.length ∧ ∀ (i : Nat) (v : Value), L[i]? = some (some v) → L'[i]? = some (some v)
theorem eSub_rfl {L : eL} : eSub L L := ⟨rfl, fun _ _ h => h⟩
theorem eSub_set {L L' : eL} (h : eSub L L') (i : Nat) (x : Option Value) : eSub (L.set i x) (L'.set i x) := by
  refine ⟨by rw [List.length_set, List.length_set]; exact h.1, fun j v hj => ?_⟩
  by_cases e : i = j
  · subst e
    have hl : i < L.length := by
      have := (List.getElem?_eq_some_iff.mp hj).1
      rw [List.length_set] at this
      exact this
    rw [List.getElem?_set_self hl] at hj
    rw [List.getElem?_set_self (by rw [← h.1]; exact hl)]
    exact hj
  · rw [List.getElem?_set_ne e] at hj ⊢
    exact h.2 j v hj
theorem eSub_none {L L' : eL} (h : eSub L L') (i : Nat) : eSub (L.set i none) L' := by
  refine ⟨by rw [List.length_set]; exact h.1, fun j v hj => ?_⟩
  by_cases e : i = j
  · subst e
    have hl : i < L.length := by
      have := (List.getElem?_eq_some_iff.mp hj).1
      rw [List.length_set] at this
      exact this
    rw [List.getElem?_set_self hl] at hj
    cases hj
  · rw [List.getElem?_set_ne e] at hj
    exact h.2 j v hj
theorem eKill_s (M : eL) (i : Nat) : eKill M (i + 1) = match M[i]? with
    | some (some (.long _)) => M.set i none
    | some (some (.double _)) => M.set i none
    | _ => M := rfl
theorem eSub_kill {L L' : eL} (h : eSub L L') (i : Nat) : eSub (eKill L i) (eKill L' i) := by
  cases i with
  | zero => exact h
  | succ i =>
    have key : ∀ M : eL, eKill M (i + 1) = M ∨ (eKill M (i + 1) = M.set i none) := by
      intro M
      rw [eKill_s]
      split <;> first | exact Or.inr rfl | exact Or.inl rfl
    cases hL : L[i]? with
    | none =>
      have e1 : eKill L (i + 1) = L := by rw [eKill_s, hL]
      have e2 : L'[i]? = none := by
        rw [List.getElem?_eq_none_iff] at hL ⊢
        rw [← h.1]; exact hL
      have e3 : eKill L' (i + 1) = L' := by rw [eKill_s, e2]
      rw [e1, e3]; exact h
    | some x =>
      cases x with
      | none =>
        have e1 : eKill L (i + 1) = L := by rw [eKill_s, hL]
        rw [e1]
        rcases key L' with e | e
        · rw [e]; exact h
        · rw [e]
          refine ⟨by rw [List.length_set]; exact h.1, fun j v hj => ?_⟩
          by_cases e : i = j
          · subst e
            rw [hL] at hj
            cases hj
          · rw [List.getElem?_set_ne e]
            exact h.2 j v hj
      | some v =>
        have hL' := h.2 i v hL
        have e : eKill L (i + 1) = eKill L (i + 1) := rfl
        cases v <;> (simp only [eKill_s, hL, hL']; first | exact h | exact eSub_set h i none)
theorem eSub_st1 {L L' : eL} (h : eSub L L') (i : Nat) (v : Value) : eSub (eSt1 L i v) (eSt1 L' i v) := eSub_set (eSub_kill h i) i _
theorem eSub_st2 {L L' : eL} (h : eSub L L') (i : Nat) (v : Value) : eSub (eSt2 L i v) (eSt2 L' i v) := eSub_set (eSub_set (eSub_kill h i) i _) (i + 1) _
theorem eSub_ld {L L' : eL} (h : eSub L L') {i : Nat} {v : Value} (e : eLd L i = some v) : eLd L' i = some v := by
  unfold eLd at e ⊢
  split at e
  · next w hw =>
    cases e
    rw [h.2 i v hw]
  · cases e
/-- what a step leaves, up to known locals -/
def eSubR : eR → eR → Prop
  | .inl (pc, L, st, H), q => ∃ L', q = .inl (pc, L', st, H) ∧ eSub L L'
  | .inr (.inl r), q => q = .inr (.inl r)
  | .inr (.inr (k, as, (pc, L, st, H))), q => ∃ L', q = .inr (.inr (k, as, (pc, L', st, H))) ∧ eSub L L'
theorem eLoc_sub {own : Nat} {i : Instr} {pc : Nat} {L L' : eL} {st : List Value} {H : eH} {q : eR} (hs : eSub L L') (h : eLoc own i pc L st H = some q) : ∃ q', eLoc own i pc L' st H = some q' ∧ eSubR q q' := by
  unfold eLoc at h
  split at h <;> (try split at h) <;> (try split at h) <;> (try cases h) <;> (try simp only [ePush] at h) <;> (try cases h) <;> (first | (refine ⟨.inl (_, L', _, _), ?_, L', rfl, hs⟩; simp only [eLoc, ePush, *]; done) | skip)
  all_goals first | (refine ⟨.inl (_, L', _, _), ?_, L', rfl, hs⟩; simp only [eLoc, ePush]; rw [eSub_ld hs (by assumption)]; done) | exact ⟨_, rfl, _, rfl, eSub_st1 hs _ _⟩ | exact ⟨_, rfl, _, rfl, eSub_st2 hs _ _⟩ | (refine ⟨.inl (_, _, _, _), ?_, _, rfl, eSub_st1 hs _ _⟩; simp only [eLoc]; rw [eSub_ld hs (by assumption)]; done) | (refine ⟨.inl (_, L', _, _), ?_, L', rfl, hs⟩; simp only [eLoc]; rw [if_pos (by assumption)]; done) | (refine ⟨.inl (_, L', _, _), ?_, L', rfl, hs⟩; simp only [eLoc]; rw [if_neg (by assumption)]; done)
theorem eAri_sub {i : Instr} {pc : Nat} {L L' : eL} {st : List Value} {H : eH} {q : eR} (hs : eSub L L') (h : eAri i pc L st H = some q) : ∃ q', eAri i pc L' st H = some q' ∧ eSubR q q' := by
  unfold eAri at h
  split at h <;> (try split at h) <;> (try cases h) <;> (refine ⟨.inl (_, L', _, _), ?_, L', rfl, hs⟩; first | rfl | (simp only [eAri, ePush]; rw [if_neg (by assumption)]))
theorem eHp_sub {o : eO} {own : Nat} {ini : Bool} {i : Instr} {pc : Nat} {L L' : eL} {st : List Value} {H : eH} {q : eR} (hs : eSub L L') (h : eHp o own ini i pc L st H = some q) : ∃ q', eHp o own ini i pc L' st H = some q' ∧ eSubR q q' := by
  unfold eHp at h
  split at h
  all_goals repeat' (first | (cases h; done) | (split at h))
  all_goals (try simp only [ePush] at h)
  all_goals (cases h; refine ⟨.inl (_, L', _, _), ?_, L', rfl, hs⟩; simp only [eHp, ePush, *]; try (rw [if_neg not_false]))
theorem eCall_sub {k own : Nat} {i : Instr} {pc : Nat} {L L' : eL} {st : List Value} {H : eH} {q : eR} (hs : eSub L L') (h : eCall k own i pc L st H = some q) : ∃ q', eCall k own i pc L' st H = some q' ∧ eSubR q q' := by
  unfold eCall at h
  split at h
  all_goals repeat' (first | (cases h; done) | (split at h))
  all_goals (cases h; first | (refine ⟨.inl (_, L', _, _), ?_, L', rfl, hs⟩; simp only [eCall, *]; done) | (refine ⟨.inr (.inr (_, _, (_, L', _, _))), ?_, L', rfl, hs⟩; simp only [eCall, *]; done) | (refine ⟨_, ?_, rfl⟩; simp only [eCall, *]; done))
theorem eStep_sub {o : eO} {k : Nat} {i : Instr} {pc : Nat} {L L' : eL} {st : List Value} {H : eH} {q : eR} (hs : eSub L L') (h : eStep o k i pc L st H = some q) : ∃ q', eStep o k i pc L' st H = some q' ∧ eSubR q q' := by
  unfold eStep at h ⊢
  split at h
  · exact eLoc_sub hs h
  · exact eAri_sub hs h
  · exact eHp_sub hs h
  · exact eCall_sub hs h
theorem eX_sub {o : eO} : ∀ {n k pc : Nat} {L L' : eL} {st : List Value} {H : eH} {r : Option Value × eH}, eSub L L' → eX o n k pc L st H = some r → eX o n k pc L' st H = some r := by
  intro n
  induction n with
  | zero => intro k pc L L' st H r hs h; cases h
  | succ n ih =>
    intro k pc L L' st H r hs h
    unfold eX at h ⊢
    cases hat : eAt k pc with
    | none => rw [hat] at h; cases h
    | some il =>
      obtain ⟨i, len⟩ := il
      rw [hat] at h
      dsimp only at h ⊢
      cases hst : eStep o k i pc L st H with
      | none => rw [hst] at h; cases h
      | some q =>
        rw [hst] at h
        obtain ⟨q', h1, h2⟩ := eStep_sub hs hst
        rw [h1]
        rcases q with ⟨pc', L1, st', H'⟩ | w | ⟨q, as, pc', L1, st', H'⟩
        · obtain ⟨L2, rfl, h3⟩ := h2
          exact ih h3 h
        · cases h2
          exact h
        · obtain ⟨L2, rfl, h3⟩ := h2
          dsimp only at h ⊢
          cases hle : Nat.ble (eArgs as).length (eMx.getD q 0) with
          | false => rw [hle] at h; cases h
          | true =>
            cases hx : eX o n q 0 (eEnt q as) [] H' with
            | none => rw [hle, hx] at h; cases h
            | some z =>
              obtain ⟨w, H1⟩ := z
              rw [hle, hx] at h
              exact ih h3 h
def eMask : List Bool → eL → eL
  | true :: m, _ :: l => none :: eMask m l
  | false :: m, x :: l => x :: eMask m l
  | _, l => l
theorem eSub_mask : ∀ (m : List Bool) (L : eL), eSub (eMask m L) L := by
  intro m
  induction m with
  | nil => intro L; unfold eMask; exact eSub_rfl
  | cons b m ih =>
    intro L
    cases L with
    | nil => cases b <;> exact eSub_rfl
    | cons x l =>
      have h := ih l
      cases b
      · refine ⟨congrArg (· + 1) h.1, fun i v hi => ?_⟩
        cases i with
        | zero => exact hi
        | succ i => exact h.2 i v hi
      · refine ⟨congrArg (· + 1) h.1, fun i v hi => ?_⟩
        cases i with
        | zero => cases hi
        | succ i => exact h.2 i v hi
/-- forget some locals -/
theorem g_fgt (m : List Bool) {o : eO} {k pc : Nat} {L : eL} {st : List Value} {H : eH} {r : eP} (g : eG o k pc (eMask m L) st H r) : eG o k pc L st H r := by
  obtain ⟨n, v, h1, h2⟩ := g
  exact ⟨n, v, eX_sub (eSub_mask m L) h1, h2⟩
