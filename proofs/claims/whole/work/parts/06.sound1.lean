/-! ===== what the engine's words are over the real machine ===== -/
def eRe (B : Nat) (ro : Nat → Nat) : Value → Value
  | .ref h => .ref (B + h)
  | .retAddr k => .ref (ro k)
  | v => v
def eReC (B : Nat) (ro : Nat → Nat) (cA : Nat → ClassId) : eC → va_E
  | .inl (t, n, .inl f) => .inl (cA t, n, .inl f)
  | .inl (t, n, .inr f) => .inl (cA t, n, .inr (.inl f))
  | .inr (ci, fs) => .inr (ci, fs.map (eRe B ro))
def eWd (B : Nat) (ro : Nat → Nat) (cA : Nat → ClassId) (H : eH) : va_W := H.mapIdx (fun i e => (B + i, eReC B ro cA e))
def eTys (cA : Nat → ClassId) : List (ClassId × FieldType) := [(cA 0, .int), (cA 1, .long), (cA 2, .boolean), (cA 3, .char), (cA 4, .byte)]
def eA (B : Nat) : Nat → Prop := fun q => B ≤ q
theorem eRe_cat (B : Nat) (ro : Nat → Nat) (v : Value) : (eRe B ro v).category = v.category := by cases v <;> rfl
theorem eWd_get {B : Nat} {ro : Nat → Nat} {cA : Nat → ClassId} {H : eH} {h : Nat} {e : eC} (he : H[h]? = some e) : (eWd B ro cA H)[h]? = some (B + h, eReC B ro cA e) := by
  simp [eWd, he]
theorem eWd_set {B : Nat} {ro : Nat → Nat} {cA : Nat → ClassId} {H : eH} {h : Nat} {e : eC} : (eWd B ro cA H).set h (B + h, eReC B ro cA e) = eWd B ro cA (H.set h e) := by
  apply List.ext_getElem?
  intro i
  simp only [eWd, List.getElem?_set, List.getElem?_mapIdx, List.length_mapIdx]
  by_cases hi : h = i
  · subst hi
    by_cases hl : h < H.length <;> simp [hl]
  · simp [hi]
theorem eWd_app {B : Nat} {ro : Nat → Nat} {cA : Nat → ClassId} {H : eH} {e : eC} : eWd B ro cA (H ++ [e]) = eWd B ro cA H ++ [(B + H.length, eReC B ro cA e)] := by
  simp [eWd, List.mapIdx_append]
theorem eWd_at {B : Nat} {ro : Nat → Nat} {cA : Nat → ClassId} {H : eH} {k : Nat} {q : Nat × va_E} (h : (eWd B ro cA H)[k]? = some q) : q.1 = B + k ∧ k < H.length := by
  simp only [eWd, List.getElem?_mapIdx, Option.map_eq_some_iff] at h
  obtain ⟨e, he, rfl⟩ := h
  exact ⟨rfl, (List.getElem?_eq_some_iff.mp he).1⟩
theorem eWd_D (B : Nat) (ro : Nat → Nat) (cA : Nat → ClassId) (H : eH) : va_D (eA B) (eWd B ro cA H) := by
  refine ⟨fun i j p q hi hj hpq => ?_, fun k q hk => ?_⟩
  · have h1 := (eWd_at hi).1
    have h2 := (eWd_at hj).1
    omega
  · have h1 := (eWd_at hk).1
    show B ≤ q.1
    omega
/-! locals -/
def ePairs (B : Nat) (ro : Nat → Nat) (L : eL) : List (Nat × Value) := (List.range L.length).filterMap (fun i => (eLd L i).map (fun v => (i, eRe B ro v)))
theorem eLd_lt {L : eL} {i : Nat} {v : Value} (h : eLd L i = some v) : L[i]? = some (some v) := by
  unfold eLd at h
  split at h
  · next w hw => cases h; exact hw
  · cases h
theorem eLd_of {L : eL} {i : Nat} {v : Value} (h : L[i]? = some (some v)) : eLd L i = some v := by
  unfold eLd; rw [h]
theorem ePairs_in {B : Nat} {ro : Nat → Nat} {L : eL} {i : Nat} {v : Value} (h : eLd L i = some v) : (i, eRe B ro v) ∈ ePairs B ro L := by
  have hl : i < L.length := (List.getElem?_eq_some_iff.mp (eLd_lt h)).1
  exact List.mem_filterMap.mpr ⟨i, List.mem_range.mpr hl, by rw [h]; rfl⟩
theorem ePairs_of {B : Nat} {ro : Nat → Nat} {L : eL} {q : Nat × Value} (h : q ∈ ePairs B ro L) : ∃ v, eLd L q.1 = some v ∧ q.2 = eRe B ro v := by
  obtain ⟨i, -, hi⟩ := List.mem_filterMap.mp h
  obtain ⟨v, hv, rfl⟩ := Option.map_eq_some_iff.mp hi
  exact ⟨v, hv, rfl⟩
def eLc (B : Nat) (ro : Nat → Nat) (ls : Array Slot) (n : Nat) (L : eL) : Prop := lv_has ls n (ePairs B ro L) ∧ L.length = n
theorem eLc_get {B : Nat} {ro : Nat → Nat} {ls : Array Slot} {n : Nat} {L : eL} {i : Nat} {v : Value} (h : eLc B ro ls n L) (hv : eLd L i = some v) : ls[i]? = some (.val (eRe B ro v)) := h.1.2.2 (i, eRe B ro v) (ePairs_in hv)
theorem eLc_of {B : Nat} {ro : Nat → Nat} {ls : Array Slot} {n : Nat} {L : eL} {lv : List (Nat × Value)} (h : lv_has ls n lv) (hl : L.length = n) (hi : ∀ i v, eLd L i = some v → (i, eRe B ro v) ∈ lv) : eLc B ro ls n L := by
  refine ⟨⟨h.1, h.2.1, fun q hq => ?_⟩, hl⟩
  obtain ⟨v, hv, e⟩ := ePairs_of hq
  rw [e]
  exact h.2.2 _ (hi _ _ hv)
theorem eKill_len (L : eL) (i : Nat) : (eKill L i).length = L.length := by
  cases i with
  | zero => rfl
  | succ i => simp only [eKill]; split <;> first | rfl | simp
theorem eKill_get {L : eL} {i j : Nat} {w : Value} (h : eLd (eKill L i) j = some w) : eLd L j = some w ∧ ¬ (j + 1 = i ∧ w.category = 2) := by
  cases i with
  | zero => exact ⟨h, fun q => absurd q.1 (by omega)⟩
  | succ i =>
    simp only [eKill] at h
    have key : ∀ (hs : eLd (L.set i none) j = some w), eLd L j = some w ∧ ¬ (j + 1 = i + 1 ∧ w.category = 2) := by
      intro hs
      have h1 := eLd_lt hs
      by_cases hj : i = j
      · subst hj
        rw [List.getElem?_set_self'] at h1
        cases hq : L[i]? <;> rw [hq] at h1 <;> simp at h1
      · rw [List.getElem?_set_ne hj] at h1
        exact ⟨eLd_of h1, fun q => hj (by omega)⟩
    split at h
    · exact key h
    · exact key h
    · next h2 h3 =>
      refine ⟨h, fun q => ?_⟩
      have h1 := eLd_lt h
      have hj : j = i := by omega
      subst hj
      cases w with
      | long x => exact h2 x h1
      | double x => exact h3 x h1
      | _ => exact absurd q.2 (by simp [Value.category])
theorem eSt1_get {L : eL} {i j : Nat} {v w : Value} (h : eLd (eSt1 L i v) j = some w) : (j = i ∧ w = v) ∨ (j ≠ i ∧ eLd L j = some w ∧ ¬ (j + 1 = i ∧ w.category = 2)) := by
  by_cases hj : j = i
  · subst hj
    have h1 := eLd_lt h
    unfold eSt1 at h1
    rw [List.getElem?_set_self'] at h1
    cases hq : (eKill L j)[j]? <;> rw [hq] at h1 <;> simp at h1
    exact Or.inl ⟨rfl, h1.symm⟩
  · have h1 := eLd_lt h
    unfold eSt1 at h1
    rw [List.getElem?_set_ne (Ne.symm hj)] at h1
    exact Or.inr ⟨hj, eKill_get (eLd_of h1)⟩
theorem eLc_st1 {B : Nat} {ro : Nat → Nat} {ls' : Array Slot} {n : Nat} {L : eL} {i : Nat} {v : Value} (hlen : L.length = n)
    (h : lv_has ls' n ((i, eRe B ro v) :: (ePairs B ro L).filter (fun q => !(q.1 == i) && !(q.1 + 1 == i && q.2.category == 2)))) : eLc B ro ls' n (eSt1 L i v) := by
  refine eLc_of h (by unfold eSt1; rw [List.length_set, eKill_len, hlen]) fun j w hw => ?_
  rcases eSt1_get hw with ⟨rfl, rfl⟩ | ⟨h1, h2, h3⟩
  · exact List.mem_cons_self
  · refine List.mem_cons_of_mem _ (List.mem_filter.mpr ⟨ePairs_in h2, ?_⟩)
    simp only [Bool.and_eq_true, Bool.not_eq_true', beq_eq_false_iff_ne, ne_eq, Bool.and_eq_false_iff, eRe_cat]
    refine ⟨h1, ?_⟩
    by_cases h4 : j + 1 = i
    · exact Or.inr fun q => h3 ⟨h4, q⟩
    · exact Or.inl h4
theorem eLc_st2 {B : Nat} {ro : Nat → Nat} {ls' : Array Slot} {n : Nat} {L : eL} {i : Nat} {v : Value} (hlen : L.length = n)
    (h : lv_has ls' n ((i, eRe B ro v) :: (ePairs B ro L).filter (fun q => !(q.1 == i) && (!(q.1 == i + 1) && !(q.1 + 1 == i && q.2.category == 2))))) : eLc B ro ls' n (eSt2 L i v) := by
  refine eLc_of h (by unfold eSt2; rw [List.length_set, List.length_set, eKill_len, hlen]) fun j w hw => ?_
  by_cases hj : j = i + 1
  · subst hj
    have h1 := eLd_lt hw
    unfold eSt2 at h1
    rw [List.getElem?_set_self'] at h1
    cases hq : ((eKill L i).set i (some v))[i + 1]? <;> rw [hq] at h1 <;> simp at h1
  · have hw' : eLd (eSt1 L i v) j = some w := by
      have h1 := eLd_lt hw
      unfold eSt2 at h1
      rw [List.getElem?_set_ne (Ne.symm hj)] at h1
      exact eLd_of h1
    rcases eSt1_get hw' with ⟨rfl, rfl⟩ | ⟨h1, h2, h3⟩
    · exact List.mem_cons_self
    · refine List.mem_cons_of_mem _ (List.mem_filter.mpr ⟨ePairs_in h2, ?_⟩)
      simp only [Bool.and_eq_true, Bool.not_eq_true', beq_eq_false_iff_ne, ne_eq, Bool.and_eq_false_iff, eRe_cat]
      refine ⟨h1, hj, ?_⟩
      by_cases h4 : j + 1 = i
      · exact Or.inr fun q => h3 ⟨h4, q⟩
      · exact Or.inl h4
