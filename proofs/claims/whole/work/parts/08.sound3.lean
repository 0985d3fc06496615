section E2
variable {p : Program} {l : Launch} {e : Env} {R : Room} {s : State} {m : MethodId} {args : Array Value} {below : List Frame} {meth : Method} {c : Code} {H : Heap} {locs : List Loc} {cells slots : Nat} {Q : State → Prop}
variable {o : eO} {B : Nat} {ro : Nat → Nat} {cA : Nat → ClassId} {D : va_G} {k : Nat}
/-- arithmetic -/
theorem eAri_ok (hF : eFx o B ro cA D k p s m args meth c) {i : Instr} {pc len : Nat} {L : eL} {st : List Value} {AH : eH} {r : eR} {ls : Array Slot}
    (hd : decode (eBy k) pc = .ok (i, len)) (hc : eChk k (pc, i, len) = true) (h : eAri i pc L st AH = some r) :
    ∃ pc' st', r = .inl (pc', L, st', AH) ∧ (W p l e R s m args below meth c H locs cells slots Q (F0 m pc' ls (st'.map (eRe B ro))) → W p l e R s m args below meth c H locs cells slots Q (F0 m pc ls (st.map (eRe B ro)))) := by
  obtain ⟨hx, hb, -⟩ := hF
  simp only [eChk, Bool.and_eq_true] at hc
  have hlen := Nat.eq_of_beq_eq_true hc.1.1.1.1
  clear hc
  unfold eAri at h
  split at h
  · have hlen : len = 1 := hlen
    subst hlen
    cases h
    exact ⟨_, _, rfl, fun kk => lv_iadd hx hb hd kk⟩
  · have hlen : len = 1 := hlen
    subst hlen
    cases h
    exact ⟨_, _, rfl, fun kk => lv_isub hx hb hd kk⟩
  · have hlen : len = 1 := hlen
    subst hlen
    cases h
    exact ⟨_, _, rfl, fun kk => lv_imul hx hb hd kk⟩
  · have hlen : len = 1 := hlen
    subst hlen
    cases h
    exact ⟨_, _, rfl, fun kk => lv_iand hx hb hd kk⟩
  · have hlen : len = 1 := hlen
    subst hlen
    cases h
    exact ⟨_, _, rfl, fun kk => lv_ior hx hb hd kk⟩
  · have hlen : len = 1 := hlen
    subst hlen
    cases h
    exact ⟨_, _, rfl, fun kk => lv_ixor hx hb hd kk⟩
  · have hlen : len = 1 := hlen
    subst hlen
    cases h
    exact ⟨_, _, rfl, fun kk => lv_ishl hx hb hd kk⟩
  · have hlen : len = 1 := hlen
    subst hlen
    cases h
    exact ⟨_, _, rfl, fun kk => lv_ishr hx hb hd kk⟩
  · have hlen : len = 1 := hlen
    subst hlen
    cases h
    exact ⟨_, _, rfl, fun kk => lv_iushr hx hb hd rfl kk⟩
  · have hlen : len = 1 := hlen
    subst hlen
    split at h
    · cases h
    · next hne =>
      cases h
      exact ⟨_, _, rfl, fun kk => lv_idiv hx hb hd hne kk⟩
  · have hlen : len = 1 := hlen
    subst hlen
    split at h
    · cases h
    · next hne =>
      cases h
      exact ⟨_, _, rfl, fun kk => lv_irem hx hb hd hne kk⟩
  · have hlen : len = 1 := hlen
    subst hlen
    cases h
    exact ⟨_, _, rfl, fun kk => lv_ineg hx hb hd kk⟩
  · have hlen : len = 1 := hlen
    subst hlen
    cases h
    exact ⟨_, _, rfl, fun kk => lv_i2l hx hb hd rfl kk⟩
  · have hlen : len = 1 := hlen
    subst hlen
    cases h
    exact ⟨_, _, rfl, fun kk => lv_i2b hx hb hd rfl kk⟩
  · have hlen : len = 1 := hlen
    subst hlen
    cases h
    exact ⟨_, _, rfl, fun kk => lv_i2c hx hb hd rfl kk⟩
  · have hlen : len = 1 := hlen
    subst hlen
    cases h
    exact ⟨_, _, rfl, fun kk => lv_i2s hx hb hd rfl kk⟩
  · have hlen : len = 1 := hlen
    subst hlen
    cases h
    exact ⟨_, _, rfl, fun kk => lv_l2i hx hb hd rfl kk⟩
  · have hlen : len = 1 := hlen
    subst hlen
    cases h
    exact ⟨_, _, rfl, fun kk => lv_lsub hx hb hd kk⟩
  · have hlen : len = 1 := hlen
    subst hlen
    cases h
    exact ⟨_, _, rfl, fun kk => lv_land hx hb hd kk⟩
  · have hlen : len = 1 := hlen
    subst hlen
    cases h
    exact ⟨_, _, rfl, fun kk => lv_lor hx hb hd kk⟩
  · have hlen : len = 1 := hlen
    subst hlen
    cases h
    exact ⟨_, _, rfl, fun kk => lv_lshl hx hb hd rfl kk⟩
  · have hlen : len = 1 := hlen
    subst hlen
    cases h
    exact ⟨_, _, rfl, fun kk => lv_lshr hx hb hd rfl kk⟩
  · have hlen : len = 1 := hlen
    subst hlen
    cases h
    exact ⟨_, _, rfl, fun kk => lv_lushr hx hb hd rfl kk⟩
  · have hlen : len = 1 := hlen
    subst hlen
    cases h
    exact ⟨_, _, rfl, fun kk => W.lcmp hx hb hd kk⟩
  · cases h
end E2
/-! cells -/
def eSz : eC → Nat
  | .inl (_, n, _) => n
  | .inr (_, fs) => fs.length
def eTot (H : eH) : Nat := (H.map eSz).sum
theorem eTot_set {H : eH} {h : Nat} {e0 e : eC} (he : H[h]? = some e0) (hs : eSz e = eSz e0) : eTot (H.set h e) = eTot H := by
  unfold eTot
  rw [List.map_set, hs]
  have : (H.map eSz).set h (eSz e0) = H.map eSz := by
    apply List.ext_getElem?
    intro i
    rw [List.getElem?_set]
    split
    · next hi => subst hi; simp [he]; exact (List.getElem?_eq_some_iff.mp he).1
    · rfl
  rw [this]
theorem eTot_app (H : eH) (e : eC) : eTot (H ++ [e]) = eTot H + eSz e := by simp [eTot]
theorem eFit_ok {B : Nat} {ro : Nat → Nat} {ty : FieldType} {v : Value} (h : eFit ty v = true) : narrow ty (eRe B ro v) = eRe B ro v ∧ fits ty (eRe B ro v) = true := by
  have hf : fits ty (eRe B ro v) = true := by
    unfold eFit at h
    split at h <;> first | rfl | exact h | cases h
  exact ⟨narrow_of_fits hf, hf⟩
theorem eRange_all {f : Nat → Bool} {n k : Nat} (h : (List.range n).all f = true) (hk : k < n) : f k = true := List.all_eq_true.mp h k (List.mem_range.mpr hk)
theorem eLf_lt (own : Nat) : ∀ q ∈ eLf own, q.2.1 < 8 ∧ q.2.2 < (eFt q.2.1).length := by
  intro q hq
  by_cases ho : own < 14
  · have h := eRange_all eLi_ini ho
    simp only [Bool.and_eq_true, List.all_eq_true, Nat.blt_eq] at h
    exact h.1.2 q hq
  · rw [show own = (own - 14) + 14 by omega] at hq
    exact absurd hq List.not_mem_nil
theorem eLn_lt (own : Nat) : ∀ q ∈ eLn own, q.2 < 8 := by
  intro q hq
  by_cases ho : own < 14
  · have h := eRange_all eLi_ini ho
    simp only [Bool.and_eq_true, List.all_eq_true, Nat.blt_eq] at h
    exact h.2 q hq
  · rw [show own = (own - 14) + 14 by omega] at hq
    exact absurd hq List.not_mem_nil
