/-! calls: what they stand on -/
theorem eRo_warm {o : eO} {B : Nat} {ro : Nat → Nat} {s U : State} {H : Heap} (hW : s.WarmedH U.vm) (h : eRo o B ro s H) : eRo o B ro U H := by
  obtain ⟨h1, h2, h3, h4, h5, h6, h7, h8, h9, h10⟩ := h
  have ha := hW.alike
  exact ⟨h1.moved ha, h2.moved ha, h3.moved ha, h4.moved ha, h5.moved ha, h6.warm hW, h7.moved ha, h8.moved ha, h9.moved ha, fun q hq => (h10 q hq).warmM hW⟩
theorem eRo_kept {o : eO} {B : Nat} {ro : Nat → Nat} {U : State} {H H1 : Heap} (hq : ∀ a : Nat, a < H.size → ¬ eA B a → H1[a]? = H[a]?) (h : eRo o B ro U H) : eRo o B ro U H1 := by
  obtain ⟨h1, h2, h3, h4, h5, h6, h7, h8, h9, h10⟩ := h
  exact ⟨h1.kept hq, h2.kept hq, h3.kept hq, h4.kept hq, h5.kept hq, h6, h7.kept hq, h8.kept hq, h9.kept hq, h10⟩
theorem ePop_eq : ∀ {n : Nat} {acc st as st' : List Value}, ePop n acc st = some (as, st') → ∃ bs, bs.length = n ∧ st = bs ++ st' ∧ as = bs.reverse ++ acc
  | 0, acc, st, as, st', h => by
    unfold ePop at h
    cases h
    exact ⟨[], rfl, rfl, rfl⟩
  | n + 1, acc, [], as, st', h => by
    unfold ePop at h
    cases h
  | n + 1, acc, v :: st, as, st', h => by
    unfold ePop at h
    obtain ⟨bs, h1, h2, h3⟩ := ePop_eq h
    exact ⟨v :: bs, by simp [h1], by rw [h2]; rfl, by rw [h3]; simp⟩
theorem ePop_st {n : Nat} {st as st' : List Value} (h : ePop n [] st = some (as, st')) : as.length = n ∧ st = as.reverse ++ st' := by
  obtain ⟨bs, h1, h2, h3⟩ := ePop_eq h
  rw [List.append_nil] at h3
  subst h3
  exact ⟨by simp [h1], by simp [h2]⟩
theorem eWords_eq (B : Nat) (ro : Nat → Nat) : ∀ st : List Value, ((st.map (eRe B ro)).map fun v => v.category).sum = eWords st
  | [] => rfl
  | v :: st => by
    simp only [List.map_cons, List.sum_cons, eWords, eWords_eq B ro st, eRe_cat]
    cases v <;> rfl
theorem eArgs_len (B : Nat) (ro : Nat → Nat) : ∀ as : List Value, (lg_sl (as.map (eRe B ro))).length = (eArgs as).length
  | [] => rfl
  | v :: as => by
    have ih := eArgs_len B ro as
    have e1 : lg_sl ((v :: as).map (eRe B ro)) = (if (eRe B ro v).category = 2 then [.val (eRe B ro v), .second] else [.val (eRe B ro v)]) ++ lg_sl (as.map (eRe B ro)) := rfl
    rw [e1, List.length_append, ih, eRe_cat]
    cases v <;> simp only [eArgs, Value.category, List.length_cons] <;> first | rfl | (simp; omega)
theorem eArgs_in (B : Nat) (ro : Nat → Nat) : ∀ (as : List Value) (i j : Nat) (v : Value), eLd (eArgs as) j = some v → (i + j, eRe B ro v) ∈ lv_args i (as.map (eRe B ro))
  | [], i, j, v, h => by
    have := eLd_lt h
    simp [eArgs] at this
  | w :: as, i, j, v, h => by
    have h1 := eLd_lt h
    have hone : (eArgs (w :: as) = some w :: eArgs as ∧ w.category = 1) ∨ (eArgs (w :: as) = some w :: none :: eArgs as ∧ w.category = 2) := by cases w <;> first | exact Or.inl ⟨rfl, rfl⟩ | exact Or.inr ⟨rfl, rfl⟩
    simp only [List.map_cons, lv_args, eRe_cat]
    rcases hone with ⟨e1, e2⟩ | ⟨e1, e2⟩
    · rw [e1] at h1
      rw [e2]
      cases j with
      | zero => simp at h1; subst h1; exact List.mem_cons_self
      | succ j =>
        simp at h1
        have := eArgs_in B ro as (i + 1) j v (eLd_of h1)
        exact List.mem_cons_of_mem _ (by simpa [Nat.add_assoc, Nat.add_comm 1 j] using this)
    · rw [e1] at h1
      rw [e2]
      match j, h1 with
      | 0, h1 => simp at h1; subst h1; exact List.mem_cons_self
      | 1, h1 => simp at h1
      | j + 2, h1 =>
        simp at h1
        have := eArgs_in B ro as (i + 2) j v (eLd_of h1)
        exact List.mem_cons_of_mem _ (by simpa [Nat.add_assoc, Nat.add_comm 2 j] using this)
theorem eEnt_ok {B : Nat} {ro : Nat → Nat} {q : Nat} {as : List Value} (h : (eArgs as).length ≤ eMx.getD q 0) :
    eLc B ro ((lg_sl (as.map (eRe B ro)) ++ List.replicate (eMx.getD q 0 - (lg_sl (as.map (eRe B ro))).length) Slot.unset).toArray) (eMx.getD q 0) (eEnt q as) := by
  refine eLc_of (lv_entry (as.map (eRe B ro)) (by rw [eArgs_len]; exact h)) (by simp only [eEnt, List.length_append, List.length_replicate]; omega) fun j v hv => ?_
  have h1 := eLd_lt hv
  unfold eEnt at h1
  by_cases hj : j < (eArgs as).length
  · rw [List.getElem?_append_left hj] at h1
    simpa using eArgs_in B ro as 0 j v (eLd_of h1)
  · rw [List.getElem?_append_right (by omega), List.getElem?_replicate] at h1
    split at h1 <;> simp at h1
theorem eGoodIn {q : Nat} (hq : q < 202) : GoodIn eWs (Cond.code (eM q) (eBy q) (eMx.getD q 0) (eRt.getD q none) :: eWs) := by
  intro w hw
  rcases List.mem_cons.mp hw with rfl | h
  · exact ⟨eMp_in q hq, good_of_word (List.mem_filter.mp (eMp_in q hq)).2⟩
  · exact ⟨h, good_of_word (List.mem_filter.mp h).2⟩
theorem eM_ok {q : Nat} (hq : q < 203) : eN (eOwn q) = (eM q).cls ∧ ((eM q).cls ≠ "java/lang/invoke/MethodHandle" ∧ (eM q).cls ≠ "java/lang/invoke/VarHandle") ∧ (parseMethodDescriptor (eM q).desc).map (fun d => d.parameters.length) = some (eNa.getD q 0) ∧ (plainName (eM q).cls = true ∨ q = 36 ∨ q = 37 ∨ q = 84) ∧ (eIni q = true → (eM q).name = "<init>") := by
  have h1 := of_decide_eq_true (eRange_all eMok_w1 hq)
  have h2 := eRange_all eMok_w2 hq
  simp only [Bool.and_eq_true, decide_eq_true_eq] at h2
  have h3 := of_decide_eq_true (eRange_all eMok_w3 hq)
  have h4 := eRange_all eMok_w4 hq
  simp only [Bool.or_eq_true] at h4
  have h5 := eRange_all eMok_w5 hq
  simp only [Bool.or_eq_true, Bool.not_eq_true', decide_eq_true_eq] at h5
  refine ⟨h1, h2, h3, ?_, fun h => h5.resolve_left (by rw [h]; decide)⟩
  rcases h4 with ((h | h) | h) | h
  · exact Or.inl h
  · exact Or.inr (Or.inl (Nat.eq_of_beq_eq_true h))
  · exact Or.inr (Or.inr (Or.inl (Nat.eq_of_beq_eq_true h)))
  · exact Or.inr (Or.inr (Or.inr (Nat.eq_of_beq_eq_true h)))
theorem eLsv_lt (own : Nat) : (∀ q ∈ eLs own, q.2 < 202) ∧ (∀ q ∈ eLv own, q.2 < 202) ∧ (∀ q ∈ eLi own, eIni q.2 = true ∧ q.2 < 202) ∧ ∀ q ∈ eLm own, (eIni q.2 = true ∧ q.2 < 202) ∧ own = 6 := by
  by_cases ho : own < 14
  · have h := eRange_all eLi_ini ho
    simp only [Bool.and_eq_true, List.all_eq_true, Nat.blt_eq] at h
    refine ⟨fun q hq => h.1.1.1.2 q hq, fun q hq => h.1.1.2 q hq, fun q hq => h.1.1.1.1.1 q hq, fun q hq => ⟨(h.1.1.1.1.2 q hq).1, Nat.eq_of_beq_eq_true (h.1.1.1.1.2 q hq).2⟩⟩
  · rw [show own = (own - 14) + 14 by omega]
    exact ⟨fun q hq => absurd hq List.not_mem_nil, fun q hq => absurd hq List.not_mem_nil, fun q hq => absurd hq List.not_mem_nil, fun q hq => absurd hq List.not_mem_nil⟩
/-- what a contract of the engine says behind it -/
def eQc (B : Nat) (ro : Nat → Nat) (cA : Nat → ClassId) (D : va_G) (v : Option Value) (AH : eH) : Array Value → State → Outcome → State → Prop := fun _ st oc t => oc = .returned (v.map (eRe B ro)) ∧ va_P D eCl (eWd B ro cA AH) t.heap ∧ va_F (eA B) st t
def ePc (o : eO) (B : Nat) (ro : Nat → Nat) (cA : Nat → ClassId) (D : va_G) (as : List Value) (AH : eH) : Array Value → State → Prop := va_Pc (as.map (eRe B ro)) (fun U => U.heap.size = B + AH.length ∧ va_P D eCl (eWd B ro cA AH) U.heap ∧ va_K D eCl (eTys cA) U ∧ eRo o B ro U U.heap)
theorem ePc_blind (o : eO) (B : Nat) (ro : Nat → Nat) (cA : Nat → ClassId) (D : va_G) (as : List Value) (AH : eH) : FrameBlind (ePc o B ro cA D as AH) := by
  intro a U g mk h
  obtain ⟨h1, h2, h3, h4, h5⟩ := h
  exact ⟨h1, h2, h3, va_K.moved (u := U) (U := U.calling g mk a) (Vm.Alike.refl U.vm) h4, eRo_warm (s := U) (U := U.calling g mk a) (State.WarmedH.refl U) h5⟩
section E4
variable {p : Program} {l : Launch} {e : Env} {R : Room} {s : State} {m : MethodId} {args : Array Value} {below : List Frame} {meth : Method} {c : Code} {H : Heap} {locs : List Loc} {cells slots : Nat} {Q : State → Prop}
variable {o : eO} {B : Nat} {ro : Nat → Nat} {cA : Nat → ClassId} {D : va_G} {k : Nat}
theorem eSized {AH : eH} {len0 : Nat} {g : JFrame} (hI : eIv B ro cA D AH s H locs) (h0 : s.heap.size = B + len0) (hc : cells + len0 = AH.length) (kk : H.size = B + AH.length → W p l e R s m args below meth c H locs cells slots Q g) : W p l e R s m args below meth c H locs cells slots Q g := by
  intro T hT X
  have h1 := X.heapSize
  rw [hT] at h1
  have h2 : B + AH.length ≤ H.size := by
    have h3 := hI.2.1
    by_cases hz : AH.length = 0
    · omega
    · have hlt : AH.length - 1 < AH.length := by omega
      have h4 := (hI.1 _ _ (eWd_get (List.getElem?_eq_getElem hlt))).lt
      dsimp only at h4
      omega
  exact kk (by omega) T hT X
theorem eCalled {v : Option Value} {AH1 : eH} {rest : List Value} {mc ms pc : Nat} {ls : Array Slot} {st0 : List Value} {a : Array Value} (hS : va_S (eA B) s.heap H locs)
    (hr : va_Run p l e R s m args below meth c H locs cells slots mc ms (F0 m pc ls st0) rest (eQc B ro cA D v AH1 a) (eA B))
    (kk : ∀ H1 locs1, eIv B ro cA D AH1 s H1 locs1 → W p l e R s m args below meth c H1 locs1 (cells + mc) (slots + ms) Q (F0 m (pc + 3) ls ((v.map (eRe B ro)).toList ++ rest))) : W p l e R s m args below meth c H locs cells slots Q (F0 m pc ls st0) := by
  intro T hT X
  obtain ⟨w, st1, t, T', L, h0, X', hL, e1, e2, ⟨hv, hP, hz, hk⟩, st⟩ := hr T hT X
  have hv : w = v.map (eRe B ro) := by cases hv; rfl
  subst hv
  rw [h0] at hz hk
  obtain ⟨t2, a1, b1⟩ := kk T'.heap (locs ++ L) ⟨by rw [e1]; exact hP, Nat.le_trans hS.1 (by rw [e1]; exact hz), fun q g1 g2 => by rw [e1, hk q (Nat.lt_of_lt_of_le g1 hS.1) g2]; exact hS.2.1 q g1 g2, fun q hq => by
      rcases List.mem_append.mp hq with h | h
      · exact hS.2.2 q h
      · exact hL q h⟩ T' rfl X'
  exact ⟨t2, st t2 a1, b1⟩
end E4
