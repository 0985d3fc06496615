/-! ===== the frame's facts ===== -/
/-- cells that nobody writes, and the words that are no tables' -/
def eRo (o : eO) (B : Nat) (ro : Nat → Nat) (U : State) (H : Heap) : Prop :=
  va_T .int (ro 0) o.1 (fun j => .int (o.2 j)) (eA B) U H ∧ va_T .int (ro 1) 4 (fun j => .int (([6, 2, 2, 6] : List Int32).getD j 0)) (eA B) U H ∧ va_T .byte (ro 3) 4 (fun j => .int (([104, 98, 99, 114] : List Int32).getD j 0)) (eA B) U H ∧
  va_Z "DownAsUp$Ways" "ORDERS_BEHIND" "[I" (.ref (ro 1)) (eA B) U H ∧ va_Z "java/lang/String" "COMPACT_STRINGS" "Z" (.int 1) (eA B) U H ∧ vk_R "DownAsUp$Tape" 51 "hbcr" (ro 2) U ∧ va_O "java/lang/String" (ro 2) (eA B) U H ∧
  va_OF "java/lang/String" "value" "[B" (.ref (ro 3)) (ro 2) (eA B) U H ∧ va_OF "java/lang/String" "coder" "B" (.int 0) (ro 2) (eA B) U H ∧ ∀ q ∈ eLm 6, va_Nw (.methodLinkNest "DownAsUp" q.1 (eM q.2) "DownAsUp") U
def eFx (o : eO) (B : Nat) (ro : Nat → Nat) (cA : Nat → ClassId) (D : va_G) (k : Nat) (p : Program) (s : State) (m : MethodId) (args : Array Value) (meth : Method) (c : Code) : Prop :=
  p.tables.exec = Jvm.exec ∧ c.code = eBy k ∧ c.maxLocals = eMx.getD k 0 ∧ meth.sig.returnType = eRt.getD k none ∧ meth.locks = false ∧ (eIni k = true → meth.name = "<init>") ∧ s.vm.findClass (eN (eOwn k)) = some m.cls ∧ (∀ w ∈ eWs, w.before args s = true) ∧ va_K D eCl (eTys cA) s ∧ eRo o B ro s s.heap
def eIv (B : Nat) (ro : Nat → Nat) (cA : Nat → ClassId) (D : va_G) (AH : eH) (s : State) (H : Heap) (locs : List Loc) : Prop :=
  va_P D eCl (eWd B ro cA AH) H ∧ va_S (eA B) s.heap H locs
theorem eLs1_eq {a b : Nat} (h : eLs1 a b = true) : a = 3 ∧ b = 51 := by
  unfold eLs1 at h
  split at h
  · exact ⟨rfl, rfl⟩
  · cases h
section E1
variable {p : Program} {l : Launch} {e : Env} {R : Room} {s : State} {m : MethodId} {args : Array Value} {below : List Frame} {meth : Method} {c : Code} {H : Heap} {locs : List Loc} {cells slots : Nat} {Q : State → Prop}
variable {o : eO} {B : Nat} {ro : Nat → Nat} {cA : Nat → ClassId} {D : va_G} {k : Nat}
theorem eTgt_eq {pc : Nat} {off : Int} (h : 0 ≤ (pc : Int) + off) : (pc : Int) + off = ((eTgt pc off : Nat) : Int) := by
  unfold eTgt; omega
/-- stack and locals -/
theorem eLoc_ok (hF : eFx o B ro cA D k p s m args meth c) {i : Instr} {pc len : Nat} {L : eL} {st : List Value} {AH : eH} {r : eR} {ls : Array Slot}
    (hd : decode (eBy k) pc = .ok (i, len)) (hc : eChk k (pc, i, len) = true) (hl : eLc B ro ls (eMx.getD k 0) L) (h : eLoc (eOwn k) i pc L st AH = some r) :
    ∃ pc' L' st', r = .inl (pc', L', st', AH) ∧ ((∀ ls', eLc B ro ls' (eMx.getD k 0) L' → W p l e R s m args below meth c H locs cells slots Q (F0 m pc' ls' (st'.map (eRe B ro)))) → W p l e R s m args below meth c H locs cells slots Q (F0 m pc ls (st.map (eRe B ro)))) := by
  obtain ⟨hx, hb, hml, hr, hlk, hin, hown, hts, hK, hRo⟩ := hF
  simp only [eChk, Bool.and_eq_true] at hc
  obtain ⟨⟨⟨⟨hc1, hc2⟩, hc3⟩, hc4⟩, -⟩ := hc
  have hlen := Nat.eq_of_beq_eq_true hc1
  have hix : eIx i < eMx.getD k 0 := Nat.blt_eq.mp hc2 
  have hoff : ∀ off ∈ eOff i, 0 ≤ (pc : Int) + off := fun off ho => of_decide_eq_true (List.all_eq_true.mp hc3 off ho)
  have hL := hl.2
  cases i with
  | iconst n =>
    have hlen : len = 1 := hlen
    subst hlen
    cases h
    exact ⟨_, _, _, rfl, fun kk => lv_iconst hx hb hd rfl (kk ls hl)⟩
  | bipush n =>
    have hlen : len = 2 := hlen
    subst hlen
    cases h
    exact ⟨_, _, _, rfl, fun kk => lv_bipush hx hb hd rfl (kk ls hl)⟩
  | sipush n =>
    have hlen : len = 3 := hlen
    subst hlen
    cases h
    exact ⟨_, _, _, rfl, fun kk => lv_sipush hx hb hd rfl (kk ls hl)⟩
  | lconst n =>
    have hlen : len = 1 := hlen
    subst hlen
    cases h
    exact ⟨_, _, _, rfl, fun kk => lv_lconst hx hb hd rfl (kk ls hl)⟩
  | goto off =>
    have hlen : len = 3 := hlen
    subst hlen
    cases h
    exact ⟨_, _, _, rfl, fun kk => lv_goto hx hb hd (eTgt_eq (hoff off List.mem_cons_self)) (kk ls hl)⟩
  | iload j =>
    have hlen : len = 2 := hlen
    subst hlen
    simp only [eLoc] at h
    split at h
    · next x hx1 =>
      cases h
      exact ⟨_, _, _, rfl, fun kk => lv_iload hx hb hd (eLc_get hl hx1) (kk ls hl)⟩
    · cases h
  | iload_n j =>
    have hlen : len = 1 := hlen
    subst hlen
    simp only [eLoc] at h
    split at h
    · next x hx1 =>
      cases h
      exact ⟨_, _, _, rfl, fun kk => lv_iload_n hx hb hd rfl (eLc_get hl hx1) (kk ls hl)⟩
    · cases h
  | lload j =>
    have hlen : len = 2 := hlen
    subst hlen
    simp only [eLoc] at h
    split at h
    · next x hx1 =>
      cases h
      exact ⟨_, _, _, rfl, fun kk => lv_lload hx hb hd (eLc_get hl hx1) (kk ls hl)⟩
    · cases h
  | lload_n j =>
    have hlen : len = 1 := hlen
    subst hlen
    simp only [eLoc] at h
    split at h
    · next x hx1 =>
      cases h
      exact ⟨_, _, _, rfl, fun kk => lv_lload_n hx hb hd rfl (eLc_get hl hx1) (kk ls hl)⟩
    · cases h
  | aload j =>
    have hlen : len = 2 := hlen
    subst hlen
    simp only [eLoc] at h
    split at h
    · next x hx1 =>
      cases h
      exact ⟨_, _, _, rfl, fun kk => lv_aload hx hb hd (eLc_get hl hx1) (kk ls hl)⟩
    · next x hx1 =>
      cases h
      exact ⟨_, _, _, rfl, fun kk => lv_aload hx hb hd (eLc_get hl hx1) (kk ls hl)⟩
    · cases h
  | aload_n j =>
    have hlen : len = 1 := hlen
    subst hlen
    simp only [eLoc] at h
    split at h
    · next x hx1 =>
      cases h
      exact ⟨_, _, _, rfl, fun kk => lv_aload_n hx hb hd rfl (eLc_get hl hx1) (kk ls hl)⟩
    · next x hx1 =>
      cases h
      exact ⟨_, _, _, rfl, fun kk => lv_aload_n hx hb hd rfl (eLc_get hl hx1) (kk ls hl)⟩
    · cases h
  | istore j =>
    have hlen : len = 2 := hlen
    subst hlen
    simp only [eLoc] at h
    split at h
    · cases h
      exact ⟨_, _, _, rfl, fun kk => lv_istore hx hb hd hl.1 hix rfl (fun ls' h' => kk ls' (eLc_st1 hL h'))⟩
    · cases h
  | istore_n j =>
    have hlen : len = 1 := hlen
    subst hlen
    simp only [eLoc] at h
    split at h
    · cases h
      exact ⟨_, _, _, rfl, fun kk => lv_istore_n hx hb hd rfl hl.1 hix rfl (fun ls' h' => kk ls' (eLc_st1 hL h'))⟩
    · cases h
  | lstore j =>
    have hlen : len = 2 := hlen
    subst hlen
    simp only [eLoc] at h
    split at h
    · cases h
      exact ⟨_, _, _, rfl, fun kk => lv_lstore hx hb hd hl.1 hix rfl (fun ls' h' => kk ls' (eLc_st2 hL h'))⟩
    · cases h
  | lstore_n j =>
    have hlen : len = 1 := hlen
    subst hlen
    simp only [eLoc] at h
    split at h
    · cases h
      exact ⟨_, _, _, rfl, fun kk => lv_lstore_n hx hb hd rfl hl.1 hix rfl (fun ls' h' => kk ls' (eLc_st2 hL h'))⟩
    · cases h
  | astore_n j =>
    have hlen : len = 1 := hlen
    subst hlen
    simp only [eLoc] at h
    split at h
    · next x st1 =>
      cases h
      exact ⟨_, _, _, rfl, fun kk => lv_astore_n hx hb hd rfl hl.1 hix rfl (fun ls' h' => kk ls' (eLc_st1 (v := .ref x) hL h'))⟩
    · cases h
  | iinc j n =>
    have hlen : len = 3 := hlen
    subst hlen
    simp only [eLoc] at h
    split at h
    · next x hx1 =>
      cases h
      obtain ⟨q, hq⟩ := List.getElem?_of_mem (ePairs_in (B := B) (ro := ro) hx1)
      exact ⟨_, _, _, rfl, fun kk => lv_iinc hx hb hd hl.1 hq rfl hix rfl (fun ls' h' => kk ls' (eLc_st1 (v := .int (x + Int32.ofInt n)) hL h'))⟩
    · cases h
  | pop =>
    have hlen : len = 1 := hlen
    subst hlen
    simp only [eLoc] at h
    split at h
    · cases h
      exact ⟨_, _, _, rfl, fun kk => lv_pop hx hb hd rfl (kk ls hl)⟩
    · cases h
  | dup =>
    have hlen : len = 1 := hlen
    subst hlen
    simp only [eLoc] at h
    split at h
    · cases h
      exact ⟨_, _, _, rfl, fun kk => lv_dup hx hb hd rfl (kk ls hl)⟩
    · cases h
      exact ⟨_, _, _, rfl, fun kk => lv_dup hx hb hd rfl (kk ls hl)⟩
    · cases h
  | dup2 =>
    have hlen : len = 1 := hlen
    subst hlen
    simp only [eLoc] at h
    split at h
    · cases h
      exact ⟨_, _, _, rfl, fun kk => lv_dup2_11 hx hb hd rfl rfl (kk ls hl)⟩
    · cases h
  | ifCond cd off =>
    have hlen : len = 3 := hlen
    subst hlen
    have ht := eTgt_eq (hoff off List.mem_cons_self)
    simp only [eLoc] at h
    split at h
    · next x st1 =>
      cases h
      refine ⟨_, _, _, rfl, fun kk => ?_⟩
      cases cd with
      | eq => exact lv_if_eq hx hb hd ht (fun q => by have := kk ls hl; simpa [eCmp, q] using this) (fun q => by have := kk ls hl; simpa [eCmp, q] using this)
      | ne => exact lv_if_ne hx hb hd ht (fun q => by have := kk ls hl; simpa [eCmp, q] using this) (fun q => by have := kk ls hl; simpa [eCmp, q] using this)
      | lt => exact lv_if_lt hx hb hd ht (fun q => by have := kk ls hl; simpa [eCmp, q] using this) (fun q => by have := kk ls hl; simpa only [eCmp, q, decide_false] using this)
      | ge => exact lv_if_ge hx hb hd ht (fun q => by have := kk ls hl; simpa only [eCmp, q, decide_true] using this) (fun q => by have := kk ls hl; simpa only [eCmp, q, decide_false] using this)
      | gt => exact lv_if_gt hx hb hd ht (fun q => by have := kk ls hl; simpa only [eCmp, q, decide_true] using this) (fun q => by have := kk ls hl; simpa only [eCmp, q, decide_false] using this)
      | le => exact lv_if_le hx hb hd ht (fun q => by have := kk ls hl; simpa only [eCmp, q, decide_true] using this) (fun q => by have := kk ls hl; simpa only [eCmp, q, decide_false] using this)
    · cases h
  | if_icmp cd off =>
    have hlen : len = 3 := hlen
    subst hlen
    have ht := eTgt_eq (hoff off List.mem_cons_self)
    simp only [eLoc] at h
    split at h
    · next y x st1 =>
      cases h
      refine ⟨_, _, _, rfl, fun kk => ?_⟩
      cases cd with
      | eq => exact lv_icmp_eq hx hb hd ht (fun q => by have := kk ls hl; simpa only [eCmp, q, decide_true] using this) (fun q => by have := kk ls hl; simpa only [eCmp, q, decide_false] using this)
      | ne => exact lv_icmp_ne hx hb hd ht (fun q => by have := kk ls hl; simpa only [eCmp, q, decide_false, Bool.not_false] using this) (fun q => by have := kk ls hl; simpa only [eCmp, q, decide_true, Bool.not_true] using this)
      | lt => exact lv_icmp_lt hx hb hd ht (fun q => by have := kk ls hl; simpa only [eCmp, q, decide_true] using this) (fun q => by have := kk ls hl; simpa only [eCmp, q, decide_false] using this)
      | ge => exact lv_icmp_ge hx hb hd ht (fun q => by have := kk ls hl; simpa only [eCmp, q, decide_true] using this) (fun q => by have := kk ls hl; simpa only [eCmp, q, decide_false] using this)
      | gt => exact lv_icmp_gt hx hb hd ht (fun q => by have := kk ls hl; simpa only [eCmp, q, decide_true] using this) (fun q => by have := kk ls hl; simpa only [eCmp, q, decide_false] using this)
      | le => exact lv_icmp_le hx hb hd ht (fun q => by have := kk ls hl; simpa only [eCmp, q, decide_true] using this) (fun q => by have := kk ls hl; simpa only [eCmp, q, decide_false] using this)
    · cases h
  | tableswitch d lo hi offs =>
    simp only [eLoc] at h
    split at h
    · next x st1 =>
      cases h
      refine ⟨_, _, _, rfl, fun kk => ?_⟩
      have k1 := kk ls hl
      simp only [eSwi, Bool.and_eq_true, decide_eq_true_eq] at hc4
      by_cases hq : x.toInt < lo ∨ hi < x.toInt
      · rw [if_pos hq] at k1
        exact lv_tableOut hx hb hd hq (eTgt_eq (hoff d List.mem_cons_self)) k1
      · rw [if_neg hq] at k1
        have hlt : (x.toInt - lo).toNat < offs.toList.length := by omega
        have hg : offs[(x.toInt - lo).toNat]? = some (offs.toList.getD (x.toInt - lo).toNat d) := by
          rw [← Array.getElem?_toList, List.getD_eq_getElem?_getD, List.getElem?_eq_getElem hlt]; rfl
        exact lv_tableIn hx hb hd (fun z => hq (Or.inl z)) (fun z => hq (Or.inr z)) hg (eTgt_eq (hoff _ (List.mem_cons_of_mem _ (by rw [← Array.getElem?_toList] at hg; exact List.mem_of_getElem? hg)))) k1
    · cases h
  | ldc idx =>
    have hlen : len = 2 := hlen
    subst hlen
    simp only [eLoc] at h
    split at h
    · next h3 =>
      obtain ⟨ho1, ho2⟩ := eLs1_eq h3
      subst ho2
      cases h
      rw [ho1] at hown
      exact ⟨_, _, _, rfl, fun kk => va_ldcS (own := "DownAsUp$Tape") hx hb hown hRo.2.2.2.2.2.1 hd (kk ls hl)⟩
    · split at h
      · next x hx1 =>
        cases h
        exact ⟨_, _, _, rfl, fun kk => lv_ldc hx hb hown (hts _ (eLk_in _ _ (eFind_mem hx1))) hd (kk ls hl)⟩
      · cases h
  | ldc_w idx =>
    have hlen : len = 3 := hlen
    subst hlen
    simp only [eLoc] at h
    split at h
    · next x hx1 =>
      cases h
      exact ⟨_, _, _, rfl, fun kk => lv_ldcw hx hb hown (hts _ (eLk_in _ _ (eFind_mem hx1))) hd (kk ls hl)⟩
    · cases h
  | ldc2_w idx =>
    have hlen : len = 3 := hlen
    subst hlen
    simp only [eLoc] at h
    split at h
    · next x hx1 =>
      cases h
      exact ⟨_, _, _, rfl, fun kk => lv_ldc2 hx hb hown (hts _ (eLl_in _ _ (eFind_mem hx1))) hd (kk ls hl)⟩
    · cases h
  | _ => cases h
end E1
