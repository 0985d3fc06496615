theorem eOut_ok {i : Int32} {n : Nat} (h : eOut i n = false) : vp_in i n := by
  unfold eOut at h
  simp only [Bool.or_eq_false_iff, decide_eq_false_iff_not] at h
  intro q
  rcases q with q | q
  · exact h.1 q
  · rw [Nat.ble_eq_true_of_le q] at h
    exact absurd h.2 (by simp)
theorem eGs_eq {a b : Nat} {v : Value} (h : eGs a b = some v) : (a = 5 ∧ b = 88 ∧ v = .retAddr 1) ∨ (a = 11 ∧ b = 38 ∧ v = .int 1) := by
  unfold eGs at h
  split at h
  · cases h; exact Or.inl ⟨rfl, rfl, rfl⟩
  · cases h; exact Or.inr ⟨rfl, rfl, rfl⟩
  · cases h
theorem eRf_eq {a b : Nat} {v : Value} (h : eRf a b = some v) : (a = 11 ∧ b = 9 ∧ v = .retAddr 3) ∨ (a = 11 ∧ b = 15 ∧ v = .int 0) := by
  unfold eRf at h
  split at h
  · cases h; exact Or.inl ⟨rfl, rfl, rfl⟩
  · cases h; exact Or.inr ⟨rfl, rfl, rfl⟩
  · cases h
theorem eRoA_eq {o : eO} {B : Nat} {ro : Nat → Nat} {U : State} {H : Heap} {k t n : Nat} {f : Nat → Int32} (hR : eRo o B ro U H) (h : eRoA o k = some (t, n, f)) : (t = 0 ∧ va_T .int (ro k) n (fun j => .int (f j)) (eA B) U H) ∨ (t = 4 ∧ va_T .byte (ro k) n (fun j => .int (f j)) (eA B) U H) := by
  unfold eRoA at h
  split at h
  · cases h; exact Or.inl ⟨rfl, hR.1⟩
  · cases h; exact Or.inl ⟨rfl, hR.2.1⟩
  · cases h; exact Or.inr ⟨rfl, hR.2.2.1⟩
  · cases h
theorem eSt_w : lw_tbl[827]? = some (Cond.fieldLink "DownAsUp$Ways" 88 "DownAsUp$Ways" "ORDERS_BEHIND" "[I") ∧ lw_tbl[476]? = some (Cond.fieldLink "java/lang/String" 38 "java/lang/String" "COMPACT_STRINGS" "Z") ∧ lw_tbl[1322]? = some (Cond.fieldLink "java/lang/String" 9 "java/lang/String" "value" "[B") ∧ lw_tbl[1321]? = some (Cond.fieldLink "java/lang/String" 15 "java/lang/String" "coder" "B") := by decide +kernel
set_option maxRecDepth 100000 in
theorem eFc_w : ((List.range 8).all fun ci => (List.range (eFt ci).length).all fun kf => decide ((eU ci kf).1 = eN ci)) = true := by decide +kernel
theorem eFc_ok (ci kf : Nat) (h1 : ci < 8) (h2 : kf < (eFt ci).length) : (eU ci kf).1 = eN ci := of_decide_eq_true (eRange_all (eRange_all eFc_w h1) h2)
theorem eSz_new (t n : Nat) : eSz (eNew t n) = n := by
  unfold eNew
  split <;> rfl
theorem eDef_ok (B : Nat) (ro : Nat → Nat) (t : FieldType) : eRe B ro (eDef t) = defaultValue t := by cases t <;> rfl
section E3
variable {p : Program} {l : Launch} {e : Env} {R : Room} {s : State} {m : MethodId} {args : Array Value} {below : List Frame} {meth : Method} {c : Code} {H : Heap} {locs : List Loc} {cells slots : Nat} {Q : State → Prop}
variable {o : eO} {B : Nat} {ro : Nat → Nat} {cA : Nat → ClassId} {D : va_G} {k : Nat}
theorem eHp_ok (hF : eFx o B ro cA D k p s m args meth c) {i : Instr} {pc len : Nat} {L : eL} {st : List Value} {AH : eH} {r : eR} {ls : Array Slot}
    (hd : decode (eBy k) pc = .ok (i, len)) (hc : eChk k (pc, i, len) = true) (hI : eIv B ro cA D AH s H locs) (hsz : H.size = B + AH.length) (hB : B ≤ s.heap.size) (h : eHp o (eOwn k) (eIni k) i pc L st AH = some r) :
    ∃ pc' st' AH' dc ds, r = .inl (pc', L, st', AH') ∧ AH'.length = AH.length + dc ∧ eTot AH' = eTot AH + ds ∧ (cells + dc ≤ R.cells → slots + ds ≤ R.slots → (∀ H' locs', eIv B ro cA D AH' s H' locs' → W p l e R s m args below meth c H' locs' (cells + dc) (slots + ds) Q (F0 m pc' ls (st'.map (eRe B ro)))) → W p l e R s m args below meth c H locs cells slots Q (F0 m pc ls (st.map (eRe B ro)))) := by
  obtain ⟨hx, hb, hml, hr, hlk, hin, hown, hts, hK, hRo⟩ := hF
  simp only [eChk, Bool.and_eq_true] at hc
  have hlen := Nat.eq_of_beq_eq_true hc.1.1.1.1
  clear hc
  have hD := eWd_D B ro cA AH
  unfold eHp at h
  split at h
  · rename_i idx hh st1
    have hlen : len = 3 := hlen
    subst hlen
    split at h
    · rename_i ci kf cj fs h1 h2
      split at h
      · rename_i v h3 h4
        cases h
        have h3 := Nat.eq_of_beq_eq_true h3
        subst h3
        have hm := eFind_mem h1
        obtain ⟨hci, hkf⟩ := eLf_lt _ _ hm
        obtain ⟨N, hcl, hN, -, hin1, -⟩ := eCl_ok ci hci
        exact ⟨_, _, _, 0, 0, rfl, rfl, rfl, fun _ _ kk => va_get hx hb hts hin1 hown hK hI.1 hh (eWd_get h2) hcl kf (by rw [← hN]; exact hkf) (hts _ (eLf_in _ _ hm)) (fun _ z => z) (by rw [List.getElem?_map, h4]; rfl) hd (kk H locs hI)⟩
      · cases h
    · cases h
  · rename_i idx st1
    have hlen : len = 3 := hlen
    subst hlen
    split at h
    · rename_i v h1
      cases h
      rcases eRf_eq h1 with ⟨h2, rfl, rfl⟩ | ⟨h2, rfl, rfl⟩
      · rw [h2] at hown
        exact ⟨_, _, _, 0, 0, rfl, rfl, rfl, fun _ _ kk => vk_getf (own := "java/lang/String") hx hb hRo.2.2.2.2.2.2.2.1 hI.2 hown (hts _ (eWs_in eSt_w.2.2.1 rfl)) (fun _ z => z) hd (kk H locs hI)⟩
      · rw [h2] at hown
        exact ⟨_, _, _, 0, 0, rfl, rfl, rfl, fun _ _ kk => vk_getf (own := "java/lang/String") hx hb hRo.2.2.2.2.2.2.2.2.1 hI.2 hown (hts _ (eWs_in eSt_w.2.2.2 rfl)) (fun _ z => z) hd (kk H locs hI)⟩
    · cases h
  · rename_i idx v hh st1
    have hlen : len = 3 := hlen
    subst hlen
    split at h
    · rename_i ci kf cj fs h1 h2
      split at h
      · rename_i f1 f2 f3 fin ty h3 h4 h5 h6
        have h3 := Nat.eq_of_beq_eq_true h3
        subst h3
        have hm := eFind_mem h1
        obtain ⟨hci, hkf⟩ := eLf_lt _ _ hm
        obtain ⟨N, hcl, hN, -, hin1, hty, hnm, -⟩ := eCl_ok ci hci
        have hkN : kf < N := by rw [← hN]; exact hkf
        have hUk : (eU ci kf).2.2.2 = fin := by simp [eU, List.getD_eq_getElem?_getD, h5]
        have hdt : parseFieldDescriptor (eU ci kf).2.2.1 = some ty := by rw [hty kf hkN]; simp [List.getD_eq_getElem?_getD, h6]
        have hkl : kf < (fs.map (eRe B ro)).length := by rw [List.length_map]; exact Nat.blt_eq.mp h4
        have hws : ∀ w : Value, (eWd B ro cA AH).set hh (B + hh, .inr (ci, (fs.map (eRe B ro)).set kf (eRe B ro w))) = eWd B ro cA (AH.set hh (.inr (ci, fs.set kf w))) := by
          intro w
          rw [← eWd_set]
          simp [eReC, List.map_set]
        cases h7 : eFit ty v with
        | false => simp [h7] at h
        | true =>
          obtain ⟨hn, hf⟩ := eFit_ok (B := B) (ro := ro) h7
          cases fin with
          | false =>
            simp only [h7] at h
            cases h
            exact ⟨_, _, _, 0, 0, rfl, by simp, eTot_set h2 (by simp [eSz]), fun _ _ kk => va_put hx hb hts hin1 (fun j => (eFt ci).getD j .int) hty hnm hown hK hI.1 hD hI.2 hh (eWd_get h2) hcl kf hkN (hts _ (eLf_in _ _ hm)) (fun _ z => z) hUk hdt hn hf hkl hd (fun H1 locs1 hP1 _ hS1 => kk H1 locs1 ⟨by rw [← hws]; exact hP1, hS1⟩)⟩
          | true =>
            cases h8 : (eIni k && Nat.beq (eOwn k) ci) with
            | false => simp [h7, h8] at h
            | true =>
              simp only [h7, h8] at h
              cases h
              simp only [Bool.and_eq_true] at h8
              have ho := Nat.eq_of_beq_eq_true h8.2
              have hdc : (eU ci kf).1 = eN (eOwn k) := by rw [ho]; exact eFc_ok ci kf hci hkf
              exact ⟨_, _, _, 0, 0, rfl, by simp, eTot_set h2 (by simp [eSz]), fun _ _ kk => va_putF hx hb hts hin1 (fun j => (eFt ci).getD j .int) hty hnm hown hK hI.1 hD hI.2 hh (eWd_get h2) hcl kf hkN (hts _ (eLf_in _ _ hm)) (fun _ z => z) hUk (hin h8.1) hdc hdt hn hf hkl hd (fun H1 locs1 hP1 _ hS1 => kk H1 locs1 ⟨by rw [← hws]; exact hP1, hS1⟩)⟩
      · cases h
    · cases h
  · rename_i idx st1
    have hlen : len = 3 := hlen
    subst hlen
    split at h
    · rename_i v h1
      cases h
      rcases eGs_eq h1 with ⟨h2, rfl, rfl⟩ | ⟨h2, rfl, rfl⟩
      · rw [h2] at hown
        exact ⟨_, _, _, 0, 0, rfl, rfl, rfl, fun _ _ kk => va_gets (own := "DownAsUp$Ways") hx hb hRo.2.2.2.1 hI.2 hown (hts _ (eWs_in eSt_w.1 rfl)) (fun _ z => z) hd (kk H locs hI)⟩
      · rw [h2] at hown
        exact ⟨_, _, _, 0, 0, rfl, rfl, rfl, fun _ _ kk => va_gets (own := "java/lang/String") hx hb hRo.2.2.2.2.1 hI.2 hown (hts _ (eWs_in eSt_w.2.1 rfl)) (fun _ z => z) hd (kk H locs hI)⟩
    · cases h
  · rename_i ix hh st1
    have hlen : len = 1 := hlen
    subst hlen
    split at h
    · rename_i n f h1
      split at h
      · cases h
      · rename_i h2
        cases h
        exact ⟨_, _, _, 0, 0, rfl, rfl, rfl, fun _ _ kk => va_iald hx hb hK hI.1 hh 0 (eWd_get h1) rfl (eOut_ok h2) hd (kk H locs hI)⟩
    · cases h
  · rename_i ix kr st1
    have hlen : len = 1 := hlen
    subst hlen
    split at h
    · rename_i n f h1
      split at h
      · cases h
      · rename_i h2
        cases h
        rcases eRoA_eq hRo h1 with ⟨h3, h4⟩ | ⟨h3, h4⟩
        · exact ⟨_, _, _, 0, 0, rfl, rfl, rfl, fun _ _ kk => va_ti hx hb h4 hI.2 (eOut_ok h2) rfl hd (kk H locs hI)⟩
        · cases h3
    · cases h
  · rename_i ix hh st1
    have hlen : len = 1 := hlen
    subst hlen
    split at h
    · rename_i n f h1
      split at h
      · cases h
      · rename_i h2
        cases h
        exact ⟨_, _, _, 0, 0, rfl, rfl, rfl, fun _ _ kk => va_zald hx hb hK hI.1 hh 2 (eWd_get h1) rfl (eOut_ok h2) hd (kk H locs hI)⟩
    · cases h
  · rename_i ix kr st1
    have hlen : len = 1 := hlen
    subst hlen
    split at h
    · rename_i n f h1
      split at h
      · cases h
      · rename_i h2
        cases h
        rcases eRoA_eq hRo h1 with ⟨h3, h4⟩ | ⟨h3, h4⟩
        · cases h3
        · exact ⟨_, _, _, 0, 0, rfl, rfl, rfl, fun _ _ kk => va_tb hx hb h4 hI.2 (eOut_ok h2) rfl hd (kk H locs hI)⟩
    · cases h
  · rename_i ix hh st1
    have hlen : len = 1 := hlen
    subst hlen
    split at h
    · rename_i n f h1
      split at h
      · cases h
      · rename_i h2
        cases h
        exact ⟨_, _, _, 0, 0, rfl, rfl, rfl, fun _ _ kk => va_cald hx hb hK hI.1 hh 3 (eWd_get h1) rfl (eOut_ok h2) hd (kk H locs hI)⟩
    · cases h
  · rename_i ix hh st1
    have hlen : len = 1 := hlen
    subst hlen
    split at h
    · rename_i n f h1
      split at h
      · cases h
      · rename_i h2
        cases h
        exact ⟨_, _, _, 0, 0, rfl, rfl, rfl, fun _ _ kk => va_lald hx hb hK hI.1 hh 1 (eWd_get h1) rfl (eOut_ok h2) hd (kk H locs hI)⟩
    · cases h
  · rename_i xv ix hh st1
    have hlen : len = 1 := hlen
    subst hlen
    split at h
    · rename_i n f h1
      split at h
      · cases h
      · rename_i h2
        cases h
        exact ⟨_, _, _, 0, 0, rfl, by simp, eTot_set h1 rfl, fun _ _ kk => va_iast hx hb hK hI.1 hD hI.2 hh 0 (eWd_get h1) rfl (eOut_ok h2) hd (fun H1 locs1 hP1 _ hS1 => kk H1 locs1 ⟨by rw [← eWd_set]; exact hP1, hS1⟩)⟩
    · cases h
  · rename_i xv ix hh st1
    have hlen : len = 1 := hlen
    subst hlen
    split at h
    · rename_i n f h1
      split at h
      · cases h
      · rename_i h2
        cases h
        exact ⟨_, _, _, 0, 0, rfl, by simp, eTot_set h1 rfl, fun _ _ kk => va_zast hx hb hK hI.1 hD hI.2 hh 2 (eWd_get h1) rfl (eOut_ok h2) hd (fun H1 locs1 hP1 _ hS1 => kk H1 locs1 ⟨by rw [← eWd_set]; exact hP1, hS1⟩)⟩
    · cases h
  · rename_i xv ix hh st1
    have hlen : len = 1 := hlen
    subst hlen
    split at h
    · rename_i n f h1
      split at h
      · cases h
      · rename_i h2
        cases h
        exact ⟨_, _, _, 0, 0, rfl, by simp, eTot_set h1 rfl, fun _ _ kk => va_cast hx hb hK hI.1 hD hI.2 hh 3 (eWd_get h1) rfl (eOut_ok h2) hd (fun H1 locs1 hP1 _ hS1 => kk H1 locs1 ⟨by rw [← eWd_set]; exact hP1, hS1⟩)⟩
    · cases h
  · rename_i xv ix hh st1
    have hlen : len = 1 := hlen
    subst hlen
    split at h
    · rename_i n f h1
      split at h
      · cases h
      · rename_i h2
        cases h
        exact ⟨_, _, _, 0, 0, rfl, by simp, eTot_set h1 rfl, fun _ _ kk => va_last hx hb hK hI.1 hD hI.2 hh 1 (eWd_get h1) rfl (eOut_ok h2) hd (fun H1 locs1 hP1 _ hS1 => kk H1 locs1 ⟨by rw [← eWd_set]; exact hP1, hS1⟩)⟩
    · cases h
  · rename_i hh st1
    have hlen : len = 1 := hlen
    subst hlen
    split at h
    · rename_i t n f h1
      split at h
      · rename_i h2
        cases h
        have ht : t < 5 := Nat.blt_eq.mp h2
        refine ⟨_, _, _, 0, 0, rfl, rfl, rfl, fun _ _ kk => ?_⟩
        have hty : ∃ ty, (eTys cA)[t]? = some (cA t, ty) := by
          match t, ht with
          | 0, _ => exact ⟨_, rfl⟩
          | 1, _ => exact ⟨_, rfl⟩
          | 2, _ => exact ⟨_, rfl⟩
          | 3, _ => exact ⟨_, rfl⟩
          | 4, _ => exact ⟨_, rfl⟩
        obtain ⟨ty, hty⟩ := hty
        cases f with
        | inl f => exact va_alen hx hb hK hI.1 hh t (eWd_get h1) hty rfl hd (kk H locs hI)
        | inr f => exact va_alen hx hb hK hI.1 hh t (eWd_get h1) hty rfl hd (kk H locs hI)
      · cases h
    · cases h
  · rename_i kr st1
    have hlen : len = 1 := hlen
    subst hlen
    split at h
    · rename_i t n f h1
      cases h
      rcases eRoA_eq hRo h1 with ⟨h3, h4⟩ | ⟨h3, h4⟩
      · exact ⟨_, _, _, 0, 0, rfl, rfl, rfl, fun _ _ kk => va_tlen hx hb h4 hI.2 rfl hd (kk H locs hI)⟩
      · exact ⟨_, _, _, 0, 0, rfl, rfl, rfl, fun _ _ kk => va_tlen hx hb h4 hI.2 rfl hd (kk H locs hI)⟩
    · cases h
  · rename_i ty n st1
    have hlen : len = 2 := hlen
    subst hlen
    split at h
    · rename_i t h1
      split at h
      · cases h
      · rename_i h2
        cases h
        have hn0 : ¬ n < 0 := fun z => h2 (Or.inl z)
        have hn1 : n.toNatClampNeg ≤ 67108864 := Nat.le_of_not_lt fun z => h2 (Or.inr z)
        refine ⟨_, _, _, 1, n.toNatClampNeg, rfl, by simp, by rw [eTot_app, eSz_new], fun hcl hsl kk => ?_⟩
        have key : ∀ (fty : FieldType) (a0 : vp_A), newarray.typeOf ty = fty → Cond.arrayClass fty ∈ eWs → (eTys cA)[t]? = some (cA t, fty) → componentBytes fty ≤ 8 → (∀ z : ClassId, vp_cell z a0 = arrV z n.toNatClampNeg (fun _ => defaultValue fty)) → eReC B ro cA (eNew t n.toNatClampNeg) = .inl (cA t, a0) → (∀ z, va_RA s z fty = (s.vm.findClass ("[" ++ fty.toString) = some z)) → W p l e R s m args below meth c H locs cells slots Q (F0 m pc ls (.int n :: st1.map (eRe B ro))) := by
          intro fty a0 e1 e2 e3 e4 e5 e6 e7
          subst e1
          refine va_newaK hx hb (hts _ e2) rfl hd rfl hn0 rfl (Nat.le_trans (Nat.mul_le_mul hn1 e4) (by decide)) hcl hsl hsz fun H1 z g1 g2 g3 g4 g5 => ?_
          have hz : z = cA t := by
            have q := (hK.2 t _ e3).2
            rw [e7] at q
            exact Option.some.inj (g5.symm.trans q)
          subst hz
          refine kk H1 locs ⟨?_, ?_⟩
          · rw [eWd_app]
            refine (hI.1.kept fun q x hx1 => g3 x.1 (by rw [← hsz]; exact (hI.1 q x hx1).lt)).app fun q x hx1 => ?_
            have hq : q < 1 := (List.getElem?_eq_some_iff.mp hx1).1
            rw [show q = 0 by omega] at hx1
            cases hx1
            rw [e6]
            show H1[B + AH.length]? = some (vp_cell _ _)
            rw [e5]
            exact g1
          · exact ⟨Nat.le_trans hI.2.1 (by omega), fun x y1 y2 => (g3 x (by rw [← hsz]; exact Nat.lt_of_lt_of_le y1 hI.2.1)).trans (hI.2.2.1 x y1 y2), hI.2.2.2⟩
        cases ty with
        | int => cases h1; exact key .int (_, .inl fun _ => 0) rfl (eWs_in eAr_int rfl) rfl (by decide) (fun _ => rfl) rfl (fun _ => rfl)
        | long => cases h1; exact key .long (_, .inr (.inl fun _ => 0)) rfl (eWs_in eAr_long rfl) rfl (by decide) (fun _ => rfl) rfl (fun _ => rfl)
        | boolean => cases h1; exact key .boolean (_, .inl fun _ => 0) rfl (eWs_in eAr_boolean rfl) rfl (by decide) (fun _ => rfl) rfl (fun _ => rfl)
        | char => cases h1; exact key .char (_, .inl fun _ => 0) rfl (eWs_in eAr_char rfl) rfl (by decide) (fun _ => rfl) rfl (fun _ => rfl)
        | _ => cases h1
    · cases h
  · rename_i idx
    have hlen : len = 3 := hlen
    subst hlen
    split at h
    · rename_i ci h1
      cases h
      have hm := eFind_mem h1
      have hci := eLn_lt _ _ hm
      obtain ⟨N, hcl, hN, -, hin1, hty, hnm, hins, hini⟩ := eCl_ok ci hci
      refine ⟨_, _, _, 1, N, rfl, by simp, by rw [eTot_app]; simp [eSz, hN], fun hcel hslo kk => ?_⟩
      have hKn := hK.1 ci _ hcl
      refine W.newcK hx hb hown (hts _ (eLn_in _ _ hm)) (hts _ hins) (hts _ hini) rfl hd hcel hslo hKn.2.1 hsz fun H1 kC g0 g1 g2 g3 => ?_
      refine kk H1 locs ⟨?_, ?_⟩
      · rw [eWd_app]
        refine (hI.1.kept fun q x hx1 => g3 x.1 (by rw [← hsz]; exact (hI.1 q x hx1).lt)).app fun q x hx1 => ?_
        have hq : q < 1 := (List.getElem?_eq_some_iff.mp hx1).1
        rw [show q = 0 by omega] at hx1
        cases hx1
        refine ⟨_, hcl, (u_born (fun j => (eFt ci).getD j .int) hts hin1 hKn g0 g1 hty).to fun j hj => ?_⟩
        have hj' : j < (eFt ci).length := by rw [hN]; exact hj
        simp [vp_V, List.getD_eq_getElem?_getD, hj', eDef_ok]
      · exact ⟨Nat.le_trans hI.2.1 (by omega), fun x y1 y2 => (g3 x (by rw [← hsz]; exact Nat.lt_of_lt_of_le y1 hI.2.1)).trans (hI.2.2.1 x y1 y2), hI.2.2.2⟩
    · cases h
  · cases h
end E3
