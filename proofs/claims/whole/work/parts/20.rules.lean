/-! ===== THE PURE WORLD: what the engine does, by rules ===== -/
abbrev eP : Type := Option Value × eH → Prop
def eG (o : eO) (k pc : Nat) (L : eL) (st : List Value) (H : eH) (r : eP) : Prop := ∃ n v, eX o n k pc L st H = some v ∧ r v
/-- just this answer and this heap -/
abbrev rv (v : Option Value) (H : eH) : eP := fun z => z = (v, H)
theorem eX_succ {o : eO} : ∀ {n k pc : Nat} {L : eL} {st : List Value} {H : eH} {r : Option Value × eH}, eX o n k pc L st H = some r → eX o (n + 1) k pc L st H = some r := by
  intro n
  induction n with
  | zero => intro k pc L st H r h; cases h
  | succ n ih =>
    intro k pc L st H r h
    unfold eX at h ⊢
    cases hat : eAt k pc with
    | none => rw [hat] at h; cases h
    | some il =>
      obtain ⟨i, len⟩ := il
      rw [hat] at h
      dsimp only at h ⊢
      cases hst : eStep o k i pc L st H with
      | none => rw [hst] at h; cases h
      | some q =>
        rw [hst] at h
        rcases q with ⟨pc', L', st', H'⟩ | w | ⟨q, as, pc', L', st', H'⟩
        · exact ih h
        · exact h
        · dsimp only at h ⊢
          cases hle : Nat.ble (eArgs as).length (eMx.getD q 0) with
          | false => rw [hle] at h; cases h
          | true =>
            cases hx : eX o n q 0 (eEnt q as) [] H' with
            | none => rw [hle, hx] at h; cases h
            | some z =>
              obtain ⟨w, H1⟩ := z
              rw [hle, hx] at h
              rw [ih hx]
              exact ih h
theorem eX_le {o : eO} {n m k pc : Nat} {L : eL} {st : List Value} {H : eH} {r : Option Value × eH} (h : eX o n k pc L st H = some r) (hm : n ≤ m) : eX o m k pc L st H = some r := by
  obtain ⟨d, rfl⟩ := Nat.exists_eq_add_of_le hm
  clear hm
  induction d with
  | zero => exact h
  | succ d ih => exact eX_succ ih
/-- a stretch of steps without calls, all at once -/
def eRun (o : eO) (k : Nat) : Nat → eF → Option eF
  | 0, f => some f
  | n + 1, (pc, L, st, H) => match eAt k pc with
    | none => none
    | some (i, _) => match eStep o k i pc L st H with
      | some (.inl f) => eRun o k n f
      | _ => none
section G
variable {o : eO} {k pc l : Nat} {L : eL} {st : List Value} {H : eH} {r : eP}
theorem g_step {i : Instr} {pc' : Nat} {L' : eL} {st' : List Value} {H' : eH} (h : eAt k pc = some (i, l)) (hs : eStep o k i pc L st H = some (.inl (pc', L', st', H'))) (g : eG o k pc' L' st' H' r) : eG o k pc L st H r := by
  obtain ⟨n, v, hn, hv⟩ := g
  refine ⟨n + 1, v, ?_, hv⟩
  unfold eX
  rw [h]
  dsimp only
  rw [hs]
  exact hn
theorem g_run (n : Nat) (pc' : Nat) (L' : eL) (st' : List Value) (H' : eH) (h : eRun o k n (pc, L, st, H) = some (pc', L', st', H')) (g : eG o k pc' L' st' H' r) : eG o k pc L st H r := by
  induction n generalizing pc L st H with
  | zero => cases h; exact g
  | succ n ih =>
    unfold eRun at h
    cases hat : eAt k pc with
    | none => rw [hat] at h; cases h
    | some il =>
      obtain ⟨i, len⟩ := il
      rw [hat] at h
      dsimp only at h
      cases hst : eStep o k i pc L st H with
      | none => rw [hst] at h; cases h
      | some q =>
        rw [hst] at h
        rcases q with ⟨pc2, L2, st2, H2⟩ | q
        · exact g_step hat hst (ih h)
        · cases h
theorem g_ret {i : Instr} {v : Option Value × eH} (h : eAt k pc = some (i, l)) (hs : eStep o k i pc L st H = some (.inr (.inl v))) (hv : r v) : eG o k pc L st H r := by
  refine ⟨1, v, ?_, hv⟩
  unfold eX
  rw [h]
  dsimp only
  rw [hs]
theorem g_callS {i : Instr} {q pc' : Nat} {as : List Value} {L' : eL} {st' : List Value} {H' : eH} {P : eP} (h : eAt k pc = some (i, l)) (hs : eStep o k i pc L st H = some (.inr (.inr (q, as, (pc', L', st', H'))))) (hle : Nat.ble (eArgs as).length (eMx.getD q 0) = true) (gq : eG o q 0 (eEnt q as) [] H' P) (g : ∀ v H1, P (v, H1) → eG o k pc' L' (v.toList ++ st') H1 r) : eG o k pc L st H r := by
  obtain ⟨m, z, hm, hz⟩ := gq
  obtain ⟨v, H1⟩ := z
  obtain ⟨n, w, hn, hw⟩ := g v H1 hz
  refine ⟨max n m + 1, w, ?_, hw⟩
  unfold eX
  rw [h]
  dsimp only
  rw [hs]
  dsimp only
  rw [hle, eX_le hm (Nat.le_max_right n m)]
  exact eX_le hn (Nat.le_max_left n m)
theorem g_call {i : Instr} {q pc' : Nat} {as : List Value} {L' : eL} {st' : List Value} {H' H1 : eH} {v : Option Value} (h : eAt k pc = some (i, l)) (hs : eStep o k i pc L st H = some (.inr (.inr (q, as, (pc', L', st', H'))))) (hle : Nat.ble (eArgs as).length (eMx.getD q 0) = true) (gq : eG o q 0 (eEnt q as) [] H' (rv v H1)) (g : eG o k pc' L' (v.toList ++ st') H1 r) : eG o k pc L st H r :=
  g_callS h hs hle gq (fun v' H1' e => by cases e; exact g)
theorem g_getf {idx ci j a : Nat} {fs : List Value} {v : Value} (h : eAt k pc = some (.getfield idx, 3)) (hl : eFind (eLf (eOwn k)) idx = some (ci, j)) (hH : H[a]? = some (.inr (ci, fs))) (hv : fs[j]? = some v) (g : eG o k (pc + 3) L (v :: st) H r) : eG o k pc L (.ref a :: st) H r := by
  refine g_step h ?_ g
  show eHp o (eOwn k) (eIni k) (.getfield idx) pc L (.ref a :: st) H = _
  simp only [eHp, hl, hH, Nat.beq_refl, hv, ePush]
theorem g_putf {idx ci j a : Nat} {fs : List Value} {v : Value} {nm : String × String × String × Bool} {ty : FieldType} (h : eAt k pc = some (.putfield idx, 3)) (hl : eFind (eLf (eOwn k)) idx = some (ci, j)) (hH : H[a]? = some (.inr (ci, fs))) (hj : Nat.blt j fs.length = true) (hn : (eFd ci)[j]? = some nm) (ht : (eFt ci)[j]? = some ty) (hf : eFit ty v = true) (hfin : nm.2.2.2 = false ∨ (eIni k && Nat.beq (eOwn k) ci) = true) (g : eG o k (pc + 3) L st (H.set a (.inr (ci, fs.set j v))) r) : eG o k pc L (v :: .ref a :: st) H r := by
  refine g_step h ?_ g
  show eHp o (eOwn k) (eIni k) (.putfield idx) pc L (v :: .ref a :: st) H = _
  obtain ⟨n1, n2, n3, fin⟩ := nm
  simp only [eHp, hl, hH, Nat.beq_refl, hj, hn, ht, hf]
  rcases hfin with hf2 | hf2
  · dsimp only at hf2
    subst hf2
    rfl
  · rw [hf2]
    cases fin <;> rfl
theorem g_iald {a n : Nat} {f : Nat → Int32} {i : Int32} (h : eAt k pc = some (.iaload, 1)) (hH : H[a]? = some (.inl (0, n, .inl f))) (hi : eOut i n = false) (g : eG o k (pc + 1) L (.int (f i.toNatClampNeg) :: st) H r) : eG o k pc L (.int i :: .ref a :: st) H r := by
  refine g_step h ?_ g
  show eHp o (eOwn k) (eIni k) .iaload pc L (.int i :: .ref a :: st) H = _
  simp only [eHp, hH, hi, ePush]
theorem g_bald {a n : Nat} {f : Nat → Int32} {i : Int32} (h : eAt k pc = some (.baload, 1)) (hH : H[a]? = some (.inl (2, n, .inl f))) (hi : eOut i n = false) (g : eG o k (pc + 1) L (.int (f i.toNatClampNeg) :: st) H r) : eG o k pc L (.int i :: .ref a :: st) H r := by
  refine g_step h ?_ g
  show eHp o (eOwn k) (eIni k) .baload pc L (.int i :: .ref a :: st) H = _
  simp only [eHp, hH, hi, ePush]
theorem g_cald {a n : Nat} {f : Nat → Int32} {i : Int32} (h : eAt k pc = some (.caload, 1)) (hH : H[a]? = some (.inl (3, n, .inl f))) (hi : eOut i n = false) (g : eG o k (pc + 1) L (.int (f i.toNatClampNeg) :: st) H r) : eG o k pc L (.int i :: .ref a :: st) H r := by
  refine g_step h ?_ g
  show eHp o (eOwn k) (eIni k) .caload pc L (.int i :: .ref a :: st) H = _
  simp only [eHp, hH, hi, ePush]
theorem g_lald {a n : Nat} {f : Nat → Int64} {i : Int32} (h : eAt k pc = some (.laload, 1)) (hH : H[a]? = some (.inl (1, n, .inr f))) (hi : eOut i n = false) (g : eG o k (pc + 1) L (.long (f i.toNatClampNeg) :: st) H r) : eG o k pc L (.int i :: .ref a :: st) H r := by
  refine g_step h ?_ g
  show eHp o (eOwn k) (eIni k) .laload pc L (.int i :: .ref a :: st) H = _
  simp only [eHp, hH, hi, ePush]
theorem g_iast {a n : Nat} {f : Nat → Int32} {i x : Int32} (h : eAt k pc = some (.iastore, 1)) (hH : H[a]? = some (.inl (0, n, .inl f))) (hi : eOut i n = false) (g : eG o k (pc + 1) L st (H.set a (.inl (0, n, .inl (upd f i.toNatClampNeg x)))) r) : eG o k pc L (.int x :: .int i :: .ref a :: st) H r := by
  refine g_step h ?_ g
  show eHp o (eOwn k) (eIni k) .iastore pc L (.int x :: .int i :: .ref a :: st) H = _
  simp only [eHp, hH, hi]
theorem g_bast {a n : Nat} {f : Nat → Int32} {i x : Int32} (h : eAt k pc = some (.bastore, 1)) (hH : H[a]? = some (.inl (2, n, .inl f))) (hi : eOut i n = false) (g : eG o k (pc + 1) L st (H.set a (.inl (2, n, .inl (upd f i.toNatClampNeg (vp_nar .boolean x))))) r) : eG o k pc L (.int x :: .int i :: .ref a :: st) H r := by
  refine g_step h ?_ g
  show eHp o (eOwn k) (eIni k) .bastore pc L (.int x :: .int i :: .ref a :: st) H = _
  simp only [eHp, hH, hi]
theorem g_cast {a n : Nat} {f : Nat → Int32} {i x : Int32} (h : eAt k pc = some (.castore, 1)) (hH : H[a]? = some (.inl (3, n, .inl f))) (hi : eOut i n = false) (g : eG o k (pc + 1) L st (H.set a (.inl (3, n, .inl (upd f i.toNatClampNeg (vp_nar .char x))))) r) : eG o k pc L (.int x :: .int i :: .ref a :: st) H r := by
  refine g_step h ?_ g
  show eHp o (eOwn k) (eIni k) .castore pc L (.int x :: .int i :: .ref a :: st) H = _
  simp only [eHp, hH, hi]
theorem g_last {a n : Nat} {f : Nat → Int64} {i : Int32} {x : Int64} (h : eAt k pc = some (.lastore, 1)) (hH : H[a]? = some (.inl (1, n, .inr f))) (hi : eOut i n = false) (g : eG o k (pc + 1) L st (H.set a (.inl (1, n, .inr (vp_updL f i.toNatClampNeg x)))) r) : eG o k pc L (.long x :: .int i :: .ref a :: st) H r := by
  refine g_step h ?_ g
  show eHp o (eOwn k) (eIni k) .lastore pc L (.long x :: .int i :: .ref a :: st) H = _
  simp only [eHp, hH, hi]
theorem g_alen {a t n : Nat} {f : (Nat → Int32) ⊕ (Nat → Int64)} (h : eAt k pc = some (.arraylength, 1)) (hH : H[a]? = some (.inl (t, n, f))) (ht : Nat.blt t 5 = true) (g : eG o k (pc + 1) L (.int (Int32.ofNat n) :: st) H r) : eG o k pc L (.ref a :: st) H r := by
  refine g_step h ?_ g
  show eHp o (eOwn k) (eIni k) .arraylength pc L (.ref a :: st) H = _
  simp only [eHp, hH, ht, ePush]
theorem g_vir {idx q a pc' : Nat} {as st' : List Value} {fs : List Value} {H1 : eH} {v : Option Value} (h : eAt k pc = some (.invokevirtual idx, 3)) (hq : eFind (eLv (eOwn k)) idx = some q) (hp : ePop (eNa.getD q 0) [] st = some (as, .ref a :: st')) (hH : H[a]? = some (.inr (eOwn q, fs))) (hw : Nat.ble (eWords st') 8 = true) (hle : Nat.ble (eArgs (.ref a :: as)).length (eMx.getD q 0) = true) (gq : eG o q 0 (eEnt q (.ref a :: as)) [] H (rv v H1)) (hpc : pc + 3 = pc') (g : eG o k pc' L (v.toList ++ st') H1 r) : eG o k pc L st H r := by
  subst hpc
  refine g_call h ?_ hle gq g
  show eCall k (eOwn k) (.invokevirtual idx) pc L st H = _
  simp only [eCall, hq, hp, hH, hw, Nat.beq_refl]
theorem g_virS {idx q a pc' : Nat} {as st' : List Value} {fs : List Value} {P : eP} (h : eAt k pc = some (.invokevirtual idx, 3)) (hq : eFind (eLv (eOwn k)) idx = some q) (hp : ePop (eNa.getD q 0) [] st = some (as, .ref a :: st')) (hH : H[a]? = some (.inr (eOwn q, fs))) (hw : Nat.ble (eWords st') 8 = true) (hle : Nat.ble (eArgs (.ref a :: as)).length (eMx.getD q 0) = true) (gq : eG o q 0 (eEnt q (.ref a :: as)) [] H P) (hpc : pc + 3 = pc') (g : ∀ v H1, P (v, H1) → eG o k pc' L (v.toList ++ st') H1 r) : eG o k pc L st H r := by
  subst hpc
  refine g_callS h ?_ hle gq g
  show eCall k (eOwn k) (.invokevirtual idx) pc L st H = _
  simp only [eCall, hq, hp, hH, hw, Nat.beq_refl]
theorem eG_mono {P : eP} (h : eG o k pc L st H r) (hi : ∀ z, r z → P z) : eG o k pc L st H P := by
  obtain ⟨n, v, h1, h2⟩ := h
  exact ⟨n, v, h1, hi v h2⟩
theorem g_icmp {c : ClassFile.Cond} {off : Int} {x y : Int32} (h : eAt k pc = some (.if_icmp c off, 3)) (ht : eCmp c x y = true → eG o k (eTgt pc off) L st H r) (hf : eCmp c x y = false → eG o k (pc + 3) L st H r) : eG o k pc L (.int y :: .int x :: st) H r := by
  cases hc : eCmp c x y with
  | true =>
    refine g_step h ?_ (ht hc)
    show eLoc (eOwn k) (.if_icmp c off) pc L (.int y :: .int x :: st) H = _
    simp only [eLoc, hc]
  | false =>
    refine g_step h ?_ (hf hc)
    show eLoc (eOwn k) (.if_icmp c off) pc L (.int y :: .int x :: st) H = _
    simp only [eLoc, hc]
theorem g_if {c : ClassFile.Cond} {off : Int} {x : Int32} (h : eAt k pc = some (.ifCond c off, 3)) (ht : eCmp c x 0 = true → eG o k (eTgt pc off) L st H r) (hf : eCmp c x 0 = false → eG o k (pc + 3) L st H r) : eG o k pc L (.int x :: st) H r := by
  cases hc : eCmp c x 0 with
  | true =>
    refine g_step h ?_ (ht hc)
    show eLoc (eOwn k) (.ifCond c off) pc L (.int x :: st) H = _
    simp only [eLoc, hc]
  | false =>
    refine g_step h ?_ (hf hc)
    show eLoc (eOwn k) (.ifCond c off) pc L (.int x :: st) H = _
    simp only [eLoc, hc]
end G
