def bI (b : Bool) : Int32 := match b with
  | true => 1
  | false => 0
theorem bI_fit (b : Bool) : eFit .boolean (.int (bI b)) = true := by cases b <;> rfl
theorem eOut_nI {p n : Nat} (hp : p < n) (hn : n ≤ 1000000) : eOut (nI p) n = false := by
  have h1 : (nI p).toNatClampNeg = p := nI_clamp (by omega)
  have h2 : ¬ nI p < 0 := nI_pos (by omega)
  unfold eOut
  rw [h1]
  simp only [h2, decide_false, Bool.false_or]
  cases hb : Nat.ble n p with
  | false => rfl
  | true => exact absurd (Nat.le_of_ble_eq_true hb) (by omega)
section G2
variable {o : eO} {k pc l : Nat} {L : eL} {st : List Value} {H : eH} {r : eP}
theorem g_icmp_eq {off : Int} {x y : Int32} (h : eAt k pc = some (.if_icmp .eq off, 3)) (ht : x = y → eG o k (eTgt pc off) L st H r) (hf : ¬ x = y → eG o k (pc + 3) L st H r) : eG o k pc L (.int y :: .int x :: st) H r := g_icmp h (fun c => ht (of_decide_eq_true c)) (fun c => hf (of_decide_eq_false c))
theorem g_icmp_ne {off : Int} {x y : Int32} (h : eAt k pc = some (.if_icmp .ne off, 3)) (ht : ¬ x = y → eG o k (eTgt pc off) L st H r) (hf : x = y → eG o k (pc + 3) L st H r) : eG o k pc L (.int y :: .int x :: st) H r := g_icmp h (fun c => ht (fun q => by simp [eCmp, q] at c)) (fun c => hf (by simpa [eCmp] using c))
theorem g_icmp_lt {off : Int} {x y : Int32} (h : eAt k pc = some (.if_icmp .lt off, 3)) (ht : x < y → eG o k (eTgt pc off) L st H r) (hf : ¬ x < y → eG o k (pc + 3) L st H r) : eG o k pc L (.int y :: .int x :: st) H r := g_icmp h (fun c => ht (of_decide_eq_true c)) (fun c => hf (of_decide_eq_false c))
theorem g_icmp_ge {off : Int} {x y : Int32} (h : eAt k pc = some (.if_icmp .ge off, 3)) (ht : y ≤ x → eG o k (eTgt pc off) L st H r) (hf : ¬ y ≤ x → eG o k (pc + 3) L st H r) : eG o k pc L (.int y :: .int x :: st) H r := g_icmp h (fun c => ht (of_decide_eq_true c)) (fun c => hf (of_decide_eq_false c))
theorem g_icmp_gt {off : Int} {x y : Int32} (h : eAt k pc = some (.if_icmp .gt off, 3)) (ht : y < x → eG o k (eTgt pc off) L st H r) (hf : ¬ y < x → eG o k (pc + 3) L st H r) : eG o k pc L (.int y :: .int x :: st) H r := g_icmp h (fun c => ht (of_decide_eq_true c)) (fun c => hf (of_decide_eq_false c))
theorem g_icmp_le {off : Int} {x y : Int32} (h : eAt k pc = some (.if_icmp .le off, 3)) (ht : x ≤ y → eG o k (eTgt pc off) L st H r) (hf : ¬ x ≤ y → eG o k (pc + 3) L st H r) : eG o k pc L (.int y :: .int x :: st) H r := g_icmp h (fun c => ht (of_decide_eq_true c)) (fun c => hf (of_decide_eq_false c))
theorem g_if_eq {off : Int} {x : Int32} (h : eAt k pc = some (.ifCond .eq off, 3)) (ht : x = 0 → eG o k (eTgt pc off) L st H r) (hf : ¬ x = 0 → eG o k (pc + 3) L st H r) : eG o k pc L (.int x :: st) H r := g_if h (fun c => ht (of_decide_eq_true c)) (fun c => hf (of_decide_eq_false c))
theorem g_if_ne {off : Int} {x : Int32} (h : eAt k pc = some (.ifCond .ne off, 3)) (ht : ¬ x = 0 → eG o k (eTgt pc off) L st H r) (hf : x = 0 → eG o k (pc + 3) L st H r) : eG o k pc L (.int x :: st) H r := g_if h (fun c => ht (fun q => by simp [eCmp, q] at c)) (fun c => hf (by simpa [eCmp] using c))
theorem g_if_lt {off : Int} {x : Int32} (h : eAt k pc = some (.ifCond .lt off, 3)) (ht : x < 0 → eG o k (eTgt pc off) L st H r) (hf : ¬ x < 0 → eG o k (pc + 3) L st H r) : eG o k pc L (.int x :: st) H r := g_if h (fun c => ht (of_decide_eq_true c)) (fun c => hf (of_decide_eq_false c))
theorem g_if_ge {off : Int} {x : Int32} (h : eAt k pc = some (.ifCond .ge off, 3)) (ht : 0 ≤ x → eG o k (eTgt pc off) L st H r) (hf : ¬ 0 ≤ x → eG o k (pc + 3) L st H r) : eG o k pc L (.int x :: st) H r := g_if h (fun c => ht (of_decide_eq_true c)) (fun c => hf (of_decide_eq_false c))
theorem g_if_gt {off : Int} {x : Int32} (h : eAt k pc = some (.ifCond .gt off, 3)) (ht : 0 < x → eG o k (eTgt pc off) L st H r) (hf : ¬ 0 < x → eG o k (pc + 3) L st H r) : eG o k pc L (.int x :: st) H r := g_if h (fun c => ht (of_decide_eq_true c)) (fun c => hf (of_decide_eq_false c))
theorem g_if_le {off : Int} {x : Int32} (h : eAt k pc = some (.ifCond .le off, 3)) (ht : x ≤ 0 → eG o k (eTgt pc off) L st H r) (hf : ¬ x ≤ 0 → eG o k (pc + 3) L st H r) : eG o k pc L (.int x :: st) H r := g_if h (fun c => ht (of_decide_eq_true c)) (fun c => hf (of_decide_eq_false c))
theorem g_ifb_eq {off : Int} {b : Bool} (h : eAt k pc = some (.ifCond .eq off, 3)) (ht : b = false → eG o k (eTgt pc off) L st H r) (hf : b = true → eG o k (pc + 3) L st H r) : eG o k pc L (.int (bI b) :: st) H r := g_if_eq h (fun c => ht (by cases b <;> first | rfl | exact absurd c (by decide))) (fun c => hf (by cases b <;> first | rfl | exact absurd rfl c))
theorem g_ifb_ne {off : Int} {b : Bool} (h : eAt k pc = some (.ifCond .ne off, 3)) (ht : b = true → eG o k (eTgt pc off) L st H r) (hf : b = false → eG o k (pc + 3) L st H r) : eG o k pc L (.int (bI b) :: st) H r := g_if_ne h (fun c => ht (by cases b <;> first | rfl | exact absurd rfl c)) (fun c => hf (by cases b <;> first | rfl | exact absurd c (by decide)))
theorem g_reti {x y : Int32} {ty : FieldType} (h : eAt k pc = some (.ireturn, 1)) (ht : eRt.getD k none = some ty) (hf : eFit ty (.int x) = true) (e : x = y) : eG o k pc L [.int x] H (rv (some (.int y)) H) := by
  subst e
  refine g_ret h ?_ rfl
  show eCall k (eOwn k) .ireturn pc L [.int x] H = _
  simp only [eCall, ht, hf]
theorem g_retl {x y : Int64} (h : eAt k pc = some (.lreturn, 1)) (ht : eRt.getD k none = some .long) (e : x = y) : eG o k pc L [.long x] H (rv (some (.long y)) H) := by
  subst e
  refine g_ret h ?_ rfl
  show eCall k (eOwn k) .lreturn pc L [.long x] H = _
  simp only [eCall, ht]
theorem g_retiS {x : Int32} {ty : FieldType} (h : eAt k pc = some (.ireturn, 1)) (ht : eRt.getD k none = some ty) (hf : eFit ty (.int x) = true) (e : r (some (.int x), H)) : eG o k pc L [.int x] H r := by
  refine g_ret h ?_ e
  show eCall k (eOwn k) .ireturn pc L [.int x] H = _
  simp only [eCall, ht, hf]
theorem g_retv (h : eAt k pc = some (.return_, 1)) (ht : eRt.getD k (some .int) = none) (e : r (none, H)) : eG o k pc L [] H r := by
  refine g_ret h ?_ e
  show eCall k (eOwn k) .return_ pc L [] H = _
  simp only [eCall, ht]
/-- places that are numbers -/
theorem g_iald_n {a n p : Nat} {f : Nat → Int32} (h : eAt k pc = some (.iaload, 1)) (hH : H[a]? = some (.inl (0, n, .inl f))) (hp : p < n) (hn : n ≤ 1000000) (g : eG o k (pc + 1) L (.int (f p) :: st) H r) : eG o k pc L (.int (nI p) :: .ref a :: st) H r :=
  g_iald h hH (eOut_nI hp hn) (by rw [nI_clamp (by omega)]; exact g)
theorem g_iast_n {a n p : Nat} {f : Nat → Int32} {x : Int32} (h : eAt k pc = some (.iastore, 1)) (hH : H[a]? = some (.inl (0, n, .inl f))) (hp : p < n) (hn : n ≤ 1000000) (g : eG o k (pc + 1) L st (H.set a (.inl (0, n, .inl (upd f p x)))) r) : eG o k pc L (.int x :: .int (nI p) :: .ref a :: st) H r :=
  g_iast h hH (eOut_nI hp hn) (by rw [nI_clamp (by omega)]; exact g)
theorem g_bald_n {a n p : Nat} {f : Nat → Int32} (h : eAt k pc = some (.baload, 1)) (hH : H[a]? = some (.inl (2, n, .inl f))) (hp : p < n) (hn : n ≤ 1000000) (g : eG o k (pc + 1) L (.int (f p) :: st) H r) : eG o k pc L (.int (nI p) :: .ref a :: st) H r :=
  g_bald h hH (eOut_nI hp hn) (by rw [nI_clamp (by omega)]; exact g)
theorem g_sta {idx q pc' : Nat} {as st' : List Value} {H1 : eH} {v : Option Value} (h : eAt k pc = some (.invokestatic idx, 3)) (hac : eHas eAc (eOwn k) idx = false) (hq : eFind (eLs (eOwn k)) idx = some q) (hm : eMth q st = none) (hp : ePop (eNa.getD q 0) [] st = some (as, st')) (hw : Nat.ble (eWords st') 8 = true) (hle : Nat.ble (eArgs as).length (eMx.getD q 0) = true) (gq : eG o q 0 (eEnt q as) [] H (rv v H1)) (hpc : pc + 3 = pc') (g : eG o k pc' L (v.toList ++ st') H1 r) : eG o k pc L st H r := by
  subst hpc
  refine g_call h ?_ hle gq g
  show eCall k (eOwn k) (.invokestatic idx) pc L st H = _
  simp only [eCall, hac, hq, hm, hp, hw]
theorem g_staS {idx q pc' : Nat} {as st' : List Value} {P : eP} (h : eAt k pc = some (.invokestatic idx, 3)) (hac : eHas eAc (eOwn k) idx = false) (hq : eFind (eLs (eOwn k)) idx = some q) (hm : eMth q st = none) (hp : ePop (eNa.getD q 0) [] st = some (as, st')) (hw : Nat.ble (eWords st') 8 = true) (hle : Nat.ble (eArgs as).length (eMx.getD q 0) = true) (gq : eG o q 0 (eEnt q as) [] H P) (hpc : pc + 3 = pc') (g : ∀ v H1, P (v, H1) → eG o k pc' L (v.toList ++ st') H1 r) : eG o k pc L st H r := by
  subst hpc
  refine g_callS h ?_ hle gq g
  show eCall k (eOwn k) (.invokestatic idx) pc L st H = _
  simp only [eCall, hac, hq, hm, hp, hw]
end G2
section G3
variable {o : eO} {k pc l : Nat} {L : eL} {st : List Value} {H : eH} {r : eP}
theorem g_tabv {d lo hi : Int} {offs : Array Int} {x : Int32} (v : Int32) (tgt : Nat) (h : eAt k pc = some (.tableswitch d lo hi offs, l)) (hx : x = v) (ht : (if v.toInt < lo ∨ hi < v.toInt then eTgt pc d else eTgt pc (offs.toList.getD (v.toInt - lo).toNat d)) = tgt) (g : eG o k tgt L st H r) : eG o k pc L (.int x :: st) H r := by
  subst hx
  refine g_step h ?_ g
  show eLoc (eOwn k) (.tableswitch d lo hi offs) pc L (.int x :: st) H = _
  simp only [eLoc, ht]
theorem g_tabd {d lo hi : Int} {offs : Array Int} {x : Int32} (tgt : Nat) (h : eAt k pc = some (.tableswitch d lo hi offs, l)) (hx : x.toInt < lo ∨ hi < x.toInt) (ht : eTgt pc d = tgt) (g : eG o k tgt L st H r) : eG o k pc L (.int x :: st) H r := by
  subst ht
  refine g_step h ?_ g
  show eLoc (eOwn k) (.tableswitch d lo hi offs) pc L (.int x :: st) H = _
  simp only [eLoc, if_pos hx]
end G3
theorem eNe_toInt {x v : Int32} (h : ¬ x = v) : x.toInt ≠ v.toInt := fun q => h (Int32.toInt_inj.mp q)
/-- a part is in a set -/
abbrev bit (s : Int32) (p : Nat) : Prop := (s >>> (nI p &&& 31)) &&& 1 = 1
