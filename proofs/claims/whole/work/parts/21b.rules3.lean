/-! rows of numbers up to what lies behind their ends; heaps that differ in some cells alone -/
def arN (t : Nat) (H : eH) (a n : Nat) (g : Nat → Int32) : Prop := ∃ f, H[a]? = some (.inl (t, n, .inl f)) ∧ ∀ p, p < n → f p = g p
def arJ (H : eH) (a n : Nat) (g : Nat → Int64) : Prop := ∃ f, H[a]? = some (.inl (1, n, .inr f)) ∧ ∀ p, p < n → f p = g p
abbrev arI := arN 0
/-- the heaps differ between lo and hi alone -/
def off (lo hi : Nat) (H H1 : eH) : Prop := H1.length = H.length ∧ ∀ a, (a < lo ∨ hi ≤ a) → H1[a]? = H[a]?
theorem off_rfl {lo hi : Nat} {H : eH} : off lo hi H H := ⟨rfl, fun _ _ => rfl⟩
theorem off_trans {lo hi : Nat} {H H1 H2 : eH} (h : off lo hi H H1) (h2 : off lo hi H1 H2) : off lo hi H H2 := ⟨h2.1.trans h.1, fun a ha => (h2.2 a ha).trans (h.2 a ha)⟩
theorem off_wide {lo hi lo' hi' : Nat} {H H1 : eH} (h : off lo hi H H1) (h1 : lo' ≤ lo) (h2 : hi ≤ hi') : off lo' hi' H H1 := ⟨h.1, fun a ha => h.2 a (by omega)⟩
theorem off_set {a : Nat} {c : eC} {H : eH} : off a (a + 1) H (H.set a c) := ⟨by simp, fun b hb => List.getElem?_set_ne (by omega)⟩
theorem off_ob {lo hi a : Nat} {H H1 : eH} {c : eC} (h : off lo hi H H1) (hc : H[a]? = some c) (ha : a < lo ∨ hi ≤ a) : H1[a]? = some c := (h.2 a ha).trans hc
theorem off_ar {t lo hi a n : Nat} {H H1 : eH} {g : Nat → Int32} (h : off lo hi H H1) (hc : arN t H a n g) (ha : a < lo ∨ hi ≤ a) : arN t H1 a n g := by
  obtain ⟨f, h1, h2⟩ := hc
  exact ⟨f, (h.2 a ha).trans h1, h2⟩
theorem off_aj {lo hi a n : Nat} {H H1 : eH} {g : Nat → Int64} (h : off lo hi H H1) (hc : arJ H a n g) (ha : a < lo ∨ hi ≤ a) : arJ H1 a n g := by
  obtain ⟨f, h1, h2⟩ := hc
  exact ⟨f, (h.2 a ha).trans h1, h2⟩
theorem arN_ext {t a n : Nat} {H : eH} {g g' : Nat → Int32} (h : arN t H a n g) (he : ∀ p, p < n → g p = g' p) : arN t H a n g' := by
  obtain ⟨f, h1, h2⟩ := h
  exact ⟨f, h1, fun p hp => (h2 p hp).trans (he p hp)⟩
theorem upd_cg {f g : Nat → Int32} {n p : Nat} {x : Int32} (h : ∀ q, q < n → f q = g q) : ∀ q, q < n → upd f p x q = upd g p x q := by
  intro q hq
  unfold upd
  split
  · rfl
  · exact h q hq
section G4
variable {o : eO} {k pc l : Nat} {L : eL} {st : List Value} {H : eH} {r : eP}
theorem g_iald_a {a n p : Nat} {f : Nat → Int32} (h : eAt k pc = some (.iaload, 1)) (hH : arN 0 H a n f) (hp : p < n) (hn : n ≤ 1000000) (g : eG o k (pc + 1) L (.int (f p) :: st) H r) : eG o k pc L (.int (nI p) :: .ref a :: st) H r := by
  obtain ⟨f', h1, h2⟩ := hH
  exact g_iald h h1 (eOut_nI hp hn) (by rw [nI_clamp (by omega), h2 p hp]; exact g)
theorem g_bald_a {a n p : Nat} {f : Nat → Int32} (h : eAt k pc = some (.baload, 1)) (hH : arN 2 H a n f) (hp : p < n) (hn : n ≤ 1000000) (g : eG o k (pc + 1) L (.int (f p) :: st) H r) : eG o k pc L (.int (nI p) :: .ref a :: st) H r := by
  obtain ⟨f', h1, h2⟩ := hH
  exact g_bald h h1 (eOut_nI hp hn) (by rw [nI_clamp (by omega), h2 p hp]; exact g)
theorem g_cald_a {a n p : Nat} {f : Nat → Int32} (h : eAt k pc = some (.caload, 1)) (hH : arN 3 H a n f) (hp : p < n) (hn : n ≤ 1000000) (g : eG o k (pc + 1) L (.int (f p) :: st) H r) : eG o k pc L (.int (nI p) :: .ref a :: st) H r := by
  obtain ⟨f', h1, h2⟩ := hH
  exact g_cald h h1 (eOut_nI hp hn) (by rw [nI_clamp (by omega), h2 p hp]; exact g)
theorem g_lald_a {a n p : Nat} {f : Nat → Int64} (h : eAt k pc = some (.laload, 1)) (hH : arJ H a n f) (hp : p < n) (hn : n ≤ 1000000) (g : eG o k (pc + 1) L (.long (f p) :: st) H r) : eG o k pc L (.int (nI p) :: .ref a :: st) H r := by
  obtain ⟨f', h1, h2⟩ := hH
  exact g_lald h h1 (eOut_nI hp hn) (by rw [nI_clamp (by omega), h2 p hp]; exact g)
theorem eSet_at {H : eH} {a : Nat} {c c' : eC} (h : H[a]? = some c) : (H.set a c')[a]? = some c' := List.getElem?_set_self (List.getElem?_eq_some_iff.mp h).1
theorem g_iast_a {a n p : Nat} {f : Nat → Int32} {x : Int32} (h : eAt k pc = some (.iastore, 1)) (hH : arN 0 H a n f) (hp : p < n) (hn : n ≤ 1000000) (g : ∀ H1, arN 0 H1 a n (upd f p x) → off a (a + 1) H H1 → eG o k (pc + 1) L st H1 r) : eG o k pc L (.int x :: .int (nI p) :: .ref a :: st) H r := by
  obtain ⟨f', h1, h2⟩ := hH
  exact g_iast h h1 (eOut_nI hp hn) (by rw [nI_clamp (by omega)]; exact g _ ⟨_, eSet_at h1, upd_cg h2⟩ off_set)
theorem g_bast_a {a n p : Nat} {f : Nat → Int32} {x : Int32} (h : eAt k pc = some (.bastore, 1)) (hH : arN 2 H a n f) (hp : p < n) (hn : n ≤ 1000000) (g : ∀ H1, arN 2 H1 a n (upd f p (x &&& 1)) → off a (a + 1) H H1 → eG o k (pc + 1) L st H1 r) : eG o k pc L (.int x :: .int (nI p) :: .ref a :: st) H r := by
  obtain ⟨f', h1, h2⟩ := hH
  exact g_bast h h1 (eOut_nI hp hn) (by rw [nI_clamp (by omega)]; exact g _ ⟨_, eSet_at h1, upd_cg h2⟩ off_set)
theorem g_cast_a {a n p : Nat} {f : Nat → Int32} {x : Int32} (h : eAt k pc = some (.castore, 1)) (hH : arN 3 H a n f) (hp : p < n) (hn : n ≤ 1000000) (g : ∀ H1, arN 3 H1 a n (upd f p (vp_nar .char x)) → off a (a + 1) H H1 → eG o k (pc + 1) L st H1 r) : eG o k pc L (.int x :: .int (nI p) :: .ref a :: st) H r := by
  obtain ⟨f', h1, h2⟩ := hH
  exact g_cast h h1 (eOut_nI hp hn) (by rw [nI_clamp (by omega)]; exact g _ ⟨_, eSet_at h1, upd_cg h2⟩ off_set)
theorem g_last_a {a n p : Nat} {f : Nat → Int64} {x : Int64} (h : eAt k pc = some (.lastore, 1)) (hH : arJ H a n f) (hp : p < n) (hn : n ≤ 1000000) (g : ∀ H1, arJ H1 a n (vp_updL f p x) → off a (a + 1) H H1 → eG o k (pc + 1) L st H1 r) : eG o k pc L (.long x :: .int (nI p) :: .ref a :: st) H r := by
  obtain ⟨f', h1, h2⟩ := hH
  refine g_last h h1 (eOut_nI hp hn) ?_
  rw [nI_clamp (by omega)]
  refine g _ ⟨_, eSet_at h1, fun q hq => ?_⟩ off_set
  unfold vp_updL
  split
  · rfl
  · exact h2 q hq
theorem g_putf_a {idx ci j a : Nat} {fs : List Value} {v : Value} {nm : String × String × String × Bool} {ty : FieldType} (h : eAt k pc = some (.putfield idx, 3)) (hl : eFind (eLf (eOwn k)) idx = some (ci, j)) (hH : H[a]? = some (.inr (ci, fs))) (hj : Nat.blt j fs.length = true) (hn : (eFd ci)[j]? = some nm) (ht : (eFt ci)[j]? = some ty) (hf : eFit ty v = true) (hfin : nm.2.2.2 = false) (g : ∀ H1, H1[a]? = some (.inr (ci, fs.set j v)) → off a (a + 1) H H1 → eG o k (pc + 3) L st H1 r) : eG o k pc L (v :: .ref a :: st) H r :=
  g_putf h hl hH hj hn ht hf (Or.inl hfin) (g _ (eSet_at hH) off_set)
theorem g_alen_a {a t n : Nat} {f : Nat → Int32} (h : eAt k pc = some (.arraylength, 1)) (hH : arN t H a n f) (ht : Nat.blt t 5 = true) (g : eG o k (pc + 1) L (.int (nI n) :: st) H r) : eG o k pc L (.ref a :: st) H r := by
  obtain ⟨f', h1, -⟩ := hH
  exact g_alen h h1 ht g
/-- arraycopy of ints, places and length numbers -/
theorem g_cpy_a {idx a b n0 n1 sp dp m : Nat} {f g : Nat → Int32} (h : eAt k pc = some (.invokestatic idx, 3)) (hac : eHas eAc (eOwn k) idx = true) (hA : arN 0 H a n0 f) (hB : arN 0 H b n1 g) (h1 : sp + m ≤ n0) (h2 : dp + m ≤ n1) (h0 : n0 ≤ 1000000) (h01 : n1 ≤ 1000000) (hw : Nat.ble (eWords st) 8 = true) (gg : ∀ H1, arN 0 H1 b n1 (fun j => if dp ≤ j ∧ j < dp + m then f (sp + (j - dp)) else g j) → off b (b + 1) H H1 → eG o k (pc + 3) L st H1 r) : eG o k pc L (.int (nI m) :: .int (nI dp) :: .ref b :: .int (nI sp) :: .ref a :: st) H r := by
  obtain ⟨f', e1, e2⟩ := hA
  obtain ⟨g', e3, e4⟩ := hB
  have c1 : (nI sp).toNatClampNeg = sp := nI_clamp (by omega)
  have c2 : (nI dp).toNatClampNeg = dp := nI_clamp (by omega)
  have c3 : (nI m).toNatClampNeg = m := nI_clamp (by omega)
  have p1 : ¬ nI sp < 0 := nI_pos (by omega)
  have p2 : ¬ nI dp < 0 := nI_pos (by omega)
  have p3 : ¬ nI m < 0 := nI_pos (by omega)
  refine g_step h ?_ (gg _ ⟨va_cpy f' g' sp dp m, eSet_at e3, fun q hq => ?_⟩ off_set)
  · show eCall k (eOwn k) (.invokestatic idx) pc L _ H = _
    simp only [eCall, hac, eCpy, e1, e3, c1, c2, c3, p1, p2, p3, Nat.ble_eq_true_of_le h1, Nat.ble_eq_true_of_le h2, hw, or_self, if_false]
  · show (if dp ≤ q ∧ q < dp + m then f' (sp + (q - dp)) else g' q) = (if dp ≤ q ∧ q < dp + m then f (sp + (q - dp)) else g q)
    by_cases hc : dp ≤ q ∧ q < dp + m
    · rw [if_pos hc, if_pos hc]
      exact e2 _ (by omega)
    · rw [if_neg hc, if_neg hc]
      exact e4 q hq
end G4
theorem g_top {o : eO} {k pc : Nat} {L : eL} {st : List Value} {H : eH} {r : eP} {x y : Int32} (e : x = y) (g : eG o k pc L (.int y :: st) H r) : eG o k pc L (.int x :: st) H r := e ▸ g
theorem nI_mul (a b : Nat) : nI a * nI b = nI (a * b) := by
  show Int32.ofNat a * Int32.ofNat b = Int32.ofNat (a * b)
  rw [Int32.ofNat_mul]
