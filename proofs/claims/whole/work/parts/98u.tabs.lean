/-! ===== heaps and sites, by number and by part ===== -/
def tab (P : Nat → Bool) (c0 : Nat) (t0 : Nat → Nat) : Nat → Nat → Nat
  | 0 => t0
  | p + 1 => if P p = true then (fun k => if k = c0 + ctn P p then p else tab P c0 t0 p k) else tab P c0 t0 p
section TAB
variable {P : Nat → Bool} {c0 : Nat} {t0 : Nat → Nat}
theorem ctn_up {p q : Nat} (h : q ≤ p) : ctn P q ≤ ctn P p := by
  induction p with
  | zero => rw [show q = 0 by omega]; exact Nat.le_refl _
  | succ p ih =>
    by_cases c : q = p + 1
    · rw [c]; exact Nat.le_refl _
    · have := ih (by omega)
      show _ ≤ ctn P p + (if P p = true then 1 else 0)
      omega
theorem ctn_hit {p q : Nat} (h : q < p) (hq : P q = true) : ctn P q < ctn P p := by
  have h1 := ctn_up (P := P) (show q + 1 ≤ p by omega)
  have h2 : ctn P (q + 1) = ctn P q + (if P q = true then 1 else 0) := rfl
  rw [if_pos hq] at h2
  omega
theorem tab_low {k : Nat} (hk : k < c0) : ∀ p, tab P c0 t0 p k = t0 k := by
  intro p
  induction p with
  | zero => rfl
  | succ p ih =>
    rw [tab]
    by_cases c : P p = true
    · rw [if_pos c]
      show (if k = c0 + ctn P p then p else tab P c0 t0 p k) = _
      rw [if_neg (by omega)]
      exact ih
    · rw [if_neg c]
      exact ih
theorem tab_old {p k : Nat} (hk : k < c0 + ctn P p) : tab P c0 t0 (p + 1) k = tab P c0 t0 p k := by
  rw [tab]
  by_cases c : P p = true
  · rw [if_pos c]
    show (if k = c0 + ctn P p then p else tab P c0 t0 p k) = _
    rw [if_neg (by omega)]
  · rw [if_neg c]
theorem tab_new {p : Nat} (c : P p = true) : tab P c0 t0 (p + 1) (c0 + ctn P p) = p := by
  rw [tab, if_pos c]
  show (if c0 + ctn P p = c0 + ctn P p then p else _) = _
  rw [if_pos rfl]
theorem tab_hit : ∀ {p q : Nat}, q < p → P q = true → tab P c0 t0 p (c0 + ctn P q) = q := by
  intro p
  induction p with
  | zero => intro q h; omega
  | succ p ih =>
    intro q h hq
    by_cases c : q = p
    · subst c
      exact tab_new hq
    · have := ctn_hit (P := P) (show q < p by omega) hq
      rw [tab_old (by omega)]
      exact ih (by omega) hq
theorem tab_in : ∀ {p k : Nat}, c0 ≤ k → k < c0 + ctn P p → ∃ q, q < p ∧ P q = true ∧ tab P c0 t0 p k = q ∧ k = c0 + ctn P q := by
  intro p
  induction p with
  | zero => intro k h1 h2; exact absurd h2 (by show ¬ k < c0 + 0; omega)
  | succ p ih =>
    intro k h1 h2
    have h2 : k < c0 + (ctn P p + (if P p = true then 1 else 0)) := h2
    by_cases c : k < c0 + ctn P p
    · obtain ⟨q, q1, q2, q3, q4⟩ := ih h1 c
      exact ⟨q, by omega, q2, (tab_old c).trans q3, q4⟩
    · by_cases c2 : P p = true
      · rw [if_pos c2] at h2
        have e : k = c0 + ctn P p := by omega
        subst e
        exact ⟨p, by omega, c2, tab_new c2, rfl⟩
      · rw [if_neg c2] at h2
        omega
theorem tab_sum (F : Nat → Int) : ∀ p, sumTo (fun k => F (tab P c0 t0 p (c0 + k))) (ctn P p) = sumTo (fun q => if P q = true then F q else 0) p := by
  intro p
  induction p with
  | zero => rfl
  | succ p ih =>
    have e1 : sumTo (fun k => F (tab P c0 t0 (p + 1) (c0 + k))) (ctn P p) = sumTo (fun k => F (tab P c0 t0 p (c0 + k))) (ctn P p) := sumTo_cg (fun k hk => by rw [tab_old (by omega)])
    show sumTo _ (ctn P p + (if P p = true then 1 else 0)) = sumTo _ p + (if P p = true then F p else 0)
    by_cases c : P p = true
    · rw [if_pos c, if_pos c]
      show sumTo _ (ctn P p) + F (tab P c0 t0 (p + 1) (c0 + ctn P p)) = _
      rw [e1, ih, tab_new c]
    · rw [if_neg c, if_neg c]
      show sumTo _ (ctn P p) = _ + 0
      rw [e1, ih, Int.add_zero]
end TAB
theorem sumTo_sh (f : Nat → Int) (k : Nat) : sumTo f (1 + k) = f 0 + sumTo (fun i => f (1 + i)) k := by
  induction k with
  | zero => show (0 : Int) + f 0 = f 0 + 0; omega
  | succ k ih =>
    show sumTo f (1 + k) + f (1 + k) = f 0 + (sumTo (fun i => f (1 + i)) k + f (1 + k))
    rw [ih]
    omega
theorem sumTo_z {f : Nat → Int} {a b : Nat} (h : a ≤ b) (z : ∀ i, a ≤ i → i < b → f i = 0) : sumTo f b = sumTo f a := by
  induction b with
  | zero => rw [show a = 0 by omega]
  | succ b ih =>
    by_cases c : a = b + 1
    · rw [c]
    · show sumTo f b + f b = _
      rw [ih (by omega) (fun i h1 h2 => z i h1 (by omega)), z b (by omega) (by omega), Int.add_zero]
/-- heaps and sites of a week -/
def isHb (T : TW) (go : Nat) (p : Nat) : Bool := decide (p < T.2 6) && go.testBit p && !(T.1 1 p == 2)
def LpM (T : TW) (go : Nat) (i : Nat) : Int := if i = 8 then (T.2 10 : Int) else if isHb T go i = true then gg T i else 0
def WpM (T : TW) (come : Nat) (j : Nat) : Int := if isHb T come j = true then (T.1 2 j : Int) else 0
def phi (T : TW) (go : Nat) : Nat → Nat := tab (isHb T go) 1 (fun _ => 8) (T.2 6)
def psi (T : TW) (come : Nat) : Nat → Nat := tab (isHb T come) 0 (fun _ => 0) (T.2 6)
def nHp (T : TW) (go : Nat) : Nat := 1 + ctn (isHb T go) (T.2 6)
def nSt (T : TW) (come : Nat) : Nat := ctn (isHb T come) (T.2 6)
section CMP
variable {T : TW} {go come : Nat}
theorem isHb_i {p : Nat} (h : isHb T go p = true) : p < T.2 6 ∧ go.testBit p = true ∧ T.1 1 p ≠ 2 := by
  unfold isHb at h
  simp only [Bool.and_eq_true, decide_eq_true_eq] at h
  refine ⟨h.1.1, h.1.2, fun e => ?_⟩
  rw [e] at h
  exact absurd h.2 (by decide)
theorem phi_0 : phi T go 0 = 8 := tab_low (by omega) _
theorem phi_h {q : Nat} (h : isHb T go q = true) : 1 + ctn (isHb T go) q < nHp T go ∧ phi T go (1 + ctn (isHb T go) q) = q := ⟨by have := ctn_hit (P := isHb T go) (isHb_i h).1 h; unfold nHp; omega, tab_hit (isHb_i h).1 h⟩
theorem psi_h {q : Nat} (h : isHb T come q = true) : ctn (isHb T come) q < nSt T come ∧ psi T come (ctn (isHb T come) q) = q := by
  refine ⟨ctn_hit (isHb_i h).1 h, ?_⟩
  have := tab_hit (c0 := 0) (t0 := fun _ => 0) (isHb_i h).1 h
  rw [Nat.zero_add] at this
  exact this
theorem phi_i {k : Nat} (h : k < nHp T go) : (k = 0 ∧ phi T go k = 8) ∨ (isHb T go (phi T go k) = true ∧ k = 1 + ctn (isHb T go) (phi T go k)) := by
  by_cases c : k = 0
  · left
    rw [c]
    exact ⟨rfl, phi_0⟩
  · right
    obtain ⟨q, q1, q2, q3, q4⟩ := tab_in (P := isHb T go) (c0 := 1) (t0 := fun _ => 8) (p := T.2 6) (show 1 ≤ k by omega) h
    have e : phi T go k = q := q3
    rw [e]
    exact ⟨q2, q4⟩
theorem psi_i {k : Nat} (h : k < nSt T come) : isHb T come (psi T come k) = true ∧ k = ctn (isHb T come) (psi T come k) := by
  obtain ⟨q, q1, q2, q3, q4⟩ := tab_in (P := isHb T come) (c0 := 0) (t0 := fun _ => 0) (p := T.2 6) (show 0 ≤ k by omega) (by rw [Nat.zero_add]; exact h)
  have e : psi T come k = q := q3
  rw [e]
  exact ⟨q2, by omega⟩
theorem phi_ok {k : Nat} (h : k < nHp T go) : okM T (phi T go k) = true := by
  rcases phi_i h with ⟨-, e⟩ | ⟨e, -⟩
  · rw [e]; exact decide_eq_true (Or.inr rfl)
  · exact decide_eq_true (Or.inl (isHb_i e).1)
theorem phi_9 (w : wfR T) {k : Nat} (h : k < nHp T go) : phi T go k < 9 := by
  have w6 := w.1
  rcases phi_i h with ⟨-, e⟩ | ⟨e, -⟩
  · rw [e]; omega
  · have := (isHb_i e).1; omega
theorem sum_H (w : wfR T) (F : Nat → Int) (z : ∀ i, i < 8 → isHb T go i = false → F i = 0) : sumTo (fun k => F (phi T go k)) (nHp T go) = sumTo F 9 := by
  have w6 := w.1
  unfold nHp
  rw [sumTo_sh, phi_0]
  have e := tab_sum (P := isHb T go) (c0 := 1) (t0 := fun _ => 8) F (T.2 6)
  have e : sumTo (fun k => F (phi T go (1 + k))) (ctn (isHb T go) (T.2 6)) = sumTo (fun q => if isHb T go q = true then F q else 0) (T.2 6) := e
  have e2 : sumTo (fun q => if isHb T go q = true then F q else 0) (T.2 6) = sumTo F (T.2 6) := sumTo_cg (fun q hq => by
    by_cases c : isHb T go q = true
    · rw [if_pos c]
    · rw [if_neg c, z q (by omega) (ne_b c)])
  have e3 : sumTo F 8 = sumTo F (T.2 6) := sumTo_z w6 (fun i h1 h2 => z i h2 (by
    cases c : isHb T go i with
    | false => rfl
    | true => have := (isHb_i c).1; omega))
  rw [e, e2]
  show _ = sumTo F 8 + F 8
  omega
theorem sum_S (w : wfR T) (F : Nat → Int) (z : ∀ i, i < T.2 6 → isHb T come i = false → F i = 0) : sumTo (fun k => F (psi T come k)) (nSt T come) = sumTo F (T.2 6) := by
  have e := tab_sum (P := isHb T come) (c0 := 0) (t0 := fun _ => 0) F (T.2 6)
  have e : sumTo (fun k => F (psi T come (0 + k))) (nSt T come) = sumTo (fun q => if isHb T come q = true then F q else 0) (T.2 6) := e
  have e2 : sumTo (fun q => if isHb T come q = true then F q else 0) (T.2 6) = sumTo F (T.2 6) := sumTo_cg (fun q hq => by
    by_cases c : isHb T come q = true
    · rw [if_pos c]
    · rw [if_neg c, z q hq (ne_b c)])
  rw [← e2, ← e]
  exact sumTo_cg (fun k _ => by rw [Nat.zero_add])
theorem LpM_z {i : Nat} (h : i < 8) (c : isHb T go i = false) : LpM T go i = 0 := by
  unfold LpM
  rw [if_neg (by omega), if_neg (by rw [c]; decide)]
theorem WpM_z {i : Nat} (c : isHb T come i = false) : WpM T come i = 0 := if_neg (by rw [c]; decide)
/-- both carry alike -/
theorem same_sum (w : wfR T) {mC mM : Nat → Nat → Int} {lfC lkC hC sC lfM lkM hM sM : Nat → Int} {vC vM : Int} (FC : FL (nHp T go) (nSt T come) (fun k l => dM T (phi T go k) (psi T come l)) (fun k => LpM T go (phi T go k)) (fun l => WpM T come (psi T come l)) mC lfC lkC vC) (DC : DU (nHp T go) (nSt T come) (fun k l => dM T (phi T go k) (psi T come l)) mC lfC hC sC) (zC : ∀ j, j < nSt T come → lkC j = 0) (FM : FL 9 (T.2 6) (dM T) (LpM T go) (WpM T come) mM lfM lkM vM) (DM : DU 9 (T.2 6) (dM T) mM lfM hM sM) (zM : ∀ j, j < T.2 6 → lkM j = 0) : vC = vM := by
  have w6 := w.1
  have oC := opt_val FC DC zC
  have oM := opt_val FM DM zM
  have s1 : sumTo (fun k => hM (phi T go k) * LpM T go (phi T go k)) (nHp T go) = sumTo (fun i => hM i * LpM T go i) 9 := sum_H w (fun i => hM i * LpM T go i) (fun i hi c => by show hM i * LpM T go i = 0; rw [LpM_z hi c, Int.mul_zero])
  have s2 : sumTo (fun l => sM (psi T come l) * WpM T come (psi T come l)) (nSt T come) = sumTo (fun j => sM j * WpM T come j) (T.2 6) := sum_S w (fun j => sM j * WpM T come j) (fun j hj c => by show sM j * WpM T come j = 0; rw [WpM_z c, Int.mul_zero])
  have g1 := opt_ge (hh := fun k => hM (phi T go k)) (ss := fun l => sM (psi T come l)) FC zC (fun k hk => (DM.1 _ (phi_9 w hk)).1) (fun k l hk hl _ _ => (DM.2.2 _ _ (phi_9 w hk) (isHb_i (psi_i hl).1).1).1)
  rw [s1, s2] at g1
  have t1 : sumTo (fun i => (if i = 8 then hC 0 else if isHb T go i = true then hC (1 + ctn (isHb T go) i) else 0) * LpM T go i) 9 = sumTo (fun k => hC k * LpM T go (phi T go k)) (nHp T go) := by
    rw [← sum_H w (go := go) (fun i => (if i = 8 then hC 0 else if isHb T go i = true then hC (1 + ctn (isHb T go) i) else 0) * LpM T go i) (fun i hi c => by
      show _ * LpM T go i = 0
      rw [LpM_z hi c, Int.mul_zero])]
    refine sumTo_cg (fun k hk => ?_)
    rcases phi_i hk with ⟨e1, e2⟩ | ⟨e1, e2⟩
    · show (if phi T go k = 8 then hC 0 else _) * _ = _
      rw [if_pos e2, e1]
    · have := (isHb_i e1).1
      show (if phi T go k = 8 then hC 0 else if isHb T go (phi T go k) = true then hC (1 + ctn (isHb T go) (phi T go k)) else 0) * _ = _
      rw [if_neg (by omega), if_pos e1, ← e2]
  have t2 : sumTo (fun j => (if isHb T come j = true then sC (ctn (isHb T come) j) else 0) * WpM T come j) (T.2 6) = sumTo (fun l => sC l * WpM T come (psi T come l)) (nSt T come) := by
    rw [← sum_S w (come := come) (fun j => (if isHb T come j = true then sC (ctn (isHb T come) j) else 0) * WpM T come j) (fun j hj c => by
      show _ * WpM T come j = 0
      rw [WpM_z c, Int.mul_zero])]
    refine sumTo_cg (fun l hl => ?_)
    obtain ⟨e1, e2⟩ := psi_i hl
    show (if isHb T come (psi T come l) = true then sC (ctn (isHb T come) (psi T come l)) else 0) * _ = _
    rw [if_pos e1, ← e2]
  have g2 := opt_ge (hh := fun i => if i = 8 then hC 0 else if isHb T go i = true then hC (1 + ctn (isHb T go) i) else 0) (ss := fun j => if isHb T come j = true then sC (ctn (isHb T come) j) else 0) FM zM (fun i hi => by
    show 0 ≤ (if i = 8 then hC 0 else if isHb T go i = true then hC (1 + ctn (isHb T go) i) else 0)
    by_cases c : i = 8
    · rw [if_pos c]
      exact (DC.1 0 (by unfold nHp; omega)).1
    · rw [if_neg c]
      by_cases c2 : isHb T go i = true
      · rw [if_pos c2]
        exact (DC.1 _ (phi_h c2).1).1
      · rw [if_neg c2]
        exact Int.le_refl _) (fun i j hi hj pi pj => by
    have cj : isHb T come j = true := by
      cases c : isHb T come j with
      | true => rfl
      | false => rw [WpM_z c] at pj; omega
    show (if isHb T come j = true then sC (ctn (isHb T come) j) else 0) ≤ (if i = 8 then hC 0 else if isHb T go i = true then hC (1 + ctn (isHb T go) i) else 0) + dM T i j
    rw [if_pos cj]
    obtain ⟨j1, j2⟩ := psi_h cj
    by_cases c : i = 8
    · rw [if_pos c]
      have := (DC.2.2 0 _ (by unfold nHp; omega) j1).1
      dsimp only at this
      rw [phi_0, j2, ← c] at this
      exact this
    · rw [if_neg c]
      have ci : isHb T go i = true := by
        cases c2 : isHb T go i with
        | true => rfl
        | false => rw [LpM_z (by omega) c2] at pi; omega
      rw [if_pos ci]
      obtain ⟨i1, i2⟩ := phi_h ci
      have := (DC.2.2 _ _ i1 j1).1
      dsimp only at this
      rw [i2, j2] at this
      exact this)
  rw [t1, t2] at g2
  omega
end CMP
