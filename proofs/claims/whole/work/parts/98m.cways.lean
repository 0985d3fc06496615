/-! ===== the class finds ways ===== -/
def frL (S S' : ZS) : Prop := (∀ h : Nat, h ≠ 36 → h ≠ 37 → h ≠ 40 → h ≠ 41 → S'.1 h = S.1 h) ∧ S'.2 = S.2
theorem frL_rfl {S : ZS} : frL S S := ⟨fun _ _ _ _ _ => rfl, rfl⟩
theorem frL_trans {S S1 S2 : ZS} (f : frL S S1) (g : frL S1 S2) : frL S S2 := ⟨fun h a b c e => (g.1 h a b c e).trans (f.1 h a b c e), g.2.trans f.2⟩
theorem frL_wA (S : ZS) {h : Nat} (x v : Int) (hh : h = 36 ∨ h = 37 ∨ h = 40 ∨ h = 41) : frL S (wA S h x v) := ⟨fun h' a b c e => by show (if h' = h then _ else _) = _; rw [if_neg (by omega)], rfl⟩
theorem frL_A {S S' : ZS} (f : frL S S') {h : Nat} (a : h ≠ 36) (b : h ≠ 37) (c : h ≠ 40) (e : h ≠ 41) (i : Int) : zA S' h i = zA S h i := congrFun (f.1 h a b c e) i
theorem frL_F {S S' : ZS} (f : frL S S') (h j : Nat) : zF S' h j = zF S h j := by
  show S'.2.1 h j = S.2.1 h j
  rw [f.2]
def cS (A B : Nat) (d m : Nat → Nat → Int) (S : ZS) : Prop := zF S 33 9 = (A : Int) ∧ zF S 33 10 = (B : Int) ∧ (∀ a b : Nat, a < A → b < B → zabs (zA S 34 (a : Int) - zA S 38 (b : Int)) = d a b ∧ -1000 ≤ zA S 34 (a : Int) - zA S 38 (b : Int) ∧ zA S 34 (a : Int) - zA S 38 (b : Int) ≤ 1000) ∧ ∀ a b : Nat, a < A → b < B → zA S 42 ((a : Int) * 8 + (b : Int)) = m a b
def clb (A B : Nat) (S : ZS) (X : Lb) : Prop := (∀ a : Nat, a < A → zA S 36 (a : Int) = X.1 a ∧ ((X.2 a = -1 ∧ zA S 37 (a : Int) = -1) ∨ (9 ≤ X.2 a ∧ zA S 37 (a : Int) = X.2 a - 9))) ∧ ∀ b : Nat, b < B → zA S 40 (b : Int) = X.1 (9 + b) ∧ zA S 41 (b : Int) = X.2 (9 + b)
theorem cS_fr {A B : Nat} {d m : Nat → Nat → Int} {S S' : ZS} (f : frL S S') (h : cS A B d m S) : cS A B d m S' := by
  refine ⟨(frL_F f _ _).trans h.1, (frL_F f _ _).trans h.2.1, fun a b ha hb => ?_, fun a b ha hb => ?_⟩
  · rw [frL_A f (by omega) (by omega) (by omega) (by omega), frL_A f (by omega) (by omega) (by omega) (by omega)]
    exact h.2.2.1 a b ha hb
  · rw [frL_A f (by omega) (by omega) (by omega) (by omega)]
    exact h.2.2.2 a b ha hb
theorem zA_2a (S : ZS) {h h' : Nat} (ne : h ≠ h') (x v x' v' i : Int) : zA (wA (wA S h x v) h' x' v') h i = if i = x then v else zA S h i := by rw [zA_wA, if_neg ne, zA_wA, if_pos rfl]
theorem zA_2b (S : ZS) {h h' : Nat} (ne : h ≠ h') (x v x' v' i : Int) : zA (wA (wA S h x v) h' x' v') h' i = if i = x' then v' else zA S h' i := by rw [zA_wA, if_pos rfl, zA_wA, if_neg (Ne.symm ne)]
/-- at the sites: a way is found just where it is known by which heap it comes -/
def vOk (X : Lb) : Prop := ∀ v : Nat, 9 ≤ v → X.1 v ≤ 1000000 ∧ -1 ≤ X.2 v ∧ X.2 v ≤ 1000 ∧ (X.2 v < 0 ↔ ¬ X.1 v < 1000000)
theorem vOk_rlx {X : Lb} {e : Ed} (he : e.1 < 17) (h : vOk X) : vOk (rlx X e) := by
  unfold rlx
  by_cases c : cnd X e = true
  · rw [if_pos c]
    have c1 := of_decide_eq_true c
    intro v hv
    have h0 := h v hv
    show gUp _ _ _ v ≤ _ ∧ _ ≤ gUp _ _ _ v ∧ gUp _ _ _ v ≤ _ ∧ (gUp _ _ _ v < _ ↔ ¬ gUp _ _ _ v < _)
    by_cases k : v = e.2.1
    · rw [k, gUp_s, gUp_s]
      rw [k] at h0
      have c2 := c1.2
      omega
    · rw [gUp_o _ _ k, gUp_o _ _ k]
      exact h0
  · rw [if_neg c]
    exact h
theorem vOk_run : ∀ (l : List Ed) (X : Lb), (∀ e, e ∈ l → e.1 < 17) → vOk X → vOk (gRun l X).2 := by
  intro l
  induction l with
  | nil => intro X _ h; exact h
  | cons e l ih => intro X hl h; exact ih (rlx X e) (fun e' he => hl e' (by simp [he])) (vOk_rlx (hl e (by simp)) h)
theorem vOk_start {A : Nat} {lf : Nat → Int} (hA : A ≤ 9) : vOk (x0F A lf, fun _ => -1) := by
  intro v hv
  have e : x0F A lf v = 1000000 := if_neg (fun z => by omega)
  show x0F A lf v ≤ 1000000 ∧ (-1 : Int) ≤ -1 ∧ (-1 : Int) ≤ 1000 ∧ ((-1 : Int) < 0 ↔ ¬ x0F A lf v < 1000000)
  rw [e]
  omega
theorem vOk_itr {L : List Ed} (hL : ∀ e, e ∈ L → e.1 < 17) : ∀ (k : Nat) (X : Lb), vOk X → vOk (itr L k X) := by
  intro k
  induction k with
  | zero => exact fun X h => h
  | succ k ih => exact fun X h => vOk_run L _ hL (ih X h)
section CWA
variable {A B : Nat} {d m : Nat → Nat → Int} {S : ZS} {X : Lb}
theorem sc_far (st : cS A B d m S) (hA : A ≤ 9) (hB : B ≤ 8) {a b : Nat} (ha : a < A) (hb : b < B) (n : Nat) : fC_far n S (a : Int) (b : Int) = some (d a b) := by
  have := st.2.2.1 a b ha hb
  unfold fC_far
  rw [gX_pos (by omega) (by omega) (by omega), gX_pos (by omega) (by omega) (by omega), gC_pos (by omega) (by omega) (by omega) (by omega), this.1]
theorem sc_shorten (st : cS A B d m S) (lb : clb A B S X) (vk : vOk X) (hA : A ≤ 9) (hB : B ≤ 8) (hd : dOk A B d) {pi : Nat → Int} (p0 : ∀ v, 0 ≤ pi v) (pb : PB pi X) {a b : Nat} (ha : a < A) (hb : b < B) (hp : ∀ e, e ∈ prL d m a b → pi e.2.1 ≤ pi e.1 + e.2.2) (mb : ∀ i j, i < A → j < B → 0 ≤ m i j ∧ m i j ≤ 100000) (n : Nat) : ∃ S', fC_shorten n S (a : Int) (b : Int) = some (bZ (gRun (prL d m a b) X).1, S') ∧ frL S S' ∧ clb A B S' (gRun (prL d m a b) X).2 := by
  have hda := hd a b ha hb
  have pa := pb a
  have p9 := pb (9 + b)
  have q1 := p0 a
  have q2 := p0 (9 + b)
  have xa := (lb.1 a ha).1
  have xb := (lb.2 b hb).1
  have part1 : ∃ S1, (gC (zA S 36 (a : Int)) 1000000 (if (zA S 36 (a : Int)) < 1000000 then gX (a : Int) 9 ((fC_far n S (a : Int) (b : Int)).bind fun z4 => gX (b : Int) 8 (gC ((zA S 36 (a : Int)) + z4) (zA S 40 (b : Int)) (if ((zA S 36 (a : Int)) + z4) < (zA S 40 (b : Int)) then gX (a : Int) 9 ((fC_far n S (a : Int) (b : Int)).bind fun z5 => gX (b : Int) 8 (gX (b : Int) 8 (some ((1 : Int), wA (wA S 40 (b : Int) ((zA S 36 (a : Int)) + z5)) 41 (b : Int) (a : Int))))) else some (0, S)))) else some (0, S))) = some (bZ (cnd X (a, 9 + b, d a b)), S1) ∧ frL S S1 ∧ clb A B S1 (rlx X (a, 9 + b, d a b)) := by
    rw [xa, xb, gC_pos (by omega) (by omega) (by omega) (by omega), sc_far st hA hB ha hb, Option.bind_some, Option.bind_some, gX_pos (by omega) (by omega) (by omega)]
    by_cases c1 : X.1 a < 1000000
    · rw [if_pos c1, gX_pos (x := (b : Int)) (by omega) (by omega) (by omega), gC_pos (x := X.1 a + d a b) (y := X.1 (9 + b)) (by omega) (by omega) (by omega) (by omega)]
      by_cases c2 : X.1 a + d a b < X.1 (9 + b)
      · have ct : cnd X (a, 9 + b, d a b) = true := decide_eq_true ⟨c1, c2⟩
        rw [if_pos c2, gX_pos (by omega) (by omega) (by omega), gX_pos (by omega) (by omega) (by omega), gX_pos (by omega) (by omega) (by omega), ct]
        refine ⟨_, rfl, frL_trans (frL_wA _ _ _ (by omega)) (frL_wA _ _ _ (by omega)), ?_⟩
        rw [show rlx X (a, 9 + b, d a b) = (gUp X.1 (9 + b) (X.1 a + d a b), gUp X.2 (9 + b) (a : Int)) from if_pos ct]
        refine ⟨fun i hi => ?_, fun j hj => ?_⟩
        · rw [zA_wA, if_neg (by omega), zA_wA, if_neg (by omega), zA_wA, if_neg (by omega), zA_wA, if_neg (by omega)]
          show _ = gUp _ _ _ _ ∧ ((gUp _ _ _ _ = _ ∧ _) ∨ (_ ≤ gUp _ _ _ _ ∧ _ = gUp _ _ _ _ - 9))
          rw [gUp_o _ _ (show i ≠ 9 + b by omega), gUp_o _ _ (show i ≠ 9 + b by omega)]
          exact lb.1 i hi
        · rw [zA_2a _ (by omega), zA_2b _ (by omega)]
          show _ = gUp _ _ _ _ ∧ _ = gUp _ _ _ _
          by_cases c : j = b
          · subst c
            rw [gUp_s, gUp_s, if_pos rfl, if_pos rfl]
            exact ⟨rfl, rfl⟩
          · rw [gUp_o _ _ (show 9 + j ≠ 9 + b by omega), gUp_o _ _ (show 9 + j ≠ 9 + b by omega), if_neg (by omega), if_neg (by omega)]
            exact lb.2 j hj
      · have cf : cnd X (a, 9 + b, d a b) = false := decide_eq_false (fun z => c2 z.2)
        rw [if_neg c2, cf, rlx_f cf]
        exact ⟨S, rfl, frL_rfl, lb⟩
    · have cf : cnd X (a, 9 + b, d a b) = false := decide_eq_false (fun z => c1 z.1)
      rw [if_neg c1, cf, rlx_f cf]
      exact ⟨S, rfl, frL_rfl, lb⟩
  obtain ⟨S1, e1, f1, l1⟩ := part1
  have pb1 : PB pi (rlx X (a, 9 + b, d a b)) := PB_rlx (hp _ (mem_pr.mpr (Or.inl rfl))) pb
  have vk1 : vOk (rlx X (a, 9 + b, d a b)) := vOk_rlx (show a < 17 by omega) vk
  have st1 := cS_fr f1 st
  have mm := mb a b ha hb
  unfold fC_shorten
  rw [gX_pos (x := (a : Int)) (by omega) (by omega) (by omega), e1, Option.bind_some]
  dsimp only
  rw [gX_pos (x := (a : Int) * 8 + (b : Int)) (by omega) (by omega) (by omega), st1.2.2.2 a b ha hb, gC_pos (x := m a b) (y := 0) (by omega) (by omega) (by omega) (by omega)]
  generalize hX1 : rlx X (a, 9 + b, d a b) = X1 at *
  have pa1 := pb1 a
  have p91 := pb1 (9 + b)
  have v91 := vk1 (9 + b) (by omega)
  by_cases c0 : 0 < m a b
  · have er : gRun (prL d m a b) X = (cnd X (a, 9 + b, d a b) || (cnd X1 (9 + b, a, -(d a b)) || false), rlx X1 (9 + b, a, -(d a b))) := by
      unfold prL
      rw [if_pos c0]
      show (cnd X _ || (cnd (rlx X _) _ || false), rlx (rlx X _) _) = _
      rw [hX1]
    rw [er, Bool.or_false, if_pos c0, gX_pos (x := (b : Int)) (by omega) (by omega) (by omega), (l1.2 b hb).1, (l1.2 b hb).2, (l1.1 a ha).1, gC_pos (x := X1.2 (9 + b)) (y := 0) (by omega) (by omega) (by omega) (by omega)]
    by_cases c1 : X1.1 (9 + b) < 1000000
    · rw [if_neg (show ¬ X1.2 (9 + b) < 0 by omega), gX_pos (x := (b : Int)) (by omega) (by omega) (by omega), sc_far st1 hA hB ha hb, Option.bind_some, gX_pos (x := (a : Int)) (by omega) (by omega) (by omega), gC_pos (x := X1.1 (9 + b) - d a b) (y := X1.1 a) (by omega) (by omega) (by omega) (by omega)]
      by_cases c2 : X1.1 (9 + b) - d a b < X1.1 a
      · have ct : cnd X1 (9 + b, a, -(d a b)) = true := decide_eq_true ⟨c1, by show X1.1 (9 + b) + -(d a b) < X1.1 a; omega⟩
        rw [if_pos c2, gX_pos (x := (b : Int)) (by omega) (by omega) (by omega), Option.bind_some, gX_pos (x := (a : Int)) (by omega) (by omega) (by omega), gX_pos (x := (a : Int)) (by omega) (by omega) (by omega), gB_1, ct, Bool.or_true]
        refine ⟨_, rfl, frL_trans f1 (frL_trans (frL_wA _ _ _ (by omega)) (frL_wA _ _ _ (by omega))), ?_⟩
        rw [show rlx X1 (9 + b, a, -(d a b)) = (gUp X1.1 a (X1.1 (9 + b) + -(d a b)), gUp X1.2 a ((9 + b : Nat) : Int)) from if_pos ct]
        refine ⟨fun i hi => ?_, fun j hj => ?_⟩
        · rw [zA_2a _ (by omega), zA_2b _ (by omega)]
          show _ = gUp _ _ _ _ ∧ ((gUp _ _ _ _ = _ ∧ _) ∨ (_ ≤ gUp _ _ _ _ ∧ _ = gUp _ _ _ _ - 9))
          by_cases c : i = a
          · subst c
            rw [gUp_s, gUp_s, if_pos rfl, if_pos rfl]
            exact ⟨by omega, Or.inr ⟨by omega, by omega⟩⟩
          · rw [gUp_o _ _ c, gUp_o _ _ c, if_neg (by omega), if_neg (by omega)]
            exact l1.1 i hi
        · rw [zA_wA, if_neg (by omega), zA_wA, if_neg (by omega), zA_wA, if_neg (by omega), zA_wA, if_neg (by omega)]
          show _ = gUp _ _ _ _ ∧ _ = gUp _ _ _ _
          rw [gUp_o _ _ (show 9 + j ≠ a by omega), gUp_o _ _ (show 9 + j ≠ a by omega)]
          exact l1.2 j hj
      · have cf : cnd X1 (9 + b, a, -(d a b)) = false := decide_eq_false (fun z => c2 (by have := z.2; dsimp only at this; omega))
        rw [if_neg c2, gB_b, cf, rlx_f cf, Bool.or_false]
        exact ⟨S1, rfl, f1, l1⟩
    · have cf : cnd X1 (9 + b, a, -(d a b)) = false := decide_eq_false (fun z => c1 z.1)
      rw [if_pos (show X1.2 (9 + b) < 0 by omega), gB_b, cf, rlx_f cf, Bool.or_false]
      exact ⟨S1, rfl, f1, l1⟩
  · have er : gRun (prL d m a b) X = (cnd X (a, 9 + b, d a b) || false, X1) := by
      unfold prL
      rw [if_neg c0]
      show (cnd X _ || false, rlx X _) = _
      rw [hX1]
    rw [er, if_neg c0, gB_b, Bool.or_false]
    exact ⟨S1, rfl, f1, l1⟩
end CWA
