/-! ===== the class's moves and rows ===== -/
def mvOK (T : TW) (mv u : Nat) : Prop := 1 ≤ u ∧ u < 2 ^ T.2 6 ∧ nDf u mv = 0 ∧ Yd T u ≤ (T.2 11 : Int)
def mvs (S : ZS) (T : TW) (mv : Nat) : Prop := ∃ c : Nat, c ≤ 255 ∧ zF S 24 11 = (c : Int) ∧ (∀ m : Nat, m < c → ∃ u : Nat, zA S 30 (m : Int) = (u : Int) ∧ mvOK T mv u) ∧ ∀ u : Nat, mvOK T mv u → ∃ m : Nat, m < c ∧ zA S 30 (m : Int) = (u : Int)
section GR
variable {S : ZS} {T : TW} {mv : Nat}
theorem sp_moves (ht : tAt S 1 T) (w : wfR T) (hwk : T.2 11 ≤ 999) (htb : tabl S T) (hmv : mv < 256) {n : Nat} (hn : 400 ≤ n) : ∃ S', fW_listMoves n S (mv : Int) = some S' ∧ mvs S' T mv ∧ (∀ h : Nat, h ≠ 30 → S'.1 h = S.1 h) ∧ (∀ h j : Nat, (h ≠ 24 ∨ j ≠ 11) → S'.2.1 h j = S.2.1 h j) ∧ S'.2.2 = S.2.2 := by
  have hq := pw_le w.1
  have hp := pw_pos (T.2 6)
  have e := loop_inv (F := fun n a p => fW_listMoves_1 n a (mv : Int) (1 + p)) (fun p a => (∃ c : Nat, c ≤ p ∧ zF a 24 11 = (c : Int) ∧ (∀ m : Nat, m < c → ∃ u : Nat, zA a 30 (m : Int) = (u : Int) ∧ mvOK T mv u) ∧ ∀ u : Nat, u ≤ p → mvOK T mv u → ∃ m : Nat, m < c ∧ zA a 30 (m : Int) = (u : Int)) ∧ (∀ h : Nat, h ≠ 30 → a.1 h = S.1 h) ∧ (∀ h j : Nat, (h ≠ 24 ∨ j ≠ 11) → a.2.1 h j = S.2.1 h j) ∧ a.2.2 = S.2.2) (fun a => mvs a T mv ∧ (∀ h : Nat, h ≠ 30 → a.1 h = S.1 h) ∧ (∀ h j : Nat, (h ≠ 24 ∨ j ≠ 11) → a.2.1 h j = S.2.1 h j) ∧ a.2.2 = S.2.2) (2 ^ T.2 6 - 1) 0 ?_ ?_ n (wF S 24 11 0) (by omega) ?_
  · obtain ⟨b, e1, e2⟩ := e
    refine ⟨b, ?_, e2⟩
    unfold fW_listMoves
    have e1 : fW_listMoves_1 n (wF S 24 11 0) (mv : Int) (1 + 0) = some b := e1
    rw [Int.add_zero] at e1
    rw [e1]
    rfl
  · intro n p a hpk _ ⟨⟨c, c1, c2, c3, c4⟩, f1, f2, f3⟩
    have A : ∀ (h : Nat) (i : Int), h ≠ 30 → zA a h i = zA S h i := fun h i hh => congrFun (f1 h hh) i
    have F : ∀ h j : Nat, (h ≠ 24 ∨ j ≠ 11) → zF a h j = zF S h j := f2
    have ta : tAt a 1 T := ⟨fun j x y => (F 1 j (by omega)).trans (ht.1 j x y), fun i q x y z => (A _ _ (by omega)).trans (ht.2.1 i q x y z), fun q x => (A _ _ (by omega)).trans (ht.2.2 q x)⟩
    have e25 : zA a 25 ((p + 1 : Nat) : Int) = Yd T (p + 1) := (A 25 _ (by omega)).trans (htb (p + 1) (by omega)).1
    have yb := Yd_bd w (p + 1)
    have dl := nDf_le (p + 1) mv
    show ∃ a', _ ∧ fW_listMoves_1 (n + 1) a (mv : Int) (1 + (p : Int)) = fW_listMoves_1 n a' (mv : Int) (1 + ((p : Int) + 1))
    rw [show (1 : Int) + (p : Int) = ((p + 1 : Nat) : Int) by omega, fW_listMoves_1, sp_all ta w, Option.bind_some, gC_pos (by omega) (by omega) (by omega) (by omega), if_neg (by omega), zdf_n (by omega) (by omega), gC_pos (by omega) (by omega) (by omega) (by omega), show ((p + 1 : Nat) : Int) + 1 = 1 + ((p : Int) + 1) by omega]
    by_cases k1 : nDf (p + 1) mv = 0
    · rw [k1, if_pos (show ((0 : Nat) : Int) = 0 from rfl), gX_pos (by omega) (by omega) (by omega), e25, ta.1 11 (by omega) (by omega), gC_pos (by omega) (by omega) (by omega) (by omega)]
      by_cases k2 : (T.2 11 : Int) < Yd T (p + 1)
      · refine ⟨a, ⟨⟨c, (by omega), c2, c3, fun u hu ho => ?_⟩, f1, f2, f3⟩, ?_⟩
        · by_cases e : u = p + 1
          · subst e; have := ho.2.2.2; omega
          · exact c4 u (by omega) ho
        · rw [if_pos k2]
      · refine ⟨wF (wA a 30 (c : Int) ((p + 1 : Nat) : Int)) 24 11 ((c : Int) + 1), ⟨⟨c + 1, (by omega), rfl, fun m hm => ?_, fun u hu ho => ?_⟩, fun h hh => ?_, fun h j hh => ?_, f3⟩, ?_⟩
        · rw [zA_wF, zA_wA, if_pos rfl]
          by_cases e : m = c
          · rw [if_pos (by omega)]
            exact ⟨p + 1, rfl, (by omega), (by omega), k1, (by omega)⟩
          · rw [if_neg (by omega)]
            exact c3 m (by omega)
        · by_cases e : u = p + 1
          · refine ⟨c, (by omega), ?_⟩
            rw [zA_wF, zA_wA, if_pos rfl, if_pos rfl, e]
          · obtain ⟨m, m1, m2⟩ := c4 u (by omega) ho
            refine ⟨m, (by omega), ?_⟩
            rw [zA_wF, zA_wA, if_pos rfl, if_neg (by omega)]
            exact m2
        · show (if h = 30 then _ else a.1 h) = S.1 h
          rw [if_neg hh]
          exact f1 h hh
        · show (if j = 11 then (if h = 24 then _ else a.2.1 h j) else a.2.1 h j) = S.2.1 h j
          by_cases e : j = 11
          · rw [if_pos e, if_neg (by omega)]
            exact f2 h j hh
          · rw [if_neg e]
            exact f2 h j hh
        · rw [if_neg k2, c2, gX_pos (by omega) (by omega) (by omega)]
    · refine ⟨a, ⟨⟨c, (by omega), c2, c3, fun u hu ho => ?_⟩, f1, f2, f3⟩, ?_⟩
      · by_cases e : u = p + 1
        · subst e; exact absurd ho.2.2.1 k1
        · exact c4 u (by omega) ho
      · rw [if_neg (by omega)]
  · intro n a _ ⟨⟨c, c1, c2, c3, c4⟩, f1, f2, f3⟩
    have A : ∀ (h : Nat) (i : Int), h ≠ 30 → zA a h i = zA S h i := fun h i hh => congrFun (f1 h hh) i
    have F : ∀ h j : Nat, (h ≠ 24 ∨ j ≠ 11) → zF a h j = zF S h j := f2
    have ta : tAt a 1 T := ⟨fun j x y => (F 1 j (by omega)).trans (ht.1 j x y), fun i q x y z => (A _ _ (by omega)).trans (ht.2.1 i q x y z), fun q x => (A _ _ (by omega)).trans (ht.2.2 q x)⟩
    refine ⟨a, ?_, ⟨c, (by omega), c2, c3, fun u ho => c4 u (by have := ho.2.1; omega) ho⟩, f1, f2, f3⟩
    show fW_listMoves_1 (n + 1) a (mv : Int) (1 + ((2 ^ T.2 6 - 1 : Nat) : Int)) = _
    rw [fW_listMoves_1, sp_all ta w, Option.bind_some, gC_pos (by omega) (by omega) (by omega) (by omega), if_pos (by omega)]
  · refine ⟨⟨0, Nat.le_refl _, rfl, fun m hm => absurd hm (by omega), fun u hu ho => absurd ho.1 (by omega)⟩, fun _ _ => rfl, fun h j hh => ?_, rfl⟩
    show (if j = 11 then (if h = 24 then _ else S.2.1 h j) else S.2.1 h j) = S.2.1 h j
    by_cases e : j = 11
    · rw [if_pos e, if_neg (by omega)]
    · rw [if_neg e]
theorem Ov_split {a b : Nat} (h : apart a b) : Ov T a 0 + Ov T 0 b = Ov T a b := by
  unfold Ov
  rw [← sumTo_add]
  apply sumTo_cg
  intro i _
  have := apart_bit h i
  unfold oF
  cases h1 : a.testBit i <;> cases h2 : b.testBit i <;> simp_all
theorem df_apart (s t : Nat) : apart (nDf s t) (nDf t s) := by
  apply Nat.eq_of_testBit_eq
  intro i
  rw [Nat.testBit_and, nDf_bit, nDf_bit, Nat.zero_testBit]
  cases s.testBit i <;> cases t.testBit i <;> rfl
theorem sp_given (htb : tabl S T) (w : wfR T) {s t : Nat} (hs : s < 2 ^ T.2 6) (ht : t < 2 ^ T.2 6) (n : Nat) : fW_given n S (s : Int) (t : Int) = some (gv T s t) := by
  have hq := pw_le w.1
  have h1 : nDf s t < 2 ^ T.2 6 := nDf_lt hs
  have h2 : nDf t s < 2 ^ T.2 6 := nDf_lt ht
  unfold fW_given gv
  rw [zdf_n (by omega) (by omega), zdf_n (by omega) (by omega), gX_pos (by omega) (by omega) (by omega), gX_pos (by omega) (by omega) (by omega), (htb _ h1).2.1, (htb _ h2).2.2.1, Ov_split (df_apart s t)]
theorem gv_bd (w : wfR T) (s t : Nat) : -800 ≤ gv T s t ∧ gv T s t ≤ 800 := Ov_bd w _ _
theorem xor_xor (a b : Nat) : (a ^^^ b) ^^^ a = b := by
  apply Nat.eq_of_testBit_eq
  intro i
  rw [Nat.testBit_xor, Nat.testBit_xor]
  cases a.testBit i <;> cases b.testBit i <;> rfl
theorem xor_eq {s t u : Nat} : u = s ^^^ t ↔ s = t ^^^ u := by
  constructor
  · intro h
    subst h
    apply Nat.eq_of_testBit_eq
    intro i
    rw [Nat.testBit_xor, Nat.testBit_xor]
    cases s.testBit i <;> cases t.testBit i <;> rfl
  · intro h
    subst h
    apply Nat.eq_of_testBit_eq
    intro i
    rw [Nat.testBit_xor, Nat.testBit_xor]
    cases u.testBit i <;> cases t.testBit i <;> rfl
theorem sp_growFrom (w : wfR T) (htb : tabl S T) (hmv : mvs S T mv) {to NX : Nat} {d : Int} (hto : to < 2 ^ T.2 6) (hd : 0 ≤ d ∧ d ≤ 999) (hN : NX + 256 ≤ nn S) (hN2 : nn S ≤ 100000) (hv : ∀ s : Nat, s < 2 ^ T.2 6 → 0 ≤ zA S 31 ((NX : Int) + (s : Int)) ∧ zA S 31 ((NX : Int) + (s : Int)) ≤ 1000) {n : Nat} (hn : 400 ≤ n) : ∃ (g : Bool) (S' : ZS), fW_growFrom n S (to : Int) d (NX : Int) = some (bZ g, S') ∧ frR 31 31 S S' ∧ (∀ i : Int, (i < (NX : Int) ∨ (NX : Int) + ((2 ^ T.2 6 : Nat) : Int) ≤ i) → zA S' 31 i = zA S 31 i) ∧ (∀ s : Nat, s < 2 ^ T.2 6 → mvOK T mv (s ^^^ to) → firmB T s = true → dryB T (s &&& to) = true → zA S' 31 ((NX : Int) + (s : Int)) = min (zA S 31 ((NX : Int) + (s : Int))) (max 0 (d - gv T s to))) ∧ (∀ s : Nat, s < 2 ^ T.2 6 → ¬ (mvOK T mv (s ^^^ to) ∧ firmB T s = true ∧ dryB T (s &&& to) = true) → zA S' 31 ((NX : Int) + (s : Int)) = zA S 31 ((NX : Int) + (s : Int))) ∧ (g = true ↔ ∃ s : Nat, s < 2 ^ T.2 6 ∧ zA S' 31 ((NX : Int) + (s : Int)) ≠ zA S 31 ((NX : Int) + (s : Int))) := by
  have hq := pw_le w.1
  obtain ⟨c, c1, c2, c3, c4⟩ := hmv
  have e := loop_inv (F := fun n (a : Int × ZS) p => fW_growFrom_1 n a.2 (to : Int) d (NX : Int) a.1 p) (fun m a => ∃ g : Bool, a.1 = bZ g ∧ frR 31 31 S a.2 ∧ (∀ i : Int, (i < (NX : Int) ∨ (NX : Int) + ((2 ^ T.2 6 : Nat) : Int) ≤ i) → zA a.2 31 i = zA S 31 i) ∧ (∀ s : Nat, s < 2 ^ T.2 6 → (∃ m' : Nat, m' < m ∧ zA S 30 (m' : Int) = ((s ^^^ to : Nat) : Int)) → firmB T s = true → dryB T (s &&& to) = true → zA a.2 31 ((NX : Int) + (s : Int)) = min (zA S 31 ((NX : Int) + (s : Int))) (max 0 (d - gv T s to))) ∧ (∀ s : Nat, s < 2 ^ T.2 6 → ¬ ((∃ m' : Nat, m' < m ∧ zA S 30 (m' : Int) = ((s ^^^ to : Nat) : Int)) ∧ firmB T s = true ∧ dryB T (s &&& to) = true) → zA a.2 31 ((NX : Int) + (s : Int)) = zA S 31 ((NX : Int) + (s : Int))) ∧ (g = true ↔ ∃ s : Nat, s < 2 ^ T.2 6 ∧ zA a.2 31 ((NX : Int) + (s : Int)) ≠ zA S 31 ((NX : Int) + (s : Int)))) (fun b => ∃ g : Bool, b.1 = bZ g ∧ frR 31 31 S b.2 ∧ (∀ i : Int, (i < (NX : Int) ∨ (NX : Int) + ((2 ^ T.2 6 : Nat) : Int) ≤ i) → zA b.2 31 i = zA S 31 i) ∧ (∀ s : Nat, s < 2 ^ T.2 6 → mvOK T mv (s ^^^ to) → firmB T s = true → dryB T (s &&& to) = true → zA b.2 31 ((NX : Int) + (s : Int)) = min (zA S 31 ((NX : Int) + (s : Int))) (max 0 (d - gv T s to))) ∧ (∀ s : Nat, s < 2 ^ T.2 6 → ¬ (mvOK T mv (s ^^^ to) ∧ firmB T s = true ∧ dryB T (s &&& to) = true) → zA b.2 31 ((NX : Int) + (s : Int)) = zA S 31 ((NX : Int) + (s : Int))) ∧ (g = true ↔ ∃ s : Nat, s < 2 ^ T.2 6 ∧ zA b.2 31 ((NX : Int) + (s : Int)) ≠ zA S 31 ((NX : Int) + (s : Int)))) c 0 ?_ ?_ n (0, S) (by omega) ?_
  · obtain ⟨⟨b1, b2⟩, e1, g, e2, e3⟩ := e
    have e1 : fW_growFrom_1 n S (to : Int) d (NX : Int) 0 0 = some (b1, b2) := e1
    have e2 : b1 = bZ g := e2
    refine ⟨g, b2, ?_, e3⟩
    unfold fW_growFrom
    rw [e1, Option.bind_some, e2]
    exact gB_b g _
  · rintro n m ⟨l4, a⟩ hm _ ⟨g, h1, h2, h3, h4, h5, h6⟩
    have h1 : l4 = bZ g := h1
    have h2 : frR 31 31 S a := h2
    have h3 : ∀ i : Int, (i < (NX : Int) ∨ (NX : Int) + ((2 ^ T.2 6 : Nat) : Int) ≤ i) → zA a 31 i = zA S 31 i := h3
    obtain ⟨u, hu, uo⟩ := c3 m hm
    have hu2 := uo.2.1
    have hfs : to ^^^ u < 2 ^ T.2 6 := Nat.xor_lt_two_pow hto uo.2.1
    have hfa : (to ^^^ u) &&& to < 2 ^ T.2 6 := Nat.and_lt_two_pow _ hto
    have htba : tabl a T := fr_tabl (frR_fr h2 1000) htb (by omega)
    have e11 : zF a 24 11 = (c : Int) := (frR_F h2 24 11).trans c2
    have e30 : zA a 30 (m : Int) = (u : Int) := (frR_A h2 (by omega) _).trans hu
    have en : nn a = nn S := frR_n h2
    have gvb := gv_bd w (to ^^^ u) to
    -- what comes to be of the sets reached
    have qs : ∀ s : Nat, s < 2 ^ T.2 6 → ((∃ m' : Nat, m' < m + 1 ∧ zA S 30 (m' : Int) = ((s ^^^ to : Nat) : Int)) ↔ ((∃ m' : Nat, m' < m ∧ zA S 30 (m' : Int) = ((s ^^^ to : Nat) : Int)) ∨ s = to ^^^ u)) := by
      intro s hs
      constructor
      · rintro ⟨m', k1, k2⟩
        by_cases e : m' = m
        · subst e
          rw [hu] at k2
          exact Or.inr (xor_eq.mp (by omega))
        · exact Or.inl ⟨m', (by omega), k2⟩
      · rintro (⟨m', k1, k2⟩ | k)
        · exact ⟨m', (by omega), k2⟩
        · refine ⟨m, (by omega), ?_⟩
          rw [hu, ← xor_eq.mpr k]
    have same : ¬ (firmB T (to ^^^ u) = true ∧ dryB T ((to ^^^ u) &&& to) = true) → ∃ g : Bool, l4 = bZ g ∧ frR 31 31 S a ∧ (∀ i : Int, (i < (NX : Int) ∨ (NX : Int) + ((2 ^ T.2 6 : Nat) : Int) ≤ i) → zA a 31 i = zA S 31 i) ∧ (∀ s : Nat, s < 2 ^ T.2 6 → (∃ m' : Nat, m' < m + 1 ∧ zA S 30 (m' : Int) = ((s ^^^ to : Nat) : Int)) → firmB T s = true → dryB T (s &&& to) = true → zA a 31 ((NX : Int) + (s : Int)) = min (zA S 31 ((NX : Int) + (s : Int))) (max 0 (d - gv T s to))) ∧ (∀ s : Nat, s < 2 ^ T.2 6 → ¬ ((∃ m' : Nat, m' < m + 1 ∧ zA S 30 (m' : Int) = ((s ^^^ to : Nat) : Int)) ∧ firmB T s = true ∧ dryB T (s &&& to) = true) → zA a 31 ((NX : Int) + (s : Int)) = zA S 31 ((NX : Int) + (s : Int))) ∧ (g = true ↔ ∃ s : Nat, s < 2 ^ T.2 6 ∧ zA a 31 ((NX : Int) + (s : Int)) ≠ zA S 31 ((NX : Int) + (s : Int))) := by
      intro hno
      refine ⟨g, h1, h2, h3, fun s hs k1 k2 k3 => ?_, fun s hs k => ?_, h6⟩
      · rcases (qs s hs).mp k1 with k | k
        · exact h4 s hs k k2 k3
        · subst k; exact absurd ⟨k2, k3⟩ hno
      · exact h5 s hs (fun q => k ⟨(qs s hs).mpr (Or.inl q.1), q.2⟩)
    show ∃ a' : Int × ZS, _ ∧ fW_growFrom_1 (n + 1) a (to : Int) d (NX : Int) l4 (m : Int) = fW_growFrom_1 n a'.2 (to : Int) d (NX : Int) a'.1 ((m : Int) + 1)
    rw [fW_growFrom_1, e11, gC_pos (by omega) (by omega) (by omega) (by omega), if_pos (by omega), gX_pos (by omega) (by omega) (by omega), e30, zxor_n (by omega) (by omega), gX_pos (by omega) (by omega) (by omega), (htba _ hfs).2.2.2.1, gC_b]
    by_cases k1 : firmB T (to ^^^ u) = true
    rotate_left
    · refine ⟨(l4, a), same (fun q => k1 q.1), ?_⟩
      rw [ne_b k1, if_pos (show bZ false = 0 from rfl)]
    rw [k1, if_neg (show ¬ bZ true = 0 by decide), zand_n (by omega) (by omega), gX_pos (by omega) (by omega) (by omega), (htba _ hfa).2.2.2.2, gC_b]
    by_cases k2 : dryB T ((to ^^^ u) &&& to) = true
    rotate_left
    · refine ⟨(l4, a), same (fun q => k2 q.2), ?_⟩
      rw [ne_b k2, if_pos (show bZ false = 0 from rfl)]
    rw [k2, if_neg (show ¬ bZ true = 0 by decide), sp_given htba w hfs hto, Option.bind_some, gC_pos (x := 0) (by omega) (by omega) (by omega) (by omega), en, gX_pos (by omega) (by omega) (by omega)]
    have cur : zA a 31 ((NX : Int) + ((to ^^^ u : Nat) : Int)) = zA S 31 ((NX : Int) + ((to ^^^ u : Nat) : Int)) ∨ zA a 31 ((NX : Int) + ((to ^^^ u : Nat) : Int)) = min (zA S 31 ((NX : Int) + ((to ^^^ u : Nat) : Int))) (max 0 (d - gv T (to ^^^ u) to)) := by
      by_cases q : ∃ m' : Nat, m' < m ∧ zA S 30 (m' : Int) = (((to ^^^ u) ^^^ to : Nat) : Int)
      · exact Or.inr (h4 _ hfs q k1 k2)
      · exact Or.inl (h5 _ hfs (fun z => q z.1))
    have vb := hv _ hfs
    rw [gC_pos (by omega) (by omega) (by omega) (by omega)]
    by_cases k3 : max 0 (d - gv T (to ^^^ u) to) < zA a 31 ((NX : Int) + ((to ^^^ u : Nat) : Int))
    · have fw : frR 31 31 a (wA a 31 ((NX : Int) + ((to ^^^ u : Nat) : Int)) (max 0 (d - gv T (to ^^^ u) to))) := frR_wA _ _ _ (by omega) (by omega)
      have rd31 : ∀ i, zA (wA a 31 ((NX : Int) + ((to ^^^ u : Nat) : Int)) (max 0 (d - gv T (to ^^^ u) to))) 31 i = if i = (NX : Int) + ((to ^^^ u : Nat) : Int) then max 0 (d - gv T (to ^^^ u) to) else zA a 31 i := by
        intro i
        rw [zA_wA, if_pos rfl]
      refine ⟨(1, wA a 31 ((NX : Int) + ((to ^^^ u : Nat) : Int)) (max 0 (d - gv T (to ^^^ u) to))), ⟨true, rfl, frR_trans h2 fw, fun i hi => ?_, fun s hs q1 q2 q3 => ?_, fun s hs q => ?_, ⟨fun _ => ⟨to ^^^ u, hfs, ?_⟩, fun _ => rfl⟩⟩, ?_⟩
      · show zA (wA a 31 _ _) 31 i = _
        rw [rd31, if_neg (by omega)]
        exact h3 i hi
      · show zA (wA a 31 _ _) 31 _ = _
        rw [rd31]
        by_cases e : s = to ^^^ u
        · subst e
          rw [if_pos rfl]
          omega
        · rw [if_neg (by omega)]
          rcases (qs s hs).mp q1 with k | k
          · exact h4 s hs k q2 q3
          · exact absurd k e
      · show zA (wA a 31 _ _) 31 _ = _
        rw [rd31]
        by_cases e : s = to ^^^ u
        · subst e
          exact absurd ⟨(qs _ hfs).mpr (Or.inr rfl), k1, k2⟩ q
        · rw [if_neg (by omega)]
          exact h5 s hs (fun z => q ⟨(qs s hs).mpr (Or.inl z.1), z.2⟩)
      · show zA (wA a 31 _ _) 31 _ ≠ _
        rw [rd31, if_pos rfl]
        omega
      · rw [if_pos k3, gX_pos (by omega) (by omega) (by omega)]
    · refine ⟨(l4, a), ⟨g, h1, h2, h3, fun s hs q1 q2 q3 => ?_, fun s hs q => ?_, h6⟩, ?_⟩
      · show zA a 31 _ = _
        by_cases e : s = to ^^^ u
        · subst e
          omega
        · rcases (qs s hs).mp q1 with k | k
          · exact h4 s hs k q2 q3
          · exact absurd k e
      · exact h5 s hs (fun z => q ⟨(qs s hs).mpr (Or.inl z.1), z.2⟩)
      · rw [if_neg k3]
  · rintro n ⟨l4, a⟩ _ ⟨g, h1, h2, h3, h4, h5, h6⟩
    have h2 : frR 31 31 S a := h2
    have e11 : zF a 24 11 = (c : Int) := (frR_F h2 24 11).trans c2
    refine ⟨(l4, a), ?_, g, h1, h2, h3, fun s hs q1 q2 q3 => h4 s hs (c4 _ q1) q2 q3, fun s hs q => h5 s hs (fun z => ?_), h6⟩
    · show fW_growFrom_1 (n + 1) a (to : Int) d (NX : Int) l4 (c : Int) = _
      rw [fW_growFrom_1, e11, gC_pos (by omega) (by omega) (by omega) (by omega), if_neg (by omega)]
    · obtain ⟨⟨m', k1, k2⟩, k3⟩ := z
      obtain ⟨u, hu, uo⟩ := c3 m' k1
      rw [hu] at k2
      have : u = s ^^^ to := by omega
      subst this
      exact q ⟨uo, k3⟩
  · refine ⟨false, rfl, frR_rfl, fun _ _ => rfl, ?_, ?_, ?_⟩
    · intro s hs hx _ _
      obtain ⟨m', k, _⟩ := hx
      omega
    · intro s hs _
      rfl
    · constructor
      · intro h
        cases h
      · rintro ⟨s, _, h⟩
        exact absurd rfl h
end GR
