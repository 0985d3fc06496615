/-! ===== reading: the end of a part, both sides at once ===== -/
section RDd
variable {S R : ZS} {b : Int → Int} {N p n : Nat} {T : TW}
def rdAt (R : ZS) (T : TW) : Prop := (∀ i p : Nat, i < 5 → p < T.2 6 → zA R 53 (5 * (p : Int) + (i : Int)) = (T.1 (i + 1) p : Int)) ∧ zF R 49 12 = (T.2 8 : Int)
def frD (S S' : ZS) : Prop := (∀ h : Nat, (h < 16 ∨ 21 < h) → S'.1 h = S.1 h) ∧ (∀ h j : Nat, h ≠ 15 → (h ≠ 22 ∨ j ≠ 2) → S'.2.1 h j = S.2.1 h j) ∧ S'.2.2 = S.2.2
def frT (R R' : ZS) : Prop := (∀ h : Nat, h ≠ 53 → R'.1 h = R.1 h) ∧ (∀ h j : Nat, (h ≠ 49 ∨ j < 10 ∨ 12 < j) → R'.2.1 h j = R.2.1 h j) ∧ R'.2.2 = R.2.2
theorem frD_trans {S1 S2 : ZS} (f : frD S S1) (g : frD S1 S2) : frD S S2 := ⟨fun h a => (g.1 h a).trans (f.1 h a), fun h j a c => (g.2.1 h j a c).trans (f.2.1 h j a c), g.2.2.trans f.2.2⟩
theorem frT_trans {S1 S2 : ZS} (f : frT S S1) (g : frT S1 S2) : frT S S2 := ⟨fun h a => (g.1 h a).trans (f.1 h a), fun h j a => (g.2.1 h j a).trans (f.2.1 h j a), g.2.2.trans f.2.2⟩
theorem frD_1 {S' : ZS} (f : fr1 22 2 S S') : frD S S' := ⟨fun h _ => congrFun f.1 h, fun h j _ c => f.2.2 h j c, f.2.1⟩
theorem frD_wF (S : ZS) (j : Nat) (x : Int) : frD S (wF S 15 j x) := ⟨fun _ _ => rfl, fun h j' a _ => by show (if j' = j then (if h = 15 then x else S.2.1 h j') else S.2.1 h j') = _; rw [if_neg a, ite_self], rfl⟩
theorem frD_wA (S : ZS) {h : Nat} (x v : Int) (h1 : 16 ≤ h) (h2 : h ≤ 21) : frD S (wA S h x v) := ⟨fun h' hh => by show (if h' = h then _ else _) = _; rw [if_neg (by omega)], fun _ _ _ _ => rfl, rfl⟩
theorem frT_1 {S' : ZS} (f : fr1 49 10 S S') : frT S S' := ⟨fun h _ => congrFun f.1 h, fun h j c => f.2.2 h j (by omega), f.2.1⟩
theorem frT_wA (S : ZS) (x v : Int) : frT S (wA S 53 x v) := ⟨fun h' hh => by show (if h' = 53 then _ else _) = _; rw [if_neg hh], fun _ _ _ => rfl, rfl⟩
theorem frT_wF (S : ZS) {j : Nat} (x : Int) (h1 : 10 ≤ j) (h2 : j ≤ 12) : frT S (wF S 49 j x) := ⟨fun _ _ => rfl, fun h j' a => by
  show (if j' = j then (if h = 49 then x else S.2.1 h j') else S.2.1 h j') = _
  by_cases c : j' = j
  · rw [if_pos c, if_neg (by omega)]
  · rw [if_neg c], rfl⟩
theorem fr1_tAt {h j t : Nat} {S' : ZS} (f : fr1 h j S S') (ht : tAt S t T) (c : t ≠ h) : tAt S' t T := ⟨fun j a b => (fr1_F f (Or.inl c)).trans (ht.1 j a b), fun i p a b c => (fr1_A f _ _).trans (ht.2.1 i p a b c), fun p a => (fr1_A f _ _).trans (ht.2.2 p a)⟩
theorem tM_wA (h : tM S b N p) (x v : Int) : tM (wA S 53 x v) b N p := ⟨h.1, h.2.1, h.2.2.1, fun i hi => by rw [zA_wA, if_neg (by decide)]; exact h.2.2.2 i hi⟩
theorem rd_fr1 {R' : ZS} (f : fr1 49 10 R R') (h : rdAt R T) : rdAt R' T := ⟨fun i p a c => (fr1_A f _ _).trans (h.1 i p a c), (fr1_F f (Or.inr (by decide))).trans h.2⟩
theorem rd_wA (h : rdAt R T) {x v : Int} (hx : 5 * (T.2 6 : Int) ≤ x) : rdAt (wA R 53 x v) T := ⟨fun i p a c => by rw [zA_wA, if_pos rfl, if_neg (by omega)]; exact h.1 i p a c, h.2⟩
theorem tN_15 (h : tAt S 15 T) {v : Nat} : tAt (wF S 15 8 (v : Int)) 15 (tN T 8 v) := by
  refine ⟨fun j a b => ?_, fun i p a b c => h.2.1 i p a b c, fun p a => h.2.2 p a⟩
  show (if j = 8 then (if 15 = 15 then (v : Int) else _) else zF S 15 j) = ((if j = 8 then v else T.2 j : Nat) : Int)
  by_cases c : j = 8
  · rw [if_pos c, if_pos c, if_pos rfl]
  · rw [if_neg c, if_neg c]
    exact h.1 j a b
theorem tN_same (T : TW) (j : Nat) : tN T j (T.2 j) = T := by
  refine Prod.ext rfl (funext fun i => ?_)
  show (if i = j then T.2 j else T.2 i) = T.2 i
  by_cases c : i = j
  · rw [if_pos c, c]
  · rw [if_neg c]
theorem sp_add15 (ht : tAt S 15 T) (h6 : T.2 6 < 8) (k y pl ow rs : Nat) (n : Nat) : ∃ S', fT_addPart_15 n S (k : Int) (y : Int) (pl : Int) (ow : Int) (rs : Int) = some S' ∧ frD S S' ∧ zF S' 22 2 = zF S 22 2 ∧ tAt S' 15 (tP T k y pl ow rs) := by
  refine ⟨wF (wA (wA (wA (wA (wA S 16 (T.2 6 : Int) (k : Int)) 17 (T.2 6 : Int) (y : Int)) 18 (T.2 6 : Int) (pl : Int)) 19 (T.2 6 : Int) (ow : Int)) 20 (T.2 6 : Int) (rs : Int)) 15 6 ((T.2 6 : Int) + 1), ?_, ?_, rfl, ?_⟩
  · unfold fT_addPart_15
    rw [ht.1 6 (by omega) (by omega), gX_pos (by omega) (by omega) (by omega), gX_pos (by omega) (by omega) (by omega), gX_pos (by omega) (by omega) (by omega), gX_pos (by omega) (by omega) (by omega), gX_pos (by omega) (by omega) (by omega)]
  · exact frD_trans (frD_trans (frD_trans (frD_trans (frD_trans (frD_wA _ _ _ (by omega) (by omega)) (frD_wA _ _ _ (by omega) (by omega))) (frD_wA _ _ _ (by omega) (by omega))) (frD_wA _ _ _ (by omega) (by omega))) (frD_wA _ _ _ (by omega) (by omega))) (frD_wF _ 6 _)
  · refine ⟨fun j a b => ?_, fun i p a b c => ?_, fun p a => ?_⟩
    · rw [zF_wF]
      show (if j = 6 then (if 15 = 15 then (T.2 6 : Int) + 1 else _) else zF S 15 j) = ((if j = 6 then T.2 6 + 1 else T.2 j : Nat) : Int)
      by_cases c : j = 6
      · rw [if_pos c, if_pos c, if_pos rfl]
        rfl
      · rw [if_neg c, if_neg c]
        exact ht.1 j a b
    · have c : p < T.2 6 + 1 := c
      have hi : i = 1 ∨ i = 2 ∨ i = 3 ∨ i = 4 ∨ i = 5 := by omega
      by_cases e : p = T.2 6
      · rw [show (tP T k y pl ow rs).1 i p = (if i = 1 then k else if i = 2 then y else if i = 3 then pl else if i = 4 then ow else rs) from if_pos ⟨e, b⟩]
        have e' : (p : Int) = (T.2 6 : Int) := by omega
        simp only [zA_wF, zA_wA]
        rcases hi with rfl | rfl | rfl | rfl | rfl <;> simp [e']
      · rw [show (tP T k y pl ow rs).1 i p = T.1 i p from if_neg (fun q => e q.1)]
        have e' : ¬ (p : Int) = (T.2 6 : Int) := by omega
        have := ht.2.1 i p a b (by omega)
        simp only [zA_wF, zA_wA]
        rcases hi with rfl | rfl | rfl | rfl | rfl <;> simpa [e'] using this
    · have a : p < T.2 7 := a
      rw [show (tP T k y pl ow rs).1 6 p = T.1 6 p from if_neg (fun q => absurd q.2 (by omega))]
      simp only [zA_wF, zA_wA]
      simpa using ht.2.2 p a
/-- the five numbers of a part that was read -/
theorem rd_add (h : rdAt R T) {k y pl ow rs : Nat} (h0 : zA R 53 (5 * (T.2 6 : Int)) = (k : Int)) (h1 : zA R 53 (5 * (T.2 6 : Int) + 1) = (y : Int)) (h2 : zA R 53 (5 * (T.2 6 : Int) + 2) = (pl : Int)) (h3 : zA R 53 (5 * (T.2 6 : Int) + 3) = (ow : Int)) (h4 : zA R 53 (5 * (T.2 6 : Int) + 4) = (rs : Int)) : rdAt R (tP T k y pl ow rs) := by
  refine ⟨fun i p a c => ?_, h.2⟩
  have c : p < T.2 6 + 1 := c
  by_cases e : p = T.2 6
  · have hi : i = 0 ∨ i = 1 ∨ i = 2 ∨ i = 3 ∨ i = 4 := by omega
    rw [show (tP T k y pl ow rs).1 (i + 1) p = (if i + 1 = 1 then k else if i + 1 = 2 then y else if i + 1 = 3 then pl else if i + 1 = 4 then ow else rs) from if_pos ⟨e, by omega⟩, e]
    rcases hi with rfl | rfl | rfl | rfl | rfl
    · exact (congrArg (zA R 53) (by omega)).trans h0
    · exact h1
    · exact h2
    · exact h3
    · exact h4
  · rw [show (tP T k y pl ow rs).1 (i + 1) p = T.1 (i + 1) p from if_neg (fun q => e q.1)]
    exact h.1 i p a (by omega)
theorem rd_st (h : rdAt R T) (v : Nat) : rdAt (wF R 49 12 (v : Int)) (tN T 8 v) := ⟨fun i p a c => h.1 i p a c, rfl⟩
def OUT (b : Int → Int) (N : Nat) (T : TW) (S R : ZS) (qc qm : Option (Int × ZS)) : Prop := ∃ v S' R' p', qc = some (v, S') ∧ qm = some (v, R') ∧ frD S S' ∧ frT R R' ∧ tC S' b N p' ∧ tM R' b N p' ∧ ((v = 0 ∧ skp b N p' = p') ∨ (v = 1 ∧ ∃ k y pl ow rs st : Nat, k ≤ 3 ∧ 1 ≤ y ∧ y ≤ 99 ∧ pl ≤ 99 ∧ ow ≤ 3 ∧ rs < 2 ^ T.2 6 ∧ (st = T.2 8 ∨ (st = T.2 8 ||| 2 ^ T.2 6 ∧ nDf rs (T.2 8) = 0)) ∧ tAt S' 15 (tP (tN T 8 st) k y pl ow rs) ∧ rdAt R' (tP (tN T 8 st) k y pl ow rs)))
theorem OUT_mono {S0 R0 : ZS} {qc qm : Option (Int × ZS)} (f : frD S0 S) (g : frT R0 R) (h : OUT b N T S R qc qm) : OUT b N T S0 R0 qc qm := by
  obtain ⟨v, S', R', p', h1, h2, h3, h4, h5⟩ := h
  exact ⟨v, S', R', p', h1, h2, frD_trans f h3, frT_trans g h4, h5⟩
def cTail (n : Nat) (S : ZS) (kx y pl ow : Int) : Option (Int × ZS) := (fP_take n S 47).bind fun z7 => (gC z7.1 0 (if z7.1 = 0 then some (0, z7.2) else (fP_readParts n z7.2 (zF z7.2 15 6)).bind fun z15 => some (z15.1, z15.2))).bind fun z8 => gC z8.1 0 (if z8.1 < 0 then gB 0 (some (0, z8.2)) else (fP_next n z8.2).bind fun z9 => (gC z9.1 42 (if z9.1 = 42 then some 1 else some 0)).bind fun z10 => gC z10 0 (if z10 = 0 then (gC z10 0 (if z10 = 0 then some z9.2 else some (wF (wF z9.2 22 2 ((zF z9.2 22 2) + 1)) 15 8 (zor (zF z9.2 15 8) (zshl 1 (zF z9.2 15 6)))))).bind fun z11 => (fT_addPart_15 n z11 kx y pl ow z8.1).bind fun z12 => gB 1 (some (1, z12)) else gC (zand z8.1 (zxor (zF z9.2 15 8) (-1))) 0 (if (zand z8.1 (zxor (zF z9.2 15 8) (-1))) = 0 then (gC z10 0 (if z10 = 0 then some z9.2 else some (wF (wF z9.2 22 2 ((zF z9.2 22 2) + 1)) 15 8 (zor (zF z9.2 15 8) (zshl 1 (zF z9.2 15 6)))))).bind fun z13 => (fT_addPart_15 n z13 kx y pl ow z8.1).bind fun z14 => gB 1 (some (1, z14)) else gB 0 (some (0, z9.2)))))
def mTail (n : Nat) (S : ZS) (l1 : Int) : Option (Int × ZS) := (fM_takes n S 47).bind fun z7 => (gC z7.1 0 (if z7.1 = 0 then some (0, z7.2) else (fM_readSet n z7.2 l1).bind fun z10 => some (z10.1, z10.2))).bind fun z8 => gX ((5 * l1) + 4) 40 (gX ((5 * l1) + 4) 40 (gC (zA (wA z8.2 53 ((5 * l1) + 4) z8.1) 53 ((5 * l1) + 4)) 0 (if (zA (wA z8.2 53 ((5 * l1) + 4) z8.1) 53 ((5 * l1) + 4)) < 0 then gB 0 (some (0, wA z8.2 53 ((5 * l1) + 4) z8.1)) else (fM_nextByte n (wA z8.2 53 ((5 * l1) + 4) z8.1)).bind fun z9 => gC z9.1 42 (if z9.1 = 42 then gX ((5 * l1) + 4) 40 (gC (zand (zA z9.2 53 ((5 * l1) + 4)) (zxor (zF z9.2 49 12) (-1))) 0 (if (zand (zA z9.2 53 ((5 * l1) + 4)) (zxor (zF z9.2 49 12) (-1))) = 0 then gB 1 (some (1, wF (wF z9.2 49 12 (zor (zF z9.2 49 12) (zshl 1 l1))) 49 10 ((zF z9.2 49 10) + 1))) else gB 0 (some (0, z9.2)))) else gB 1 (some (1, z9.2))))))
theorem zA_same (S : ZS) (h : Nat) (x v : Int) : zA (wA S h x v) h x = v := by rw [zA_wA, if_pos rfl, if_pos rfl]
theorem tail_both (o : okb b N) (hn : 700 ≤ n) (hC : tC S b N p) (hM : tM R b N p) (ht : tAt S 15 T) (hr : rdAt R T) (h6 : T.2 6 < 8) (h8 : T.2 8 < 2 ^ T.2 6) {k y pl ow : Nat} (hk : k ≤ 3) (hy : 1 ≤ y ∧ y ≤ 99) (hp : pl ≤ 99) (ho : ow ≤ 3) (h0 : zA R 53 (5 * (T.2 6 : Int)) = (k : Int)) (h1 : zA R 53 (5 * (T.2 6 : Int) + 1) = (y : Int)) (h2 : zA R 53 (5 * (T.2 6 : Int) + 2) = (pl : Int)) (h3 : zA R 53 (5 * (T.2 6 : Int) + 3) = (ow : Int)) : OUT b N T S R (cTail n S (k : Int) (y : Int) (pl : Int) (ow : Int)) (mTail n R (T.2 6 : Int)) := by
  have s8 := pw_le (show T.2 6 ≤ 8 by omega)
  obtain ⟨S7, a1, a2, a3⟩ := tC_take o hC (n := n) (by omega) (c := 47) (by omega) (by omega)
  obtain ⟨R7, b1, b2, b3⟩ := tM_take o hM (n := n) (by omega) (c := 47) (by omega) (by omega)
  unfold cTail mTail
  rw [a1, Option.bind_some, b1, Option.bind_some]
  dsimp only
  have e6 : zF S7 15 6 = (T.2 6 : Int) := (fr1_F a2 (Or.inl (by decide))).trans (ht.1 6 (by omega) (by omega))
  have mid : ∃ w S8 R8 p8, (gC (tk b N 47 p).1 0 (if (tk b N 47 p).1 = 0 then some (0, S7) else (fP_readParts n S7 (zF S7 15 6)).bind fun z15 => some (z15.1, z15.2))) = some (w, S8) ∧ (gC (tk b N 47 p).1 0 (if (tk b N 47 p).1 = 0 then some (0, R7) else (fM_readSet n R7 (T.2 6 : Int)).bind fun z10 => some (z10.1, z10.2))) = some (w, R8) ∧ fr1 22 2 S S8 ∧ fr1 49 10 R R8 ∧ tC S8 b N p8 ∧ tM R8 b N p8 ∧ ((w = -1 ∧ skp b N p8 = p8) ∨ ∃ a : Nat, a < 2 ^ T.2 6 ∧ w = (a : Int)) := by
    have tkb : (tk b N 47 p).1 = 0 ∨ (tk b N 47 p).1 = 1 := by unfold tk; split; exact Or.inr rfl; exact Or.inl rfl
    by_cases c : (tk b N 47 p).1 = 0
    · rw [gC_pos (by omega) (by omega) (by omega) (by omega), if_pos c, if_pos c]
      refine ⟨0, S7, R7, _, rfl, ?_, a2, b2, a3, b3, Or.inr ⟨0, pw_pos _, rfl⟩⟩
      rw [gC_pos (by omega) (by omega) (by omega) (by omega)]
    · rw [gC_pos (by omega) (by omega) (by omega) (by omega), if_neg c, if_neg c, e6]
      obtain ⟨S8, c1, c2, c3⟩ := tC_parts o (m := T.2 6) (by omega) (n := n) (by omega) a3
      obtain ⟨R8, d1, d2, d3⟩ := tM_set o (m := T.2 6) (by omega) (n := n) (by omega) b3
      refine ⟨_, S8, R8, _, ?_, ?_, fr1_trans a2 c2, fr1_trans b2 d2, c3, d3, rS_bd a3.2.2.1⟩
      · rw [c1, Option.bind_some]
      · rw [gC_pos (by omega) (by omega) (by omega) (by omega), d1, Option.bind_some]
  obtain ⟨w, S8, R8, p8, m1, m2, m3, m4, m5, m6, m7⟩ := mid
  rw [m1, m2, Option.bind_some, Option.bind_some]
  dsimp only
  rw [gX_pos (x := 5 * (T.2 6 : Int) + 4) (by omega) (by omega) (by omega), gX_pos (x := 5 * (T.2 6 : Int) + 4) (by omega) (by omega) (by omega), zA_same, gC_pos (x := w) (y := 0) (by omega) (by omega) (by omega) (by omega), gC_pos (x := w) (y := 0) (by omega) (by omega) (by omega) (by omega)]
  rcases m7 with ⟨w1, w2⟩ | ⟨a, w1, w2⟩
  · rw [if_pos (by omega), if_pos (by omega), gB_0, gB_0]
    exact ⟨0, S8, _, p8, rfl, rfl, frD_1 m3, frT_trans (frT_1 m4) (frT_wA _ _ _), m5, tM_wA m6 _ _, Or.inl ⟨rfl, w2⟩⟩
  · subst w2
    rw [if_neg (by omega), if_neg (by omega)]
    obtain ⟨S9, c1, c2, c3⟩ := tC_next o m5 (n := n) (by omega)
    obtain ⟨R9, d1, d2, d3⟩ := tM_next o (tM_wA m6 (5 * (T.2 6 : Int) + 4) (a : Int)) (n := n) (by omega)
    rw [c1, d1, Option.bind_some, Option.bind_some]
    dsimp only
    have t9 : tAt S9 15 T := fr1_tAt c2 (fr1_tAt m3 ht (by decide)) (by decide)
    have r9 : rdAt R9 T := rd_fr1 d2 (rd_wA (rd_fr1 m4 hr) (by omega))
    have f9 : frD S S9 := frD_trans (frD_1 m3) (frD_1 c2)
    have g9 : frT R R9 := frT_trans (frT_trans (frT_1 m4) (frT_wA _ _ _)) (frT_1 d2)
    have x4 : zA R9 53 (5 * (T.2 6 : Int) + 4) = (a : Int) := (fr1_A d2 _ _).trans (zA_same _ _ _ _)
    have xx : ∀ j : Int, j ≠ 5 * (T.2 6 : Int) + 4 → zA R9 53 j = zA R 53 j := fun j hj => by
      rw [fr1_A d2, zA_wA, if_pos rfl, if_neg hj, fr1_A m4]
    have x0 := (xx (5 * (T.2 6 : Int)) (by omega)).trans h0
    have x1 := (xx (5 * (T.2 6 : Int) + 1) (by omega)).trans h1
    have x2 := (xx (5 * (T.2 6 : Int) + 2) (by omega)).trans h2
    have x3 := (xx (5 * (T.2 6 : Int) + 3) (by omega)).trans h3
    have e8 := t9.1 8 (by omega) (by omega)
    have e8' := t9.1 6 (by omega) (by omega)
    have q9 := c3.2.2.1
    have c9 := c3.2.1
    have d9 := d3.2.1
    have k9 := skp_skp (b := b) m5.2.2.1
    by_cases st : skp b N p8 < N ∧ b ((skp b N p8 : Nat) : Int) = 42
    · rw [if_pos st.1, if_pos st.1, st.2]
      rw [gC_pos (x := 42) (y := 42) (by omega) (by omega) (by omega) (by omega), gC_pos (x := 42) (y := 42) (by omega) (by omega) (by omega) (by omega), if_pos rfl, if_pos rfl, Option.bind_some, gC_pos (x := 1) (y := 0) (by omega) (by omega) (by omega) (by omega), if_neg (by decide), gX_pos (x := 5 * (T.2 6 : Int) + 4) (by omega) (by omega) (by omega), x4, e8, r9.2, zdf_n (by omega) (by omega), gC_pos (x := ((nDf a (T.2 8) : Nat) : Int)) (y := 0) (by omega) (by have := nDf_le a (T.2 8); omega) (by omega) (by omega), gC_pos (x := ((nDf a (T.2 8) : Nat) : Int)) (y := 0) (by omega) (by have := nDf_le a (T.2 8); omega) (by omega) (by omega)]
      by_cases nd0 : nDf a (T.2 8) = 0
      · rw [if_pos (show ((nDf a (T.2 8) : Nat) : Int) = 0 by omega), if_pos (show ((nDf a (T.2 8) : Nat) : Int) = 0 by omega), gC_pos (x := 1) (y := 0) (by omega) (by omega) (by omega) (by omega), if_neg (show ¬ (1 : Int) = 0 by decide), Option.bind_some, e8', zshl_1 (by omega), zor_n (by omega) (Nat.lt_of_le_of_lt (Nat.pow_le_pow_right (n := 2) (by omega) (show T.2 6 ≤ 8 by omega)) (by decide)), gB_1]
        have t10 : tAt (wF (wF S9 22 2 (zF S9 22 2 + 1)) 15 8 ((T.2 8 ||| 2 ^ T.2 6 : Nat) : Int)) 15 (tN T 8 (T.2 8 ||| 2 ^ T.2 6)) := tN_15 (fr1_tAt (fr1_wF _ _ _ _) t9 (by decide))
        obtain ⟨S', g1, g2, g3, g4⟩ := sp_add15 t10 h6 k y pl ow a n
        rw [g1, Option.bind_some, gB_1]
        have c5 : tC S9 b N (skp b N p8) := c3
        refine ⟨1, S', _, skp b N p8 + 1, rfl, rfl, frD_trans f9 (frD_trans (frD_trans (frD_1 (fr1_wF _ _ _ _)) (frD_wF _ _ _)) g2), frT_trans g9 (frT_trans (frT_wF _ _ (by omega) (by omega)) (frT_wF _ _ (by omega) (by omega))), ?_, ?_, Or.inr ⟨rfl, k, y, pl, ow, a, T.2 8 ||| 2 ^ T.2 6, hk, hy.1, hy.2, hp, ho, w1, Or.inr ⟨rfl, nd0⟩, g4, ?_⟩⟩
        · refine ⟨(g2.2.1 22 1 (by decide) (Or.inr (by decide))).trans c3.1, g3.trans ?_, (by omega), fun i hi => (congrFun (g2.1 23 (by omega)) _).trans (c3.2.2.2 i hi)⟩
          show zF S9 22 2 + 1 = _
          rw [c9]
          omega
        · refine ⟨d3.1, ?_, (by omega), d3.2.2.2⟩
          show zF R9 49 10 + 1 = _
          rw [d9]
          omega
        · exact rd_fr1 (fr1_wF _ _ _ _) (rd_add (rd_st r9 _) x0 x1 x2 x3 x4)
      · rw [if_neg (show ¬ ((nDf a (T.2 8) : Nat) : Int) = 0 by omega), if_neg (show ¬ ((nDf a (T.2 8) : Nat) : Int) = 0 by omega), gB_0, gB_0]
        exact ⟨0, S9, R9, _, rfl, rfl, f9, g9, c3, d3, Or.inl ⟨rfl, k9⟩⟩
    · have vc : ∃ v : Int, (if skp b N p8 < N then b ((skp b N p8 : Nat) : Int) else 0) = v ∧ 0 ≤ v ∧ v ≤ 126 ∧ v ≠ 42 := by
        by_cases k2 : skp b N p8 < N
        · have := o.2 _ k2
          exact ⟨_, if_pos k2, by omega, by omega, fun z => st ⟨k2, z⟩⟩
        · exact ⟨_, if_neg k2, by omega, by omega, by omega⟩
      have vm : ∃ v : Int, (if skp b N p8 < N then b ((skp b N p8 : Nat) : Int) else -1) = v ∧ -1 ≤ v ∧ v ≤ 126 ∧ v ≠ 42 := by
        by_cases k2 : skp b N p8 < N
        · have := o.2 _ k2
          exact ⟨_, if_pos k2, by omega, by omega, fun z => st ⟨k2, z⟩⟩
        · exact ⟨_, if_neg k2, by omega, by omega, by omega⟩
      obtain ⟨v, v1, v2, v3, v4⟩ := vc
      obtain ⟨u, u1, u2, u3, u4⟩ := vm
      rw [v1, u1, gC_pos (x := v) (y := 42) (by omega) (by omega) (by omega) (by omega), gC_pos (x := u) (y := 42) (by omega) (by omega) (by omega) (by omega), if_neg v4, if_neg u4, Option.bind_some, gC_pos (x := 0) (y := 0) (by omega) (by omega) (by omega) (by omega), if_pos rfl, gC_pos (x := 0) (y := 0) (by omega) (by omega) (by omega) (by omega), if_pos rfl, Option.bind_some, gB_1]
      have t9' := tN_same T 8
      obtain ⟨S', g1, g2, g3, g4⟩ := sp_add15 t9 h6 k y pl ow a n
      rw [g1, Option.bind_some, gB_1]
      refine ⟨1, S', R9, skp b N p8, rfl, rfl, frD_trans f9 g2, g9, ?_, d3, Or.inr ⟨rfl, k, y, pl, ow, a, T.2 8, hk, hy.1, hy.2, hp, ho, w1, Or.inl rfl, ?_, ?_⟩⟩
      · exact ⟨(g2.2.1 22 1 (by decide) (Or.inr (by decide))).trans c3.1, g3.trans c9, q9, fun i hi => (congrFun (g2.1 23 (by omega)) _).trans (c3.2.2.2 i hi)⟩
      · rw [t9']
        exact g4
      · rw [t9']
        exact rd_add r9 x0 x1 x2 x3 x4
end RDd
