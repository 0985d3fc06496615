/-! ===== one row more ===== -/
theorem wN_room {S : ZS} (g : gRoom S) (h : nn S < 65536) : gRoom (wN S) ∧ nn (wN S) = 2 * nn S := by
  obtain ⟨⟨j, hj, hn⟩, hx⟩ := g
  have e : nn (wN S) = 2 * nn S := rfl
  refine ⟨⟨⟨j + 1, ?_, ?_⟩, ?_⟩, e⟩
  · have h2 : 2 ^ j < 32 := by omega
    by_cases c : j = 5
    · subst c
      omega
    · omega
  · rw [e, hn, Nat.pow_succ]
    omega
  · rw [e]
    have hn' : S.2.2.1 = nn S := rfl
    show match (match S.2.2.2 with
      | none => some (cNd S, [])
      | some (g, gs) => some (g, gs ++ [cNd S])) with
      | none => 2 * nn S = 2048
      | some (g, gs) => eSz g + (gs.map eSz).sum + 2048 = 2 * nn S ∧ gs.length ≤ 2 * nn S
    split at hx
    · next e2 =>
      rw [e2]
      simp only [List.map_nil, List.sum_nil, List.length_nil, cNd, cI_sz]
      omega
    · next g gs e2 =>
      rw [e2]
      simp only [List.map_append, List.sum_append, List.map_cons, List.map_nil, List.sum_cons, List.sum_nil, List.length_append, List.length_cons, List.length_nil, cNd, cI_sz]
      have : 1 ≤ nn S := by
        have := Nat.one_le_two_pow (n := j)
        omega
      omega
theorem room_nn {S : ZS} (g : gRoom S) : 2048 ≤ nn S ∧ nn S ≤ 65536 := by
  obtain ⟨⟨j, hj, hn⟩, -⟩ := g
  have h1 := Nat.one_le_two_pow (n := j)
  have h2 : 2 ^ j ≤ 32 := Nat.pow_le_pow_right (n := 2) (by omega) (show j ≤ 5 from hj)
  omega
theorem room_dbl {S : ZS} (g : gRoom S) (h : nn S < 65536) : nn S ≤ 32768 := by
  obtain ⟨⟨j, hj, hn⟩, -⟩ := g
  by_cases c : j = 5
  · subst c; omega
  · have h2 : 2 ^ j ≤ 16 := Nat.pow_le_pow_right (n := 2) (by omega) (show j ≤ 4 by omega)
    omega
/-- the row of needs, and one number of Ways, alone differ -/
def frG (S S' : ZS) : Prop := (∀ h : Nat, h ≠ 31 → S'.1 h = S.1 h) ∧ ∀ h j : Nat, (h ≠ 24 ∨ j ≠ 12) → S'.2.1 h j = S.2.1 h j
theorem frG_rfl {S : ZS} : frG S S := ⟨fun _ _ => rfl, fun _ _ _ => rfl⟩
theorem frG_trans {S S1 S2 : ZS} (h1 : frG S S1) (h2 : frG S1 S2) : frG S S2 := ⟨fun h a => (h2.1 h a).trans (h1.1 h a), fun h j a => (h2.2 h j a).trans (h1.2 h j a)⟩
theorem frG_A {S S' : ZS} (h : frG S S') {a : Nat} (ha : a ≠ 31) (i : Int) : zA S' a i = zA S a i := congrFun (h.1 a ha) i
theorem frG_F {S S' : ZS} (h : frG S S') {a j : Nat} (ha : a ≠ 24 ∨ j ≠ 12) : zF S' a j = zF S a j := h.2 a j ha
theorem frG_tAt {S S' : ZS} (h : frG S S') {T : TW} (ht : tAt S 1 T) : tAt S' 1 T := ⟨fun j a b => (frG_F h (by omega)).trans (ht.1 j a b), fun i p a b c => (frG_A h (by omega) _).trans (ht.2.1 i p a b c), fun p a => (frG_A h (by omega) _).trans (ht.2.2 p a)⟩
theorem frG_tabl {S S' : ZS} (h : frG S S') {T : TW} (g : tabl S T) : tabl S' T := by
  intro s hs
  rw [frG_A h (by omega), frG_A h (by omega), frG_A h (by omega), frG_A h (by omega), frG_A h (by omega)]
  exact g s hs
theorem frG_mvs {S S' : ZS} (h : frG S S') {T : TW} {mv : Nat} (g : mvs S T mv) : mvs S' T mv := by
  obtain ⟨c, c1, c2, c3, c4⟩ := g
  refine ⟨c, c1, (frG_F h (by omega)).trans c2, fun m hm => ?_, fun u hu => ?_⟩
  · obtain ⟨u, h1, h2⟩ := c3 m hm
    exact ⟨u, (frG_A h (by omega) _).trans h1, h2⟩
  · obtain ⟨m, h1, h2⟩ := c4 u hu
    exact ⟨m, h1, (frG_A h (by omega) _).trans h2⟩
theorem frR_G {S S' : ZS} (h : frR 31 31 S S') : frG S S' := ⟨fun h' hh => h.1 h' (by omega), fun _ _ _ => by rw [h.2]⟩
def nRow (S : ZS) (T : TW) (mv r : Nat) : Prop := ∀ i : Nat, i ≤ r → ∀ s : Nat, s < 2 ^ T.2 6 → zA S 31 (256 * (i : Int) + (s : Int)) = Lr T mv i s
section G2
variable {S : ZS} {T : TW} {mv : Nat}
theorem sp_growRow (ht : tAt S 1 T) (w : wfR T) (hwk : T.2 11 ≤ 999) (htb : tabl S T) (hmv : mvs S T mv) (hwf : firmB T (T.2 9) = true) {r : Nat} (hr : zF S 24 12 = (r : Int)) (hr2 : r ≤ 254) (hrow : nRow S T mv r) (hroom : gRoom S) (hnn : 256 * (r + 1) ≤ nn S) {n : Nat} (hn : 900 ≤ n) : ∃ (g : Bool) (S' : ZS), fW_growRow n S ((2 ^ T.2 6 - 1 : Nat) : Int) = some (bZ g, S') ∧ zF S' 24 12 = ((r + 1 : Nat) : Int) ∧ nRow S' T mv (r + 1) ∧ (g = true ↔ ∃ s : Nat, s < 2 ^ T.2 6 ∧ Lr T mv (r + 1) s ≠ Lr T mv r s) ∧ frG S S' ∧ gRoom S' ∧ 256 * (r + 2) ≤ nn S' := by
  have hq := pw_le w.1
  have hp := pw_pos (T.2 6)
  have rn := room_nn hroom
  -- the row is long enough
  have A : ∃ z1, gC ((((zF S 24 12) * 256) + 256) + 256) (((nn S) : Nat) : Int) (if (((nn S) : Nat) : Int) < ((((zF S 24 12) * 256) + 256) + 256) then gG S (2 * (((nn S) : Nat) : Int)) (some (wN S)) else some S) = some z1 ∧ 256 * (r + 2) ≤ nn z1 ∧ nn z1 ≤ 65536 ∧ gRoom z1 ∧ (∀ i : Int, 0 ≤ i → i < 256 * ((r : Int) + 1) → zA z1 31 i = zA S 31 i) ∧ (∀ h : Nat, h ≠ 31 → z1.1 h = S.1 h) ∧ z1.2.1 = S.2.1 := by
    rw [hr, gC_pos (by omega) (by omega) (by omega) (by omega)]
    by_cases c : ((nn S : Nat) : Int) < (r : Int) * 256 + 256 + 256
    · obtain ⟨g1, g2⟩ := wN_room hroom (by omega)
      have gd := room_dbl hroom (by omega)
      refine ⟨wN S, ?_, (by omega), (by omega), g1, fun i a b => ?_, fun h hh => ?_, rfl⟩
      · rw [if_pos c, gG_pos rfl (by omega) (by omega)]
      · show (if (31 : Nat) = 31 then zc (S.1 31) (fun _ => 0) 0 0 ((nn S : Nat) : Int) else S.1 31) i = _
        rw [if_pos rfl]
        unfold zc
        rw [if_pos (by omega), show (0 : Int) + (i - 0) = i by omega]
        rfl
      · show (if h = 31 then _ else S.1 h) = _
        rw [if_neg hh]
    · refine ⟨S, ?_, (by omega), (by omega), hroom, fun _ _ _ => rfl, fun _ _ => rfl, rfl⟩
      rw [if_neg c]
  obtain ⟨z1, a1, a2, a3, a4, a5, a6, a7⟩ := A
  have fz : frG S z1 := ⟨a6, fun h j _ => by rw [a7]⟩
  have hrz : zF z1 24 12 = (r : Int) := by show z1.2.1 24 12 = _; rw [a7]; exact hr
  -- the last row copied
  have rd1 : ∀ i, zA (wR z1 31 (zc (z1.1 31) (z1.1 31) ((r : Int) * 256) ((r : Int) * 256 + 256) 256)) 31 i = if (r : Int) * 256 + 256 ≤ i ∧ i < (r : Int) * 256 + 256 + 256 then zA z1 31 ((r : Int) * 256 + (i - ((r : Int) * 256 + 256))) else zA z1 31 i := fun i => rfl
  have f1 : frR 31 31 z1 (wR z1 31 (zc (z1.1 31) (z1.1 31) ((r : Int) * 256) ((r : Int) * 256 + 256) 256)) := frR_wR _ _ (by omega) (by omega)
  generalize hS1 : wR z1 31 (zc (z1.1 31) (z1.1 31) ((r : Int) * 256) ((r : Int) * 256 + 256) 256) = S1 at *
  have fS : frG S S1 := frG_trans fz (frR_G f1)
  have low : ∀ i : Int, 0 ≤ i → i < 256 * ((r : Int) + 1) → zA S1 31 i = zA S 31 i := by
    intro i x y
    rw [rd1, if_neg (by omega)]
    exact a5 i x y
  have row1 : nRow S1 T mv r := fun i hi s hs => (low _ (by omega) (by omega)).trans (hrow i hi s hs)
  have top : ∀ s : Nat, s < 2 ^ T.2 6 → zA S1 31 (((256 * (r + 1) : Nat) : Int) + (s : Int)) = Lr T mv r s := by
    intro s hs
    rw [rd1, if_pos (by omega), a5 _ (by omega) (by omega), ← hrow r (Nat.le_refl _) s hs]
    congr 1
    omega
  have n1 : nn S1 = nn z1 := frR_n f1
  have t1 := frG_tAt fS ht
  have tb1 := frG_tabl fS htb
  have mv1 := frG_mvs fS hmv
  have e := loop_inv (F := fun n (a : Int × ZS) p => fW_growRow_1 n a.2 ((2 ^ T.2 6 - 1 : Nat) : Int) ((r : Int) * 256) ((r : Int) * 256 + 256) a.1 p) (fun to a => ∃ g : Bool, a.1 = bZ g ∧ frR 31 31 S1 a.2 ∧ (∀ i : Int, 0 ≤ i → i < 256 * ((r : Int) + 1) → zA a.2 31 i = zA S1 31 i) ∧ (∀ s : Nat, s < 2 ^ T.2 6 → zA a.2 31 (((256 * (r + 1) : Nat) : Int) + (s : Int)) = min (Lr T mv r s) (minTo (fun to => if Lr T mv r to < bef T mv r to then stp T mv (Lr T mv r) s to else 1000) to)) ∧ (g = true ↔ ∃ s : Nat, s < 2 ^ T.2 6 ∧ zA a.2 31 (((256 * (r + 1) : Nat) : Int) + (s : Int)) ≠ Lr T mv r s)) (fun a => ∃ g : Bool, a.1 = bZ g ∧ frR 31 31 S1 a.2 ∧ (∀ i : Int, 0 ≤ i → i < 256 * ((r : Int) + 1) → zA a.2 31 i = zA S1 31 i) ∧ (∀ s : Nat, s < 2 ^ T.2 6 → zA a.2 31 (((256 * (r + 1) : Nat) : Int) + (s : Int)) = Lr T mv (r + 1) s) ∧ (g = true ↔ ∃ s : Nat, s < 2 ^ T.2 6 ∧ zA a.2 31 (((256 * (r + 1) : Nat) : Int) + (s : Int)) ≠ Lr T mv r s)) (2 ^ T.2 6) 500 ?_ ?_ n (0, S1) (by omega) ?_
  · obtain ⟨⟨b1, b2⟩, e1, g, e2, e3, e4, e5, e6⟩ := e
    have e1 : fW_growRow_1 n S1 ((2 ^ T.2 6 - 1 : Nat) : Int) ((r : Int) * 256) ((r : Int) * 256 + 256) 0 0 = some (b1, b2) := e1
    have e2 : b1 = bZ g := e2
    have e3 : frR 31 31 S1 b2 := e3
    have e4 : ∀ i : Int, 0 ≤ i → i < 256 * ((r : Int) + 1) → zA b2 31 i = zA S1 31 i := e4
    have e5 : ∀ s : Nat, s < 2 ^ T.2 6 → zA b2 31 (((256 * (r + 1) : Nat) : Int) + (s : Int)) = Lr T mv (r + 1) s := e5
    have e6 : g = true ↔ ∃ s : Nat, s < 2 ^ T.2 6 ∧ zA b2 31 (((256 * (r + 1) : Nat) : Int) + (s : Int)) ≠ Lr T mv r s := e6
    have e12 : zF b2 24 12 = (r : Int) := (frR_F e3 24 12).trans ((frR_F f1 24 12).trans hrz)
    have nb : nn b2 = nn z1 := (frR_n e3).trans n1
    refine ⟨g, wF b2 24 12 ((r : Int) + 1), ?_, rfl, fun i hi s hs => ?_, ?_, ?_, ?_, ?_⟩
    · unfold fW_growRow
      rw [a1, Option.bind_some, hr, gY_pos (by omega) (by omega) (by omega) (by omega) (by omega) (by omega) (by omega), hS1, e1, Option.bind_some, e12, e2]
      exact gB_b g _
    · show zA b2 31 _ = _
      by_cases c : i = r + 1
      · subst c
        rw [← e5 s hs]
        congr 1
      · rw [e4 _ (by omega) (by omega)]
        exact row1 i (by omega) s hs
    · rw [e6]
      constructor
      · rintro ⟨s, hs, h⟩
        rw [e5 s hs] at h
        exact ⟨s, hs, h⟩
      · rintro ⟨s, hs, h⟩
        refine ⟨s, hs, ?_⟩
        rw [e5 s hs]
        exact h
    · refine frG_trans fS (frG_trans (frR_G e3) ⟨fun _ _ => rfl, fun h j hh => ?_⟩)
      show (if j = 12 then (if h = 24 then _ else b2.2.1 h j) else b2.2.1 h j) = b2.2.1 h j
      by_cases c : j = 12
      · rw [if_pos c, if_neg (by omega)]
      · rw [if_neg c]
    · refine ex_gRoom (S := z1) ?_ a4
      show b2.2.2 = z1.2.2
      rw [e3.2, f1.2]
    · show 256 * (r + 2) ≤ nn b2
      rw [nb]
      exact a2
  · rintro n to ⟨l4, a⟩ hto hn ⟨g, h1, h2, h3, h4, h5⟩
    have h1 : l4 = bZ g := h1
    have h2 : frR 31 31 S1 a := h2
    have h3 : ∀ i : Int, 0 ≤ i → i < 256 * ((r : Int) + 1) → zA a 31 i = zA S1 31 i := h3
    have h4 : ∀ s : Nat, s < 2 ^ T.2 6 → zA a 31 (((256 * (r + 1) : Nat) : Int) + (s : Int)) = min (Lr T mv r s) (minTo (fun to => if Lr T mv r to < bef T mv r to then stp T mv (Lr T mv r) s to else 1000) to) := h4
    have h5 : g = true ↔ ∃ s : Nat, s < 2 ^ T.2 6 ∧ zA a 31 (((256 * (r + 1) : Nat) : Int) + (s : Int)) ≠ Lr T mv r s := h5
    have na : nn a = nn z1 := (frR_n h2).trans n1
    have ra : zF a 24 12 = (r : Int) := (frR_F h2 24 12).trans ((frR_F f1 24 12).trans hrz)
    have cur : zA a 31 ((r : Int) * 256 + (to : Int)) = Lr T mv r to := by
      rw [h3 _ (by omega) (by omega), ← row1 r (Nat.le_refl _) to hto]
      congr 1
      omega
    have bc := Lr_bd (T := T) (mv := mv) r to
    have bb : 0 ≤ bef T mv r to ∧ bef T mv r to ≤ 1000 := by
      cases r with
      | zero => exact ⟨(by show (0 : Int) ≤ 1000; decide), (by show (1000 : Int) ≤ 1000; decide)⟩
      | succ q => exact Lr_bd q to
    have ebef : (gC (zF a 24 12) 0 (if zF a 24 12 = 0 then some 1000 else gX ((r : Int) * 256 - 256 + (to : Int)) (nn a) (some (zA a 31 ((r : Int) * 256 - 256 + (to : Int)))))) = some (bef T mv r to) := by
      rw [ra, gC_pos (by omega) (by omega) (by omega) (by omega)]
      cases r with
      | zero => rfl
      | succ q =>
        rw [if_neg (by omega), gX_pos (by omega) (by omega) (by omega), h3 _ (by omega) (by omega)]
        show some _ = some (Lr T mv q to)
        rw [← row1 q (by omega) to hto]
        congr 2
        omega
    have mono : ∀ s : Nat, s < 2 ^ T.2 6 → 0 ≤ zA a 31 (((256 * (r + 1) : Nat) : Int) + (s : Int)) ∧ zA a 31 (((256 * (r + 1) : Nat) : Int) + (s : Int)) ≤ Lr T mv r s := by
      intro s hs
      have b := Lr_bd (T := T) (mv := mv) r s
      have : 0 ≤ minTo (fun to => if Lr T mv r to < bef T mv r to then stp T mv (Lr T mv r) s to else 1000) to := le_minTo (by omega) (fun i _ => by
        by_cases k : Lr T mv r i < bef T mv r i
        · rw [if_pos k]; exact stp_0 _ _ _
        · rw [if_neg k]; decide)
      rw [h4 s hs]
      omega
    show ∃ a' : Int × ZS, _ ∧ fW_growRow_1 (n + 1) a ((2 ^ T.2 6 - 1 : Nat) : Int) ((r : Int) * 256) ((r : Int) * 256 + 256) l4 (to : Int) = fW_growRow_1 n a'.2 ((2 ^ T.2 6 - 1 : Nat) : Int) ((r : Int) * 256) ((r : Int) * 256 + 256) a'.1 ((to : Int) + 1)
    rw [fW_growRow_1, gC_pos (x := (to : Int)) (by omega) (by omega) (by omega) (by omega), if_neg (by omega), ebef, Option.bind_some, gX_pos (by omega) (by omega) (by omega), cur, gC_pos (by omega) (by omega) (by omega) (by omega)]
    by_cases k : Lr T mv r to < bef T mv r to
    · obtain ⟨g', S', q1, q2, q3, q4, q5, q6⟩ := sp_growFrom w (fr_tabl (frR_fr h2 1000) tb1 (by omega)) (frG_mvs (frR_G h2) mv1) (to := to) (NX := 256 * (r + 1)) (d := Lr T mv r to) hto (by omega) (by omega) (by omega) (fun s hs => by have := mono s hs; have := Lr_bd (T := T) (mv := mv) r s; omega) (n := n) (by omega)
      have q1 : fW_growFrom n a (to : Int) (Lr T mv r to) ((r : Int) * 256 + 256) = some (bZ g', S') := by
        rw [← q1]
        congr 1
        omega
      have hfto : firmB T to = true := Lr_firm (mv := mv) hwf r to (by omega)
      have new : ∀ s : Nat, s < 2 ^ T.2 6 → zA S' 31 (((256 * (r + 1) : Nat) : Int) + (s : Int)) = min (zA a 31 (((256 * (r + 1) : Nat) : Int) + (s : Int))) (stp T mv (Lr T mv r) s to) := by
        intro s hs
        have ms := mono s hs
        have bs := Lr_bd (T := T) (mv := mv) r s
        have hx : s ^^^ to < 2 ^ T.2 6 := Nat.xor_lt_two_pow hs hto
        by_cases ok : okB T mv s to = true
        · have es : stp T mv (Lr T mv r) s to = max 0 (Lr T mv r to - gv T s to) := if_pos ⟨ok, by omega⟩
          obtain ⟨o1, o2, o3, o4, o5⟩ := okB_split ok
          rw [es]
          by_cases e : s = to
          · subst e
            rw [gv_self, q5 s hs (fun z => absurd z.1.1 (by rw [Nat.xor_self]; omega))]
            omega
          · have h1x : 1 ≤ s ^^^ to := by
              have : s ^^^ to ≠ 0 := fun z => e ((xor_eq.mp z.symm).trans (Nat.xor_zero _))
              omega
            exact q4 s hs ⟨h1x, hx, o5, o4⟩ o1 o3
        · have es : stp T mv (Lr T mv r) s to = 1000 := if_neg (fun z => ok z.1)
          rw [es, q5 s hs (fun z => ok (okB_mk z.2.1 hfto z.2.2 z.1.2.2.2 z.1.2.2.1))]
          omega
      have st0 : ∀ s, 0 ≤ stp T mv (Lr T mv r) s to := fun s => stp_0 _ _ _
      have fin : ∀ (v : Int) (gg : Bool), v = bZ gg → gg = (g || g') → ∃ g : Bool, v = bZ g ∧ frR 31 31 S1 S' ∧ (∀ i : Int, 0 ≤ i → i < 256 * ((r : Int) + 1) → zA S' 31 i = zA S1 31 i) ∧ (∀ s : Nat, s < 2 ^ T.2 6 → zA S' 31 (((256 * (r + 1) : Nat) : Int) + (s : Int)) = min (Lr T mv r s) (minTo (fun to => if Lr T mv r to < bef T mv r to then stp T mv (Lr T mv r) s to else 1000) (to + 1))) ∧ (g = true ↔ ∃ s : Nat, s < 2 ^ T.2 6 ∧ zA S' 31 (((256 * (r + 1) : Nat) : Int) + (s : Int)) ≠ Lr T mv r s) := by
        intro v gg hv hg
        refine ⟨gg, hv, frR_trans h2 q2, fun i x y => (q3 i (by omega)).trans (h3 i x y), fun s hs => ?_, ?_⟩
        · rw [new s hs, h4 s hs]
          show _ = min (Lr T mv r s) (min (minTo _ to) (if Lr T mv r to < bef T mv r to then stp T mv (Lr T mv r) s to else 1000))
          rw [if_pos k]
          omega
        · rw [hg, Bool.or_eq_true, h5, q6]
          constructor
          · rintro (⟨s, hs, hz⟩ | ⟨s, hs, hz⟩)
            · refine ⟨s, hs, ?_⟩
              have := new s hs
              have := mono s hs
              omega
            · refine ⟨s, hs, ?_⟩
              have := new s hs
              have := mono s hs
              omega
          · rintro ⟨s, hs, hz⟩
            by_cases y : zA a 31 (((256 * (r + 1) : Nat) : Int) + (s : Int)) = Lr T mv r s
            · exact Or.inr ⟨s, hs, by rw [y]; exact hz⟩
            · exact Or.inl ⟨s, hs, y⟩
      rw [if_pos k, gX_pos (by omega) (by omega) (by omega), q1, Option.bind_some, gC_b]
      cases g' with
      | false =>
        refine ⟨(l4, S'), fin l4 g h1 (by rw [Bool.or_false]), ?_⟩
        rw [if_pos (show bZ false = 0 from rfl)]
      | true =>
        refine ⟨(1, S'), fin 1 true rfl (by rw [Bool.or_true]), ?_⟩
        rw [if_neg (show ¬ bZ true = 0 by decide)]
    · refine ⟨(l4, a), ⟨g, h1, h2, h3, fun s hs => ?_, h5⟩, ?_⟩
      · show zA a 31 _ = min (Lr T mv r s) (min (minTo _ to) (if Lr T mv r to < bef T mv r to then stp T mv (Lr T mv r) s to else 1000))
        rw [if_neg k, h4 s hs]
        have := minTo_1000 (fun to => if Lr T mv r to < bef T mv r to then stp T mv (Lr T mv r) s to else 1000) to
        omega
      · rw [if_neg k]
  · rintro n ⟨l4, a⟩ _ ⟨g, h1, h2, h3, h4, h5⟩
    refine ⟨(l4, a), ?_, g, h1, h2, h3, fun s hs => ?_, h5⟩
    · show fW_growRow_1 (n + 1) a ((2 ^ T.2 6 - 1 : Nat) : Int) ((r : Int) * 256) ((r : Int) * 256 + 256) l4 ((2 ^ T.2 6 : Nat) : Int) = _
      rw [fW_growRow_1, gC_pos (by omega) (by omega) (by omega) (by omega), if_pos (by omega)]
    · rw [h4 s hs, Lr_act]
  · refine ⟨false, rfl, frR_rfl, fun _ _ _ => rfl, fun s hs => ?_, ?_⟩
    · show zA S1 31 _ = min (Lr T mv r s) 1000
      rw [top s hs]
      have := Lr_bd (T := T) (mv := mv) r s
      omega
    · constructor
      · intro h
        cases h
      · rintro ⟨s, hs, h⟩
        exact absurd (top s hs) h
end G2
