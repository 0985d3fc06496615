/-! ===== the class brings ===== -/
def frO (r : Nat) (S S' : ZS) : Prop := (∀ h : Nat, h ≠ r → S'.1 h = S.1 h) ∧ S'.2 = S.2
theorem frO_rfl {r : Nat} {S : ZS} : frO r S S := ⟨fun _ _ => rfl, rfl⟩
theorem frO_trans {r : Nat} {S S1 S2 : ZS} (f : frO r S S1) (g : frO r S1 S2) : frO r S S2 := ⟨fun h a => (g.1 h a).trans (f.1 h a), g.2.trans f.2⟩
theorem frO_wA (S : ZS) (h : Nat) (x v : Int) : frO h S (wA S h x v) := ⟨fun h' a => by show (if h' = h then _ else _) = _; rw [if_neg a], rfl⟩
theorem frO_A {r : Nat} {S S' : ZS} (f : frO r S S') {h : Nat} (a : h ≠ r) (i : Int) : zA S' h i = zA S h i := congrFun (f.1 h a) i
theorem frO_F {r : Nat} {S S' : ZS} (f : frO r S S') (h j : Nat) : zF S' h j = zF S h j := by
  show S'.2.1 h j = S.2.1 h j
  rw [f.2]
theorem frO_fr {r : Nat} {S S' : ZS} (f : frO r S S') {lo hi ob : Nat} (h1 : lo ≤ r) (h2 : r ≤ hi) : fr lo hi ob S S' := ⟨fun h hh => f.1 h (by omega), fun h j _ => by rw [f.2], by rw [f.2]⟩
theorem frL_fr {S S' : ZS} (f : frL S S') : fr 34 42 33 S S' := ⟨fun h hh => f.1 h (by omega) (by omega) (by omega) (by omega), fun h j _ => by rw [f.2], by rw [f.2]⟩
section CSH
variable {A B : Nat} {d m m0 : Nat → Nat → Int} {lf lk : Nat → Int} {S : ZS} {X : Lb} {tau : Nat → Nat}
theorem clb_fr {S' : ZS} (f : frO 42 S S') (h : clb A B S X) : clb A B S' X := by
  refine ⟨fun a ha => ?_, fun b hb => ?_⟩
  · rw [frO_A f (by omega), frO_A f (by omega)]
    exact h.1 a ha
  · rw [frO_A f (by omega), frO_A f (by omega)]
    exact h.2 b hb
theorem clb_root (h : clb A B S X) {a : Nat} (ha : a < A) (hx : X.2 a = -1) : zA S 37 (a : Int) = -1 := by
  rcases (h.1 a ha).2 with z | z
  · exact z.2
  · omega
theorem clb_step (h : clb A B S X) {a b : Nat} (ha : a < A) (hx : X.2 a = ((9 + b : Nat) : Int)) : zA S 37 (a : Int) = (b : Int) := by
  rcases (h.1 a ha).2 with z | z
  · omega
  · rw [z.2, hx]
    omega
theorem sc_bring1 (hA : A ≤ 9) (hB : B ≤ 8) (st : cS A B d m S) (lb : clb A B S X) (mb : ∀ i j, i < A → j < B → 0 ≤ m i j ∧ m i j ≤ 100000) (l1 : Int) : ∀ (k a r i n : Nat) (q : Int), CH A B d m lf X tau 1 k a r → 1 ≤ q → q ≤ 100000 → i + k ≤ 8 → k < n → ∃ q', fC_bring_1 n S l1 q (a : Int) (i : Int) = some (q', (r : Int)) ∧ 1 ≤ q' ∧ q' ≤ q ∧ CH A B d m lf X tau q' k a r := by
  intro k
  induction k with
  | zero =>
    intro a r i n q c h1 h2 h3 h4
    obtain ⟨n, rfl⟩ : ∃ k, n = k + 1 := ⟨n - 1, by omega⟩
    obtain ⟨rfl, c1, c2, c3, c4⟩ := c
    refine ⟨q, ?_, h1, Int.le_refl _, rfl, c1, c2, c3, c4⟩
    rw [fC_bring_1, gC_pos (by omega) (by omega) (by omega) (by omega), if_pos (by omega), gX_pos (by omega) (by omega) (by omega), clb_root lb c1 c2, gC_pos (x := -1) (y := 0) (by omega) (by omega) (by omega) (by omega), if_pos (show (-1 : Int) < 0 by decide)]
  | succ k ih =>
    intro a r i n q c h1 h2 h3 h4
    obtain ⟨n, rfl⟩ : ∃ k, n = k + 1 := ⟨n - 1, by omega⟩
    obtain ⟨b, a', c1, c2, c3, c4, c5, c6, c7, c8, c9⟩ := c
    have mm := mb a b c1 c2
    obtain ⟨q', e1, e2, e3, e4⟩ := ih a' r (i + 1) n (min q (m a b)) c9 (by omega) (by omega) (by omega) (by omega)
    refine ⟨q', ?_, e2, (by omega), b, a', c1, c2, c3, c4, c5, (by omega), c7, c8, e4⟩
    rw [fC_bring_1, gC_pos (by omega) (by omega) (by omega) (by omega), if_pos (by omega), gX_pos (by omega) (by omega) (by omega), clb_step lb c1 c4, gC_pos (x := (b : Int)) (y := 0) (by omega) (by omega) (by omega) (by omega), if_neg (by omega), gX_pos (by omega) (by omega) (by omega), gX_pos (x := (a : Int) * 8 + (b : Int)) (by omega) (by omega) (by omega), st.2.2.2 a b c1 c2, gC_pos (x := q) (y := m a b) (by omega) (by omega) (by omega) (by omega), gX_pos (x := (b : Int)) (by omega) (by omega) (by omega), (lb.2 b c2).2, c5]
    exact e1
theorem sc_ship1 (hA : A ≤ 9) (hB : B ≤ 8) {q : Int} (q0 : 1 ≤ q) (l1 : Int) : ∀ (k a r i n : Nat) (S : ZS) (m : Nat → Nat → Int), CH A B d m0 lf X tau q k a r → i + k ≤ 8 → k < n → clb A B S X → cS A B d m S → nng A B m → tgt A B d X m → (∀ i j, i < A → j < B → tau i ≤ tau a → m0 i j ≤ m i j) → ∃ S' m', fC_ship_1 n S l1 q (a : Int) (i : Int) = some ((r : Int), S') ∧ SHP A B d X m m' a r q ∧ frO 42 S S' ∧ cS A B d m' S' := by
  intro k
  induction k with
  | zero =>
    intro a r i n S m c h3 h4 lb st nn' tt' mo
    obtain ⟨n, rfl⟩ : ∃ k, n = k + 1 := ⟨n - 1, by omega⟩
    obtain ⟨rfl, c1, c2, c3, c4⟩ := c
    refine ⟨S, m, ?_, SHP_rfl nn' tt', frO_rfl, st⟩
    rw [fC_ship_1, gC_pos (by omega) (by omega) (by omega) (by omega), if_pos (by omega), gX_pos (by omega) (by omega) (by omega), clb_root lb c1 c2, gC_pos (x := -1) (y := 0) (by omega) (by omega) (by omega) (by omega), if_pos (show (-1 : Int) < 0 by decide)]
  | succ k ih =>
    intro a r i n S m c h3 h4 lb st nn' tt' mo
    obtain ⟨n, rfl⟩ : ∃ k, n = k + 1 := ⟨n - 1, by omega⟩
    obtain ⟨b, a', c1, c2, c3, c4, c5, c6, c7, c8, c9⟩ := c
    have ne : a' ≠ a := fun e => by rw [e] at c7; omega
    have mq := mo a b c1 c2 (Nat.le_refl _)
    obtain ⟨s1, s2, s3⟩ := SHP_step (m' := m) (r := r) c1 c2 c3 ne (show 0 ≤ q by omega) (show q ≤ m a b by omega) nn' tt' c8
    have e37 := clb_step lb c1 c4
    have e41 : zA S 41 (b : Int) = (a' : Int) := (lb.2 b c2).2.trans c5
    have ea := st.2.2.2 a b c1 c2
    have ea' : zA (wA S 42 ((a : Int) * 8 + (b : Int)) (m a b - q)) 42 ((a' : Int) * 8 + (b : Int)) = m a' b := by
      rw [zA_wA, if_pos rfl, if_neg (by omega)]
      exact st.2.2.2 a' b c3 c2
    have f1 : frO 42 S (wA (wA S 42 ((a : Int) * 8 + (b : Int)) (m a b - q)) 42 ((a' : Int) * 8 + (b : Int)) (m a' b + q)) := frO_trans (frO_wA _ _ _ _) (frO_wA _ _ _ _)
    have st1 : cS A B d (g2 (g2 m a b (m a b - q)) a' b (m a' b + q)) (wA (wA S 42 ((a : Int) * 8 + (b : Int)) (m a b - q)) 42 ((a' : Int) * 8 + (b : Int)) (m a' b + q)) := by
      refine ⟨st.1, st.2.1, fun i j hi hj => ?_, fun i j hi hj => ?_⟩
      · rw [frO_A f1 (by omega), frO_A f1 (by omega)]
        exact st.2.2.1 i j hi hj
      · rw [zA_wA, if_pos rfl, zA_wA, if_pos rfl]
        show _ = (if i = a' ∧ j = b then m a' b + q else if i = a ∧ j = b then m a b - q else m i j)
        by_cases k1 : i = a' ∧ j = b
        · rw [if_pos (by omega), if_pos k1]
        · rw [if_neg (by omega), if_neg k1]
          by_cases k2 : i = a ∧ j = b
          · rw [if_pos (by omega), if_pos k2]
          · rw [if_neg (by omega), if_neg k2]
            exact st.2.2.2 i j hi hj
    obtain ⟨S', m', g1, g2', g3, g4⟩ := ih a' r (i + 1) n _ _ c9 (by omega) (by omega) (clb_fr f1 lb) st1 s1 s2 (fun i' j' hi hj ht => by
      have := mo i' j' hi hj (by omega)
      show _ ≤ (if i' = a' ∧ j' = b then m a' b + q else if i' = a ∧ j' = b then m a b - q else m i' j')
      by_cases k1 : i' = a' ∧ j' = b
      · rw [if_pos k1, ← k1.1, ← k1.2]
        omega
      · rw [if_neg k1, if_neg (fun z => by rw [z.1] at ht; omega)]
        exact this)
    refine ⟨S', m', ?_, (SHP_step (m' := m') (r := r) c1 c2 c3 ne (show 0 ≤ q by omega) (show q ≤ m a b by omega) nn' tt' c8).2.2 g2', frO_trans f1 g3, g4⟩
    rw [fC_ship_1, gC_pos (by omega) (by omega) (by omega) (by omega), if_pos (by omega), gX_pos (by omega) (by omega) (by omega), e37, gC_pos (x := (b : Int)) (y := 0) (by omega) (by omega) (by omega) (by omega), if_neg (by omega), gX_pos (by omega) (by omega) (by omega), gX_pos (x := (a : Int) * 8 + (b : Int)) (by omega) (by omega) (by omega), gX_pos (x := (a : Int) * 8 + (b : Int)) (by omega) (by omega) (by omega), gX_pos (x := (b : Int)) (by omega) (by omega) (by omega), e41, gX_pos (x := (a' : Int) * 8 + (b : Int)) (by omega) (by omega) (by omega), gX_pos (x := (a' : Int) * 8 + (b : Int)) (by omega) (by omega) (by omega), ea, ea']
    exact g1
theorem FL_bd {Lp W : Nat → Int} {sum : Int} (F : FL A B d Lp W m lf lk sum) (hL : ∀ i, i < A → Lp i ≤ 100000) (hW : ∀ j, j < B → W j ≤ 100000) : (∀ i j, i < A → j < B → 0 ≤ m i j ∧ m i j ≤ 100000) ∧ (∀ i, i < A → 0 ≤ lf i ∧ lf i ≤ 100000) ∧ ∀ j, j < B → 0 ≤ lk j ∧ lk j ≤ 100000 := by
  obtain ⟨F1, F2, F3, F4⟩ := F
  refine ⟨fun i j hi hj => ⟨F1 i j hi hj, ?_⟩, fun i hi => ⟨(F2 i hi).1, ?_⟩, fun j hj => ⟨(F3 j hj).1, ?_⟩⟩
  · have h1 := F2 i hi
    have h2 := hL i hi
    have h3 := sumTo_ge (f := fun j => m i j) (k := B) (fun j hj => F1 i j hi hj) hj
    unfold rwS at h1
    omega
  · have h1 := F2 i hi
    have h2 := hL i hi
    have h3 := sumTo_nn (f := fun j => m i j) (k := B) (fun j hj => F1 i j hi hj)
    unfold rwS at h1
    omega
  · have h1 := F3 j hj
    have h2 := hW j hj
    have h3 := sumTo_nn (f := fun i => m i j) (k := A) (fun i hi => F1 i j hi hj)
    unfold clS at h1
    omega
theorem sc_bring {Lp W : Nat → Int} {sum : Int} {ok : Nat → Bool} (hA : A ≤ 9) (hB : B ≤ 8) (F : FL A B d Lp W m lf lk sum) (hL : ∀ i, i < A → Lp i ≤ 100000) (hW : ∀ j, j < B → W j ≤ 100000) (w : WY A B ok d m lf X tau) (D : DU A B d m lf (fun i => X.1 i) (fun j => X.1 (9 + j))) (st : cS A B d m S) (lb : clb A B S X) (lf' : cLf A B lf lk S) {s : Nat} (hs : s < B) (ks : 0 < lk s) (xs : X.1 (9 + s) < 1000000) {n : Nat} (hn : 100 ≤ n) : ∃ q S' m' lf2 lk2, fC_bring n S (s : Int) = some (q, S') ∧ 1 ≤ q ∧ FL A B d Lp W m' lf2 lk2 (sum + X.1 (9 + s) * q) ∧ DU A B d m' lf2 (fun i => X.1 i) (fun j => X.1 (9 + j)) ∧ cS A B d m' S' ∧ cLf A B lf2 lk2 S' ∧ zF S' 33 11 = zF S 33 11 - q ∧ sumTo lk2 B = sumTo lk B - q ∧ fr 34 42 33 S S' := by
  obtain ⟨mb, lb1, lb2⟩ := FL_bd F hL hW
  obtain ⟨a, a1, a2, a3, a4, a5, a6⟩ := w.2.2 s hs xs
  obtain ⟨k, r, k1, k2⟩ := CH_ex w (tau a) a (Nat.le_refl _) a1 a4
  have k8 : k ≤ 8 := by
    have := ctn_less (f := fun w => decide (tau w < tau a)) (k := A) a1 (decide_eq_false (by omega))
    omega
  have ks2 := lb2 s hs
  obtain ⟨q1, b1, b2, b3, b4⟩ := sc_bring1 hA hB st lb mb (s : Int) k a r 0 n (lk s) k2 (by omega) (by omega) (by omega) (by omega)
  rw [show ((0 : Nat) : Int) = 0 from rfl] at b1
  obtain ⟨r1, r2, r3, r4, -⟩ := CH_end k2
  have lr := lb1 r r1
  obtain ⟨q, hq⟩ : ∃ q, min q1 (lf r) = q := ⟨_, rfl⟩
  have ch := CH_mono (show q ≤ q1 by omega) b4
  have e41 : zA S 41 (s : Int) = (a : Int) := (lb.2 s hs).2.trans a3
  have f1 : frO 42 S (wA S 42 ((a : Int) * 8 + (s : Int)) (m a s + q)) := frO_wA _ _ _ _
  have ms := mb a s a1 hs
  have st1 : cS A B d (g2 m a s (m a s + q)) (wA S 42 ((a : Int) * 8 + (s : Int)) (m a s + q)) := by
    refine ⟨st.1, st.2.1, fun i j hi hj => ?_, fun i j hi hj => ?_⟩
    · rw [frO_A f1 (by omega), frO_A f1 (by omega)]
      exact st.2.2.1 i j hi hj
    · rw [zA_wA, if_pos rfl]
      show _ = (if i = a ∧ j = s then m a s + q else m i j)
      by_cases k1 : i = a ∧ j = s
      · rw [if_pos (by omega), if_pos k1]
      · rw [if_neg (by omega), if_neg k1]
        exact st.2.2.2 i j hi hj
  have n1 : nng A B (g2 m a s (m a s + q)) := fun i j hi hj => by
    have := mb i j hi hj
    show 0 ≤ (if i = a ∧ j = s then m a s + q else m i j)
    split <;> omega
  have t1 : tgt A B d X (g2 m a s (m a s + q)) := fun i j hi hj hm => by
    have hm : 0 < (if i = a ∧ j = s then m a s + q else m i j) := hm
    by_cases k1 : i = a ∧ j = s
    · rw [k1.1, k1.2]; exact a5
    · rw [if_neg k1] at hm
      exact (D.2.2 i j hi hj).2 hm
  obtain ⟨S2, m', g1, g2', g3, g4⟩ := sc_ship1 hA hB (show 1 ≤ q by omega) (s : Int) k a r 0 n _ _ ch (by omega) (by omega) (clb_fr f1 lb) st1 n1 t1 (fun i j hi hj _ => by
    show _ ≤ (if i = a ∧ j = s then m a s + q else m i j)
    by_cases k1 : i = a ∧ j = s
    · rw [if_pos k1, k1.1, k1.2]; omega
    · rw [if_neg k1]; exact Int.le_refl _)
  rw [show ((0 : Nat) : Int) = 0 from rfl] at g1
  obtain ⟨F', D'⟩ := aug F D a1 hs r1 r3 (show 0 ≤ q by omega) (show q ≤ lf r by omega) (show q ≤ lk s by omega) g2'
  have f2 := frO_trans f1 g3
  have e35 : zA S2 35 (r : Int) = lf r := (frO_A f2 (by omega) _).trans (lf'.1 r r1)
  have e39 : zA S2 39 (s : Int) = lk s := (frO_A f2 (by omega) _).trans (lf'.2 s hs)
  have e11 : zF S2 33 11 = zF S 33 11 := frO_F f2 _ _
  refine ⟨q, wF (wA (wA S2 35 (r : Int) (lf r - q)) 39 (s : Int) (lk s - q)) 33 11 (zF S 33 11 - q), m', gUp lf r (lf r - q), gUp lk s (lk s - q), ?_, (by omega), F', D', ?_, ?_, rfl, ?_, ?_⟩
  · unfold fC_bring
    rw [gX_pos (by omega) (by omega) (by omega), gX_pos (by omega) (by omega) (by omega), lf'.2 s hs, e41, b1, Option.bind_some]
    dsimp only
    rw [gX_pos (x := (r : Int)) (by omega) (by omega) (by omega), lf'.1 r r1, gC_pos (x := q1) (y := lf r) (by omega) (by omega) (by omega) (by omega), hq]
    unfold fC_ship
    rw [gX_pos (by omega) (by omega) (by omega), e41, gX_pos (x := (a : Int) * 8 + (s : Int)) (by omega) (by omega) (by omega), gX_pos (x := (a : Int) * 8 + (s : Int)) (by omega) (by omega) (by omega), st.2.2.2 a s a1 hs, g1, Option.bind_some]
    dsimp only
    rw [gX_pos (x := (r : Int)) (by omega) (by omega) (by omega), gX_pos (x := (r : Int)) (by omega) (by omega) (by omega), gX_pos (x := (s : Int)) (by omega) (by omega) (by omega), gX_pos (x := (s : Int)) (by omega) (by omega) (by omega), e35, e39, e11, Option.bind_some]
  · refine ⟨g4.1, g4.2.1, fun i j hi hj => ?_, fun i j hi hj => ?_⟩
    · rw [zA_wF, zA_wA, if_neg (by omega), zA_wA, if_neg (by omega), zA_wF, zA_wA, if_neg (by omega), zA_wA, if_neg (by omega)]
      exact g4.2.2.1 i j hi hj
    · rw [zA_wF, zA_wA, if_neg (by omega), zA_wA, if_neg (by omega)]
      exact g4.2.2.2 i j hi hj
  · refine ⟨fun i hi => ?_, fun j hj => ?_⟩
    · rw [zA_wF, zA_2a _ (by omega)]
      by_cases c : i = r
      · rw [if_pos (by omega), c, gUp_s]
      · rw [if_neg (by omega), gUp_o _ _ c]
        exact (frO_A f2 (by omega) _).trans (lf'.1 i hi)
    · rw [zA_wF, zA_2b _ (by omega)]
      by_cases c : j = s
      · rw [if_pos (by omega), c, gUp_s]
      · rw [if_neg (by omega), gUp_o _ _ c]
        exact (frO_A f2 (by omega) _).trans (lf'.2 j hj)
  · rw [sumTo_up _ _ hs]
    omega
  · exact fr_trans (frO_fr f2 (by omega) (by omega)) (fr_trans (fr_trans (fr_wA _ _ _ (by omega) (by omega)) (fr_wA _ _ _ (by omega) (by omega))) (fr_wF _ 11 _))
end CSH
