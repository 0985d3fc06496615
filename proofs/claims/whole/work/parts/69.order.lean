/-! ===== builders: the order ===== -/
/-- room made for v among the first j -/
def insr (Y : Int → Int) (v : Int) : Nat → (Int → Int) → Nat × (Int → Int)
  | 0, f => (0, f)
  | j + 1, f => if Y v < Y (f (j : Int)) then insr Y v j (zu f ((j + 1 : Nat) : Int) (f (j : Int))) else (j + 1, f)
theorem insr_le (Y : Int → Int) (v : Int) : ∀ (j : Nat) (f : Int → Int), (insr Y v j f).1 ≤ j := by
  intro j
  induction j with
  | zero => intro f; exact Nat.le_refl _
  | succ j ih =>
    intro f
    unfold insr
    split
    · exact Nat.le_trans (ih _) (by omega)
    · exact Nat.le_refl _
theorem insr_cg {Y Y' : Int → Int} {v : Int} {K : Nat} (hY : ∀ p : Int, 0 ≤ p → p < (K : Int) → Y p = Y' p) (hv : 0 ≤ v ∧ v < (K : Int)) : ∀ (j : Nat) (f g : Int → Int), (∀ i : Nat, i < j → f (i : Int) = g (i : Int) ∧ 0 ≤ g (i : Int) ∧ g (i : Int) < (K : Int)) → (insr Y v j f).1 = (insr Y' v j g).1 ∧ (∀ i : Nat, i ≤ j → i ≠ (insr Y' v j g).1 → (insr Y v j f).2 (i : Int) = (insr Y' v j g).2 (i : Int) ∧ 0 ≤ (insr Y' v j g).2 (i : Int) ∧ (insr Y' v j g).2 (i : Int) < (K : Int)) ∧ (∀ i : Nat, j < i → (insr Y v j f).2 (i : Int) = f (i : Int) ∧ (insr Y' v j g).2 (i : Int) = g (i : Int)) := by
  intro j
  induction j with
  | zero =>
    intro f g h
    refine ⟨rfl, fun i hi hne => ?_, fun i hi => ⟨rfl, rfl⟩⟩
    have : i = 0 := by omega
    exact absurd this hne
  | succ j ih =>
    intro f g h
    have hj := h j (by omega)
    unfold insr
    rw [hj.1, hY v hv.1 hv.2, hY (g (j : Int)) hj.2.1 hj.2.2]
    by_cases c : Y' v < Y' (g (j : Int))
    · rw [if_pos c, if_pos c]
      obtain ⟨h1, h2, h3⟩ := ih (zu f ((j + 1 : Nat) : Int) (g (j : Int))) (zu g ((j + 1 : Nat) : Int) (g (j : Int))) (fun i hi => by
        unfold zu
        rw [if_neg (by omega), if_neg (by omega)]
        exact h i (by omega))
      refine ⟨h1, fun i hi hne => ?_, fun i hi => ?_⟩
      · by_cases e : i ≤ j
        · exact h2 i e hne
        · have e : i = j + 1 := by omega
          subst e
          obtain ⟨a, b⟩ := h3 (j + 1) (by omega)
          rw [a, b]
          unfold zu
          rw [if_pos rfl, if_pos rfl]
          exact ⟨rfl, hj.2⟩
      · obtain ⟨a, b⟩ := h3 i (by omega)
        rw [a, b]
        unfold zu
        rw [if_neg (by omega), if_neg (by omega)]
        exact ⟨rfl, rfl⟩
    · rw [if_neg c, if_neg c]
      refine ⟨rfl, fun i hi hne => h i (by have : i ≠ j + 1 := hne; omega), fun i hi => ⟨rfl, rfl⟩⟩
/-- both orders alike, of the first k -/
def odEq (f g : Int → Int) (K k : Nat) : Prop := ∀ i : Nat, i < k → f (i : Int) = g (i : Int) ∧ 0 ≤ g (i : Int) ∧ g (i : Int) < (K : Int)
theorem ins_step {Y Y' : Int → Int} {K k : Nat} (hk : k < K) (hY : ∀ p : Int, 0 ≤ p → p < (K : Int) → Y p = Y' p) {f g : Int → Int} (h : odEq f g K k) : (insr Y (k : Int) k f).1 = (insr Y' (k : Int) k g).1 ∧ odEq (zu (insr Y (k : Int) k f).2 (((insr Y (k : Int) k f).1 : Nat) : Int) (k : Int)) (zu (insr Y' (k : Int) k g).2 (((insr Y' (k : Int) k g).1 : Nat) : Int) (k : Int)) K (k + 1) ∧ ∀ i : Nat, k < i → (zu (insr Y (k : Int) k f).2 (((insr Y (k : Int) k f).1 : Nat) : Int) (k : Int)) (i : Int) = f (i : Int) := by
  obtain ⟨h1, h2, h3⟩ := insr_cg (K := K) hY (v := (k : Int)) ⟨(by omega), (by omega)⟩ k f g h
  have hle := insr_le Y' (k : Int) k g
  refine ⟨h1, fun i hi => ?_, fun i hi => ?_⟩
  · unfold zu
    rw [h1]
    by_cases c : (i : Int) = (((insr Y' (k : Int) k g).1 : Nat) : Int)
    · rw [if_pos c, if_pos c]
      exact ⟨rfl, (by omega), (by omega)⟩
    · rw [if_neg c, if_neg c]
      exact h2 i (by omega) (by omega)
  · unfold zu
    rw [h1, if_neg (by omega)]
    exact (h3 i hi).1
section OR
variable {S : ZS} {T : TW}
theorem sp_ins (ht : tAt S 1 T) (w : wfR T) {v : Nat} (hv : v < T.2 6) (l2 : Int) : ∀ (j n : Nat) (f : Int → Int), j < T.2 6 → j < n → (∀ i : Nat, i < j → 0 ≤ f (i : Int) ∧ f (i : Int) < (T.2 6 : Int)) → fB_sortByYards_2 n (wR S 44 f) l2 (v : Int) (j : Int) = some ((((insr (fun p => zA S 3 p) (v : Int) j f).1 : Nat) : Int), wR S 44 (insr (fun p => zA S 3 p) (v : Int) j f).2) := by
  have w6 := w.1
  intro j
  induction j with
  | zero =>
    intro n f hj hn hf
    obtain ⟨k, rfl⟩ : ∃ k, n = k + 1 := ⟨n - 1, by omega⟩
    rw [fB_sortByYards_2, gC_pos (by omega) (by omega) (by omega) (by omega), if_neg (by omega)]
    rfl
  | succ j ih =>
    intro n f hj hn hf
    obtain ⟨k, rfl⟩ : ∃ k, n = k + 1 := ⟨n - 1, by omega⟩
    have hfj := hf j (by omega)
    obtain ⟨q, hq⟩ : ∃ q : Nat, f (j : Int) = (q : Int) := ⟨(f (j : Int)).toNat, by omega⟩
    have e1 : ((j + 1 : Nat) : Int) - 1 = (j : Int) := by omega
    have r44 : ∀ y, zA (wR S 44 f) 44 y = f y := fun y => rfl
    have r3 : ∀ y, zA (wR S 44 f) 3 y = zA S 3 y := fun y => rfl
    have yq := ht.2.1 2 q (by omega) (by omega) (by omega)
    have yv := ht.2.1 2 v (by omega) (by omega) hv
    have b1 := w.2.2.1 q (by omega)
    have b2 := w.2.2.1 v hv
    rw [show 1 + 2 = 3 from rfl] at yq yv
    rw [fB_sortByYards_2, gC_pos (by omega) (by omega) (by omega) (by omega), if_pos (by omega), e1, gX_pos (by omega) (by omega) (by omega), r44, r3, r3, hq, gX_pos (by omega) (by omega) (by omega), gX_pos (by omega) (by omega) (by omega), gC_pos (by omega) (by omega) (by omega) (by omega)]
    unfold insr
    rw [hq]
    by_cases c : zA S 3 (v : Int) < zA S 3 (q : Int)
    · rw [if_pos c, if_pos c, gX_pos (by omega) (by omega) (by omega), gX_pos (by omega) (by omega) (by omega), wA_wR, show ((j + 1 : Nat) : Int) + -1 = (j : Int) by omega]
      exact ih k _ (by omega) (by omega) (fun i hi => by
        unfold zu
        rw [if_neg (by omega)]
        exact hf i (by omega))
    · rw [if_neg c, if_neg c]
theorem sm_ins (hm : mAt S T) (w : wfR T) {b : Int} (hb : 0 ≤ b) (hb2 : b < 2) {v : Nat} (hv : v < T.2 6) : ∀ (j n : Nat) (f : Int → Int), j < T.2 6 → j < n → (∀ i : Nat, i < j → 0 ≤ f (i : Int) ∧ f (i : Int) < (T.2 6 : Int)) → fM_findOrder_2 n (wR S 66 f) b (v : Int) (j : Int) = some ((((insr (fun p => zA S 50 (5 * p + 1)) (v : Int) j f).1 : Nat) : Int), wR S 66 (insr (fun p => zA S 50 (5 * p + 1)) (v : Int) j f).2) := by
  have w6 := w.1
  intro j
  induction j with
  | zero =>
    intro n f hj hn hf
    obtain ⟨k, rfl⟩ : ∃ k, n = k + 1 := ⟨n - 1, by omega⟩
    rw [fM_findOrder_2, gC_pos (by omega) (by omega) (by omega) (by omega), if_pos (by omega), gC_pos (by omega) (by omega) (by omega) (by omega), if_neg (by omega)]
    rfl
  | succ j ih =>
    intro n f hj hn hf
    obtain ⟨k, rfl⟩ : ∃ k, n = k + 1 := ⟨n - 1, by omega⟩
    have hfj := hf j (by omega)
    obtain ⟨q, hq⟩ : ∃ q : Nat, f (j : Int) = (q : Int) := ⟨(f (j : Int)).toNat, by omega⟩
    have e1 : ((j + 1 : Nat) : Int) - 1 = (j : Int) := by omega
    have r66 : ∀ y, zA (wR S 66 f) 66 y = f y := fun y => rfl
    have r50 : ∀ y, zA (wR S 66 f) 50 y = zA S 50 y := fun y => rfl
    have yq := hm.2.1 1 q (by omega) (by omega)
    have yv := hm.2.1 1 v (by omega) hv
    have b1 := w.2.2.1 q (by omega)
    have b2 := w.2.2.1 v hv
    have yq : zA S 50 (5 * (q : Int) + 1) = (T.1 2 q : Int) := yq
    have yv : zA S 50 (5 * (v : Int) + 1) = (T.1 2 v : Int) := yv
    rw [fM_findOrder_2, gC_pos (x := b) (y := 2) (by omega) (by omega) (by omega) (by omega), if_pos hb2, gC_pos (by omega) (by omega) (by omega) (by omega), if_pos (by omega), e1, gX_pos (by omega) (by omega) (by omega), r66, r50, r50, hq, gX_pos (by omega) (by omega) (by omega), gX_pos (by omega) (by omega) (by omega), gC_pos (by omega) (by omega) (by omega) (by omega)]
    unfold insr
    rw [hq]
    by_cases c : zA S 50 (5 * (v : Int) + 1) < zA S 50 (5 * (q : Int) + 1)
    · rw [if_pos c, if_pos c, gX_pos (by omega) (by omega) (by omega), gX_pos (by omega) (by omega) (by omega), wA_wR, show ((j + 1 : Nat) : Int) + -1 = (j : Int) by omega]
      exact ih k _ (by omega) (by omega) (fun i hi => by
        unfold zu
        rw [if_neg (by omega)]
        exact hf i (by omega))
    · rw [if_neg c, if_neg c]
/-- the order by yards: the class's and the reference's row behind k parts -/
def srt (Y : Int → Int) (f : Int → Int) : Nat → Int → Int
  | 0 => f
  | k + 1 => zu (insr Y (k : Int) k (srt Y f k)).2 (((insr Y (k : Int) k (srt Y f k)).1 : Nat) : Int) (k : Int)
theorem srt_eq {Y Y' : Int → Int} {K : Nat} (hY : ∀ p : Int, 0 ≤ p → p < (K : Int) → Y p = Y' p) (f g : Int → Int) : ∀ k, k ≤ K → odEq (srt Y f k) (srt Y' g k) K k ∧ ∀ i : Nat, k ≤ i → srt Y f k (i : Int) = f (i : Int) := by
  intro k
  induction k with
  | zero => intro _; exact ⟨fun i hi => absurd hi (by omega), fun i _ => rfl⟩
  | succ k ih =>
    intro hk
    obtain ⟨h1, h2⟩ := ih (by omega)
    obtain ⟨h3, h4, h5⟩ := ins_step (k := k) (by omega) hY h1
    exact ⟨h4, fun i hi => (h5 i (by omega)).trans (h2 i (by omega))⟩
/-- the first k numbers -/
def idn (f : Int → Int) (k : Nat) : Int → Int := fun y => if 0 ≤ y ∧ y < (k : Int) then y else f y
theorem idn_s (f : Int → Int) (p : Nat) : zu (idn f p) (p : Int) (p : Int) = idn f (p + 1) := by
  funext y
  unfold zu idn
  by_cases c : y = (p : Int)
  · rw [if_pos c, if_pos (by omega), c]
  · rw [if_neg c]
    by_cases d : 0 ≤ y ∧ y < (p : Int)
    · rw [if_pos d, if_pos (by omega)]
    · rw [if_neg d, if_neg (by omega)]
theorem sp_line1 (ht : tAt S 1 T) (w : wfR T) (l2 : Int) {n : Nat} (hn : 20 ≤ n) : fB_lineUp_1 n S l2 0 = some (wR S 44 (idn (S.1 44) (T.2 6))) := by
  have w6 := w.1
  refine loop_row (F := fun n a p => fB_lineUp_1 n a l2 p) S 44 (T.2 6) (fun p => idn (S.1 44) p) (fun p => (p : Int)) (fun p => (p : Int)) ?_ (fun p _ => idn_s _ p) ?_ ?_ (by omega)
  · funext y
    unfold idn
    rw [if_neg (by omega)]
  · intro n p hp
    show fB_lineUp_1 (n + 1) (wR S 44 (idn (S.1 44) p)) l2 (p : Int) = _
    have e6 : zF (wR S 44 (idn (S.1 44) p)) 1 6 = (T.2 6 : Int) := ht.1 6 (by omega) (by omega)
    rw [fB_lineUp_1, e6, gC_pos (by omega) (by omega) (by omega) (by omega), if_pos (by omega), gX_pos (by omega) (by omega) (by omega)]
  · intro n
    show fB_lineUp_1 (n + 1) (wR S 44 (idn (S.1 44) (T.2 6))) l2 (T.2 6 : Int) = _
    have e6 : zF (wR S 44 (idn (S.1 44) (T.2 6))) 1 6 = (T.2 6 : Int) := ht.1 6 (by omega) (by omega)
    rw [fB_lineUp_1, e6, gC_pos (by omega) (by omega) (by omega) (by omega), if_neg (by omega)]
theorem srt_0 (Y : Int → Int) (f : Int → Int) (h : f 0 = 0) : srt Y f 1 = f := by
  funext y
  show zu f 0 0 y = f y
  unfold zu
  by_cases c : y = 0
  · rw [if_pos c, c, h]
  · rw [if_neg c]
theorem sp_sort (ht : tAt S 1 T) (w : wfR T) {f : Int → Int} (hf : ∀ i : Nat, i < T.2 6 → f (i : Int) = (i : Int)) {n : Nat} (hn : 40 ≤ n) : fB_sortByYards n (wR S 44 f) = some (wR S 44 (srt (fun p => zA S 3 p) f (T.2 6))) := by
  have w6 := w.1
  unfold fB_sortByYards
  have hsq := srt_eq (K := T.2 6) (Y := fun p => zA S 3 p) (Y' := fun p => zA S 3 p) (fun _ _ _ => rfl) f f
  have key : ∀ (j p n : Nat), p + j = T.2 6 → 1 ≤ p → j + 10 < n → fB_sortByYards_1 n (wR S 44 (srt (fun p => zA S 3 p) f p)) (p : Int) = some (wR S 44 (srt (fun p => zA S 3 p) f (T.2 6))) := by
    intro j
    induction j with
    | zero =>
      intro p n hp h1 hn
      obtain ⟨k, rfl⟩ : ∃ k, n = k + 1 := ⟨n - 1, by omega⟩
      have : p = T.2 6 := by omega
      subst this
      have e6 : zF (wR S 44 (srt (fun p => zA S 3 p) f (T.2 6))) 1 6 = (T.2 6 : Int) := ht.1 6 (by omega) (by omega)
      rw [fB_sortByYards_1, e6, gC_pos (by omega) (by omega) (by omega) (by omega), if_neg (by omega)]
    | succ j ih =>
      intro p n hp h1 hn
      obtain ⟨k, rfl⟩ : ∃ k, n = k + 1 := ⟨n - 1, by omega⟩
      have e6 : zF (wR S 44 (srt (fun p => zA S 3 p) f p)) 1 6 = (T.2 6 : Int) := ht.1 6 (by omega) (by omega)
      have e44 : zA (wR S 44 (srt (fun p => zA S 3 p) f p)) 44 (p : Int) = (p : Int) := ((hsq p (by omega)).2 p (by omega)).trans (hf p (by omega))
      have hle := insr_le (fun p => zA S 3 p) (p : Int) p (srt (fun p => zA S 3 p) f p)
      rw [fB_sortByYards_1, e6, gC_pos (by omega) (by omega) (by omega) (by omega), if_pos (by omega), gX_pos (by omega) (by omega) (by omega), e44, sp_ins ht w (v := p) (by omega) _ p k _ (by omega) (by omega) (fun i hi => ((hsq p (by omega)).1 i hi).2), Option.bind_some]
      simp only []
      rw [gX_pos (by omega) (by omega) (by omega), wA_wR]
      exact ih (p + 1) k (by omega) (by omega) (by omega)
  by_cases h0 : T.2 6 = 0
  · obtain ⟨k, rfl⟩ : ∃ k, n = k + 1 := ⟨n - 1, by omega⟩
    have e6 : zF (wR S 44 f) 1 6 = (T.2 6 : Int) := ht.1 6 (by omega) (by omega)
    rw [fB_sortByYards_1, e6, gC_pos (by omega) (by omega) (by omega) (by omega), if_neg (by omega), Option.bind_some, h0]
    rfl
  · have e := key (T.2 6 - 1) 1 n (by omega) (by omega) (by omega)
    rw [srt_0 _ f (hf 0 (by omega))] at e
    rw [show (1 : Int) = ((1 : Nat) : Int) from rfl, e]
    rfl
theorem sm_sort (hm : mAt S T) (w : wfR T) {b : Int} (hb : 0 ≤ b) (hb2 : b < 2) {n : Nat} (hn : 40 ≤ n) : fM_findOrder_1 n S b 0 = some (wR S 66 (srt (fun p => zA S 50 (5 * p + 1)) (S.1 66) (T.2 6))) := by
  have w6 := w.1
  have hsq := srt_eq (K := T.2 6) (Y := fun p => zA S 50 (5 * p + 1)) (Y' := fun p => zA S 50 (5 * p + 1)) (fun _ _ _ => rfl) (S.1 66) (S.1 66)
  have e := loop_for (F := fun n a p => fM_findOrder_1 n a b p) (fun p => wR S 66 (srt (fun p => zA S 50 (5 * p + 1)) (S.1 66) p)) (T.2 6) 12 (res := some (wR S 66 (srt (fun p => zA S 50 (5 * p + 1)) (S.1 66) (T.2 6)))) ?_ ?_ n (by omega)
  · have e : fM_findOrder_1 n (wR S 66 (S.1 66)) b 0 = _ := e
    rw [wR_self] at e
    exact e
  · intro n p hp hn
    show fM_findOrder_1 (n + 1) (wR S 66 (srt (fun p => zA S 50 (5 * p + 1)) (S.1 66) p)) b (p : Int) = _
    have e6 : zF (wR S 66 (srt (fun p => zA S 50 (5 * p + 1)) (S.1 66) p)) 49 1 = (T.2 6 : Int) := hm.1.1
    have hle := insr_le (fun p => zA S 50 (5 * p + 1)) (p : Int) p (srt (fun p => zA S 50 (5 * p + 1)) (S.1 66) p)
    rw [fM_findOrder_1, e6, gC_pos (by omega) (by omega) (by omega) (by omega), if_pos (by omega), sm_ins hm w hb hb2 (v := p) (by omega) p n _ (by omega) (by omega) (fun i hi => ((hsq p (by omega)).1 i hi).2), Option.bind_some]
    simp only []
    rw [gX_pos (by omega) (by omega) (by omega), wA_wR]
    rfl
  · intro n _
    show fM_findOrder_1 (n + 1) (wR S 66 (srt (fun p => zA S 50 (5 * p + 1)) (S.1 66) (T.2 6))) b (T.2 6 : Int) = _
    have e6 : zF (wR S 66 (srt (fun p => zA S 50 (5 * p + 1)) (S.1 66) (T.2 6))) 49 1 = (T.2 6 : Int) := hm.1.1
    rw [fM_findOrder_1, e6, gC_pos (by omega) (by omega) (by omega) (by omega), if_neg (by omega)]
theorem sm_nosort (hm : mAt S T) (w : wfR T) {b : Int} (hb : 2 ≤ b) (hb2 : b < 4) {n : Nat} (hn : 40 ≤ n) : fM_findOrder_1 n S b 0 = some (wR S 66 (idn (S.1 66) (T.2 6))) := by
  have w6 := w.1
  have e := loop_for (F := fun n a p => fM_findOrder_1 n a b p) (fun p => wR S 66 (idn (S.1 66) p)) (T.2 6) 12 (res := some (wR S 66 (idn (S.1 66) (T.2 6)))) ?_ ?_ n (by omega)
  · have e : fM_findOrder_1 n (wR S 66 (idn (S.1 66) 0)) b 0 = _ := e
    have e0 : idn (S.1 66) 0 = S.1 66 := by
      funext y
      unfold idn
      rw [if_neg (by omega)]
    rw [e0, wR_self] at e
    exact e
  · intro n p hp hn
    show fM_findOrder_1 (n + 1) (wR S 66 (idn (S.1 66) p)) b (p : Int) = fM_findOrder_1 n (wR S 66 (idn (S.1 66) (p + 1))) b ((p : Int) + 1)
    have e6 : zF (wR S 66 (idn (S.1 66) p)) 49 1 = (T.2 6 : Int) := hm.1.1
    obtain ⟨k, rfl⟩ : ∃ k, n = k + 1 := ⟨n - 1, by omega⟩
    have e2 : fM_findOrder_2 (k + 1) (wR S 66 (idn (S.1 66) p)) b (p : Int) (p : Int) = some ((p : Int), wR S 66 (idn (S.1 66) p)) := by
      rw [fM_findOrder_2, gC_pos (by omega) (by omega) (by omega) (by omega), if_neg (by omega)]
    rw [fM_findOrder_1, e6, gC_pos (by omega) (by omega) (by omega) (by omega), if_pos (by omega), e2, Option.bind_some]
    simp only []
    rw [gX_pos (by omega) (by omega) (by omega), wA_wR, idn_s]
  · intro n _
    show fM_findOrder_1 (n + 1) (wR S 66 (idn (S.1 66) (T.2 6))) b (T.2 6 : Int) = _
    have e6 : zF (wR S 66 (idn (S.1 66) (T.2 6))) 49 1 = (T.2 6 : Int) := hm.1.1
    rw [fM_findOrder_1, e6, gC_pos (by omega) (by omega) (by omega) (by omega), if_neg (by omega)]
end OR
