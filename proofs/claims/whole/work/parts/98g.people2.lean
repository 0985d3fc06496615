/-! ===== people ===== -/
section PPM
variable {S : ZS}
theorem sm_people1 {K : Nat} (hK : K ≤ 4) : ∀ (d p n : Nat) (X : ZS), p + d = K → d < n → zF X 49 11 = (K : Int) → (∀ q : Nat, q < p → zA X 51 (q : Int) = zA X 53 (q : Int)) → ∃ X', fM_people_1 n X (p : Int) = some X' ∧ (∀ h : Nat, h ≠ 51 → X'.1 h = X.1 h) ∧ (∀ h j : Nat, zF X' h j = zF X h j) ∧ X'.2.2 = X.2.2 ∧ ∀ q : Nat, q < K → zA X' 51 (q : Int) = zA X 53 (q : Int) := by
  intro d
  induction d with
  | zero =>
    intro p n X h1 h2 h3 h6
    obtain ⟨m, rfl⟩ : ∃ m, n = m + 1 := ⟨n - 1, by omega⟩
    refine ⟨X, ?_, fun _ _ => rfl, fun _ _ => rfl, rfl, fun q c => h6 q (by omega)⟩
    rw [fM_people_1, h3, gC_pos (by omega) (by omega) (by omega) (by omega), if_neg (by omega)]
  | succ d ih =>
    intro p n X h1 h2 h3 h6
    obtain ⟨m, rfl⟩ : ∃ m, n = m + 1 := ⟨n - 1, by omega⟩
    rw [fM_people_1, h3, gC_pos (by omega) (by omega) (by omega) (by omega), if_pos (by omega), gX_pos (by omega) (by omega) (by omega), gX_pos (by omega) (by omega) (by omega)]
    have e53 : ∀ i : Int, zA (wA X 51 (p : Int) (zA X 53 (p : Int))) 53 i = zA X 53 i := fun i => by rw [zA_wA, if_neg (by decide)]
    obtain ⟨X', i1, i2, i3, i4, i6⟩ := ih (p + 1) m (wA X 51 (p : Int) (zA X 53 (p : Int))) (by omega) (by omega) h3 (fun q c => by
      rw [e53, zA_wA, if_pos rfl]
      by_cases e : q = p
      · rw [if_pos (by omega), e]
      · rw [if_neg (by omega)]
        exact h6 q (by omega))
    refine ⟨X', i1, fun h hh => (i2 h hh).trans ?_, i3, i4, fun q c => (i6 q c).trans (e53 _)⟩
    show (if h = 51 then _ else X.1 h) = _
    rw [if_neg hh]
theorem q_people (hG : Good S) : ∃ n v S1 S2, fD_people n S = some (v, S1) ∧ fM_people n S1 = some (v, S2) ∧ Good S2 := by
  obtain ⟨T, ⟨ht, hm, w, wn, wf⟩, ⟨N, hN, t1, t2, t3⟩, hr⟩ := id hG
  obtain ⟨n, hn⟩ : ∃ n : Nat, 2000 ≤ n := ⟨2000, Nat.le_refl _⟩
  refine ⟨n, ?_⟩
  obtain ⟨S0, a1, a2, a3⟩ := sp_take151 ht w n
  have tT : ∃ T0 : TW, T0.2 6 = T.2 6 ∧ T0.2 7 = 0 ∧ T0.2 8 = T.2 8 ∧ T0.2 9 = T.2 9 ∧ T0.2 10 = T.2 10 ∧ T0.2 11 = T.2 11 ∧ T0.1 = T.1 := ⟨(T.1, fun j => if j = 7 then 0 else T.2 j), rfl, rfl, rfl, rfl, rfl, rfl, rfl⟩
  obtain ⟨T0, u6, u7, u8, u9, u10, u11, u1⟩ := tT
  generalize hSC : wF (wF S0 15 7 0) 22 2 0 = SC
  have tc0 : tAt SC 15 T0 := by
    rw [← hSC]
    refine ⟨fun j a b => ?_, fun i p a b c => ?_, fun p a => absurd a (by omega)⟩
    · rw [zF_o _ _ (by omega)]
      have hj : j = 6 ∨ j = 7 ∨ j = 8 ∨ j = 9 ∨ j = 10 ∨ j = 11 := by omega
      rcases hj with rfl | rfl | rfl | rfl | rfl | rfl
      · rw [u6, zF_o _ _ (by omega)]; exact a3.1 6 (by omega) (by omega)
      · rw [u7, zF_s]; rfl
      · rw [u8, zF_o _ _ (by omega)]; exact a3.1 8 (by omega) (by omega)
      · rw [u9, zF_o _ _ (by omega)]; exact a3.1 9 (by omega) (by omega)
      · rw [u10, zF_o _ _ (by omega)]; exact a3.1 10 (by omega) (by omega)
      · rw [u11, zF_o _ _ (by omega)]; exact a3.1 11 (by omega) (by omega)
    · rw [zA_wF, zA_wF, u1]
      exact a3.2.1 i p a b (by omega)
  have o : okb (zA S 52) N := ⟨hN, fun i hi => (t3 i hi).2⟩
  have C0 : tC SC (zA S 52) N 0 := by
    rw [← hSC]
    refine ⟨?_, zF_s _ _ _ _, Nat.zero_le _, fun i hi => ?_⟩
    · rw [zF_o _ _ (by omega), zF_o _ _ (by omega), fr_F a2 (a := 22) (by omega) 1]
      exact t1
    · rw [zA_wF, zA_wF, fr_A a2 (a := 23) (by omega)]
      exact (t3 i hi).1
  have rA : ∀ h : Nat, (h < 16 ∨ 21 < h) → SC.1 h = S.1 h := fun h hh => by rw [← hSC]; show S0.1 h = S.1 h; exact a2.1 h hh
  have rF : ∀ h j : Nat, h ≠ 15 → (h ≠ 22 ∨ j ≠ 2) → SC.2.1 h j = S.2.1 h j := fun h j hh hj => by
    rw [← hSC]
    exact ((fr1_wF _ 22 2 0).2.2 h j hj).trans ((((frD_wF S0 7 0)).2.1 h j hh hj).trans (a2.2.1 h j hh))
  have rE : SC.2.2 = S.2.2 := by rw [← hSC]; show S0.2.2 = S.2.2; exact a2.2.2
  have wD : wfR T0 := ⟨by rw [u6]; exact w.1, by rw [u7]; omega, fun p hp => by rw [u6] at hp ⊢; rw [u1]; exact w.2.2.1 p hp, fun p hp => absurd hp (by omega)⟩
  have run : ∀ X : ZS, zF X 49 9 = (N : Int) → zF X 49 1 = (T.2 6 : Int) → (∀ i : Nat, i < N → zA X 52 (i : Int) = zA S 52 (i : Int)) → ∃ v S' R' p', fP_readPeople_1 n SC 1 = some (.inl (v, S')) ∧ fM_readAll_1 n (wF (wF X 49 10 0) 49 12 0) 0 4 0 = some (.inl (v, R')) ∧ frD SC S' ∧ frT (wF (wF X 49 10 0) 49 12 0) R' ∧ tC S' (zA S 52) N p' ∧ tM R' (zA S 52) N p' ∧ ((v = 0 ∧ skp (zA S 52) N p' = p') ∨ (v = 1 ∧ ∃ T', tAt S' 15 T' ∧ rpAt R' T' ∧ wfR T' ∧ likeT T0 T' ∧ zF R' 49 11 = (T'.2 7 : Int))) := by
    intro X x1 x3 x2
    have := people_both o 3 T0 SC (wF (wF X 49 10 0) 49 12 0) 0 n (by omega) (by omega) C0 ⟨x1, rfl, Nat.zero_le _, x2⟩ tc0 (fun p c => absurd c (by omega)) (by rw [u6]; exact x3) wD
    rw [u7, show ((0 : Nat) : Int) + 1 = 1 from rfl, show ((0 : Nat) : Int) = 0 from rfl] at this
    exact this
  obtain ⟨v, S', Rd, p', e1, ed1, f1, fd1, c1, cd1, x1⟩ := run S t2 hm.1.1 (fun _ _ => rfl)
  have E : fD_people n S = (fD_endOfReading n S' v (zF S' 15 7)).bind fun z4 => some (z4.1, z4.2) := by
    unfold fD_people
    rw [a1, Option.bind_some]
    have z : fP_readPeople n (wF S0 15 7 0) = some (v, S') := by
      unfold fP_readPeople
      rw [hSC, e1]
      rfl
    rw [z, Option.bind_some]
  have EM : ∀ X R' v, fM_readAll_1 n (wF (wF X 49 10 0) 49 12 0) 0 4 0 = some (.inl (v, R')) → fM_readAll n X 0 = some (v, R') := by
    intro X R' v h
    unfold fM_readAll
    rw [gC_pos (x := 0) (y := 0) (by omega) (by omega) (by omega) (by omega), if_pos (show (0 : Int) = 0 from rfl), Option.bind_some, h]
    rfl
  rcases x1 with ⟨rfl, x1⟩ | ⟨rfl, T', y1, y2, y3, y4, y5⟩
  · generalize hS1 : wF (wF S' 22 1 0) 22 2 0 = S1
    have sA : ∀ h : Nat, (h < 16 ∨ 21 < h) → S1.1 h = S.1 h := fun h hh => by rw [← hS1]; exact (f1.1 h hh).trans (rA h hh)
    have sF : ∀ h j : Nat, h ≠ 15 → h ≠ 22 → S1.2.1 h j = S.2.1 h j := fun h j hh hj => by
      rw [← hS1]
      exact ((fr1_wF _ 22 2 0).2.2 h j (Or.inl hj)).trans (((fr1_wF _ 22 1 0).2.2 h j (Or.inl hj)).trans ((f1.2.1 h j hh (Or.inl hj)).trans (rF h j hh (Or.inl hj))))
    have sE : S1.2.2 = S.2.2 := by rw [← hS1]; exact f1.2.2.trans rE
    have s1 : zF S1 22 1 = 0 := by rw [← hS1]; rfl
    obtain ⟨v2, S'', R2, p2, e1', m2, h2', g2, c2, d2, x2⟩ := run S1 ((sF 49 9 (by omega) (by omega)).trans t2) ((sF 49 1 (by omega) (by omega)).trans hm.1.1) (fun i _ => congrFun (sA 52 (by omega)) _)
    obtain ⟨rfl, rfl⟩ : v2 = 0 ∧ S'' = S' := by have q := e1'.symm.trans e1; simpa using q
    have x2 : skp (zA S 52) N p2 = p2 := by
      rcases x2 with x2 | x2
      · exact x2.2
      · exact absurd x2.1 (by decide)
    obtain ⟨R3, b1, b2, b3⟩ := tM_next o d2 (n := n) (by omega)
    refine ⟨-20 - zF S'' 22 2, S1, wF R3 49 9 0, ?_, ?_, ?_⟩
    · rw [E]
      unfold fD_endOfReading fP_empty
      rw [Option.bind_some, hS1, gC_pos (by omega) (by omega) (by omega) (by omega), if_pos rfl]
      rfl
    · unfold fM_people
      rw [EM S1 R2 0 m2, Option.bind_some]
      dsimp only
      rw [gC_pos (x := 0) (y := 0) (by omega) (by omega) (by omega) (by omega), if_pos rfl, b1, Option.bind_some, Option.bind_some, gC_pos (x := 0) (y := 0) (by omega) (by omega) (by omega) (by omega), if_pos rfl]
      dsimp only
      rw [b3.2.1, c2.2.1, x2]
    · refine good_X hG (fun h hh h53 => ?_) (fun h j h15 h22 h49 => ?_) ?_ ⟨0, (by omega), ?_, rfl, fun i hi => absurd hi (by omega)⟩
      · exact (congrFun b2.1 h).trans ((g2.1 h h53).trans (sA h hh))
      · refine ((fr1_wF R3 49 9 0).2.2 h j (by omega)).trans ((b2.2.2 h j (by omega)).trans ((g2.2.1 h j (by omega)).trans ?_))
        exact ((fr1_wF _ 49 12 0).2.2 h j (by omega)).trans (((fr1_wF _ 49 10 0).2.2 h j (by omega)).trans (sF h j h15 h22))
      · exact b2.2.1.trans (g2.2.2.trans sE)
      · exact (b2.2.2 22 1 (by omega)).trans ((g2.2.1 22 1 (by omega)).trans s1)
  · have tz : ∀ K, tAt S' 15 K → tAt (wF (wF S' 22 1 0) 22 2 0) 15 K := fun K h => fr1_tAt (fr1_wF _ 22 2 0) (fr1_tAt (fr1_wF _ 22 1 0) h (by decide)) (by decide)
    obtain ⟨Z, k1, k2, k2'⟩ := sp_take115 (tz _ y1) y3 n
    have sA : ∀ h : Nat, ((7 < h ∧ h < 16) ∨ 21 < h) → (fgt Z).1 h = S.1 h := fun h hh => (k2.1 h (by omega)).trans ((f1.1 h (by omega)).trans (rA h (by omega)))
    have sF : ∀ h j : Nat, h ≠ 1 → h ≠ 15 → h ≠ 22 → h ≠ 24 → (fgt Z).2.1 h j = S.2.1 h j := fun h j h1 h15 h22 h24 => ((fr_fgt 1000 0 Z).2.1 h j h24).trans ((k2.2.1 h j h1).trans (((fr1_wF _ 22 2 0).2.2 h j (Or.inl h22)).trans (((fr1_wF _ 22 1 0).2.2 h j (Or.inl h22)).trans ((f1.2.1 h j h15 (Or.inl h22)).trans (rF h j h15 (Or.inl h22))))))
    have sE : (fgt Z).2.2 = S.2.2 := (fr_fgt 1000 0 Z).2.2.trans (k2.2.2.trans (f1.2.2.trans rE))
    have s1 : zF (fgt Z) 22 1 = 0 := (zF_fgt Z (by omega) _).trans ((fr_F k2 (by omega) _).trans rfl)
    have s24 : gWay (fgt Z) T0 := fgt_way Z T0
    have sf : fW_forget n Z = some (fgt Z) := sp_forget n Z
    have stt : ∀ K, tAt Z 1 K → tAt (fgt Z) 1 K := fun K h => fr_tAt (fr_fgt 1000 0 Z) h (by omega) (by omega)
    have w14 : zF (fgt Z) 24 14 = 0 := rfl
    have w15 : zF (fgt Z) 24 15 = 0 := rfl
    have w16 : zF (fgt Z) 24 16 = 0 := rfl
    generalize fgt Z = S1 at *
    obtain ⟨v2, S'', R2, p2, e1', m2, h2', g2, c2, d2, x2⟩ := run S1 ((sF 49 9 (by omega) (by omega) (by omega) (by omega)).trans t2) ((sF 49 1 (by omega) (by omega) (by omega) (by omega)).trans hm.1.1) (fun i _ => congrFun (sA 52 (by omega)) _)
    obtain ⟨rfl, rfl⟩ : v2 = 1 ∧ S'' = S' := by have q := e1'.symm.trans e1; simpa using q
    have x2 : ∃ K, tAt S'' 15 K ∧ rpAt R2 K ∧ wfR K ∧ likeT T0 K ∧ zF R2 49 11 = (K.2 7 : Int) := by
      rcases x2 with x2 | x2
      · exact absurd x2.1 (by decide)
      · exact x2.2
    obtain ⟨K, q1, q2, q3, ⟨q40, q48, q4, q5, q6, q41⟩, q7⟩ := x2
    obtain ⟨Z', k1', k2'', k3⟩ := sp_take115 (tz _ q1) q3 n
    obtain rfl : Z' = Z := Option.some.inj (k1'.symm.trans k1)
    have q32 := q3.2.1
    obtain ⟨X, i1, i2, i3, i4, i6⟩ := sm_people1 (K := K.2 7) q3.2.1 (K.2 7) 0 n (wF (wF R2 49 9 0) 49 7 (zF R2 49 11)) (by omega) (by omega) ((zF_o _ _ (by omega)).trans ((zF_o _ _ (by omega)).trans q7)) (fun q c => absurd c (by omega))
    rw [show ((0 : Nat) : Int) = 0 from rfl] at i1
    have rF2 : ∀ j : Nat, j < 10 ∨ 12 < j → zF R2 49 j = zF S1 49 j := fun j hj => (g2.2.1 49 j (Or.inr hj)).trans (((fr1_wF _ 49 12 0).2.2 49 j (by omega)).trans ((fr1_wF _ 49 10 0).2.2 49 j (by omega)))
    have i5 : zF X 49 7 = (K.2 7 : Int) := (i3 49 7).trans ((zF_s _ _ _ _).trans q7)
    have nF : ∀ h j : Nat, (h ≠ 49 ∨ (j < 10 ∧ j ≠ 9 ∧ j ≠ 7) ∨ 12 < j) → zF X h j = zF S1 h j := fun h j hh => (i3 h j).trans ((zF_o _ _ (by omega)).trans ((zF_o _ _ (by omega)).trans ((g2.2.1 h j (by omega)).trans ((zF_o _ _ (by omega)).trans (zF_o _ _ (by omega))))))
    refine ⟨(K.2 7 : Int), S1, X, ?_, ?_, ?_⟩
    · rw [E]
      unfold fD_endOfReading fP_empty
      rw [Option.bind_some, gC_pos (by omega) (by omega) (by omega) (by omega), if_neg (by decide), k1, Option.bind_some, sf, Option.bind_some, q1.1 7 (by omega) (by omega)]
      rfl
    · unfold fM_people
      rw [EM S1 R2 1 m2, Option.bind_some]
      dsimp only
      rw [gC_pos (x := 1) (y := 0) (by omega) (by omega) (by omega) (by omega), if_neg (show ¬ (1 : Int) = 0 by decide), Option.bind_some, gC_pos (x := 1) (y := 0) (by omega) (by omega) (by omega) (by omega), if_neg (show ¬ (1 : Int) = 0 by decide), i1, Option.bind_some, i5]
    · have nA : ∀ h : Nat, h ≠ 51 → h ≠ 53 → X.1 h = S1.1 h := fun h h50 h53 => (i2 h h50).trans (g2.1 h h53)
      have k3 := stt _ k3
      refine good_Y (T' := K) hG (fun h hh => (nA h (by omega) (by omega)).trans (sA h (by omega))) (fun h j h1 h15 h22 h24 h49 => (nF h j (by omega)).trans (sF h j h1 h15 h22 h24)) ?_ ⟨0, (by omega), (nF 22 1 (by omega)).trans s1, ?_, fun i hi => absurd hi (by omega)⟩ ⟨fun j a b => (nF 1 j (by omega)).trans (k3.1 j a b), fun i p a b c => (congrFun (nA (1 + i) (by omega) (by omega)) _).trans (k3.2.1 i p a b c), fun p a => (congrFun (nA (1 + 6) (by omega) (by omega)) _).trans (k3.2.2 p a)⟩ ⟨⟨?_, i5, ?_, ?_, ?_, ?_⟩, ?_, ?_⟩ ⟨q3, ⟨?_, ?_, ?_, ?_, ?_⟩, ?_⟩ ⟨Or.inl ((nF 24 14 (by omega)).trans w14), Or.inl ((nF 24 15 (by omega)).trans w15), Or.inl ((nF 24 16 (by omega)).trans w16)⟩
      · exact i4.trans (g2.2.2.trans sE)
      · exact (i3 49 9).trans ((zF_o _ _ (by omega)).trans (zF_s _ _ _ _))
      · rw [q40, u6]
        exact (nF 49 1 (by omega)).trans ((sF 49 1 (by omega) (by omega) (by omega) (by omega)).trans hm.1.1)
      · rw [q48, u8]
        exact (nF 49 2 (by omega)).trans ((sF 49 2 (by omega) (by omega) (by omega) (by omega)).trans hm.1.2.2.1)
      · rw [q4, u9]
        exact (nF 49 3 (by omega)).trans ((sF 49 3 (by omega) (by omega) (by omega) (by omega)).trans hm.1.2.2.2.1)
      · rw [q5, u10]
        exact (nF 49 4 (by omega)).trans ((sF 49 4 (by omega) (by omega) (by omega) (by omega)).trans hm.1.2.2.2.2.1)
      · rw [q6, u11]
        exact (nF 49 5 (by omega)).trans ((sF 49 5 (by omega) (by omega) (by omega) (by omega)).trans hm.1.2.2.2.2.2)
      · intro i p a c
        rw [q41 _ _ (by omega), u1]
        rw [q40, u6] at c
        exact (congrFun (nA 50 (by omega) (by omega)) _).trans ((congrFun (sA 50 (by omega)) _).trans (hm.2.1 i p a c))
      · intro p c
        exact (i6 p c).trans (q2 p c)
      · rw [q48, q40, u8, u6]
        exact wn.1
      · rw [q4, q40, u9, u6]
        exact wn.2.1
      · rw [q5, u10]
        exact wn.2.2.1
      · rw [q6, u11]
        exact wn.2.2.2.1
      · rw [q6, u11]
        exact wn.2.2.2.2
      · rw [q48, u8]
        exact (firm_cg (T := T) (T' := K) (q40.trans u6) (fun p hp => by rw [q41 5 p (by omega), u1])).trans wf
theorem p_people : P_people Inv := mkPair (fun n S => fD_people n S) (fun n S => fM_people n S) (fun o n S w h => sD_people o n S h) (fun o n S w h => sM_people o n S h) (fun S hG => q_people hG)
end PPM
