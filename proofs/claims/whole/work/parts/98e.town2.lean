/-! ===== town ===== -/
section TWO
variable {S : ZS}
theorem zF_o (S : ZS) {h j h' j' : Nat} (x : Int) (c : h' ≠ h ∨ j' ≠ j) : zF (wF S h j x) h' j' = zF S h' j' := fr1_F (fr1_wF S h j x) c
theorem zF_s (S : ZS) (h j : Nat) (x : Int) : zF (wF S h j x) h j = x := by rw [zF_wF, if_pos rfl, if_pos rfl]
theorem q_town (hG : Good S) : ∃ n v S1 S2, fD_town n S = some (v, S1) ∧ fM_town n S1 = some (v, S2) ∧ Good S2 := by
  obtain ⟨T, ⟨ht, hm, w, wn, wf⟩, ⟨N, hN, t1, t2, t3⟩, hr⟩ := id hG
  obtain ⟨n, hn⟩ : ∃ n : Nat, 2000 ≤ n := ⟨2000, Nat.le_refl _⟩
  refine ⟨n, ?_⟩
  obtain ⟨S0, a1, a2, a3⟩ := sp_take151 ht w n
  have tT : ∃ T0 : TW, T0.2 6 = 0 ∧ T0.2 7 = 0 ∧ T0.2 8 = 0 ∧ T0.2 9 = 0 ∧ T0.2 10 = T.2 10 ∧ T0.2 11 = T.2 11 := ⟨(T.1, fun j => if j ≤ 9 then 0 else T.2 j), rfl, rfl, rfl, rfl, rfl, rfl⟩
  obtain ⟨T0, u6, u7, u8, u9, u10, u11⟩ := tT
  generalize hSC : wF (wF (wF (wF (wF S0 15 6 0) 15 7 0) 15 8 0) 15 9 0) 22 2 0 = SC
  have tc0 : tAt SC 15 T0 := by
    rw [← hSC]
    refine ⟨fun j a b => ?_, fun i p a b c => absurd c (by omega), fun p a => absurd a (by omega)⟩
    have hj : j = 6 ∨ j = 7 ∨ j = 8 ∨ j = 9 ∨ j = 10 ∨ j = 11 := by omega
    rcases hj with rfl | rfl | rfl | rfl | rfl | rfl
    · rw [u6, zF_o _ _ (by omega), zF_o _ _ (by omega), zF_o _ _ (by omega), zF_o _ _ (by omega), zF_s]; rfl
    · rw [u7, zF_o _ _ (by omega), zF_o _ _ (by omega), zF_o _ _ (by omega), zF_s]; rfl
    · rw [u8, zF_o _ _ (by omega), zF_o _ _ (by omega), zF_s]; rfl
    · rw [u9, zF_o _ _ (by omega), zF_s]; rfl
    · rw [u10, zF_o _ _ (by omega), zF_o _ _ (by omega), zF_o _ _ (by omega), zF_o _ _ (by omega), zF_o _ _ (by omega)]; exact a3.1 10 (by omega) (by omega)
    · rw [u11, zF_o _ _ (by omega), zF_o _ _ (by omega), zF_o _ _ (by omega), zF_o _ _ (by omega), zF_o _ _ (by omega)]; exact a3.1 11 (by omega) (by omega)
  have o : okb (zA S 52) N := ⟨hN, fun i hi => (t3 i hi).2⟩
  have C0 : tC SC (zA S 52) N 0 := by
    rw [← hSC]
    refine ⟨?_, zF_s _ _ _ _, Nat.zero_le _, fun i hi => ?_⟩
    · rw [zF_o _ _ (by omega), zF_o _ _ (by omega), zF_o _ _ (by omega), zF_o _ _ (by omega), zF_o _ _ (by omega), fr_F a2 (a := 22) (by omega) 1]
      exact t1
    · rw [zA_wF, zA_wF, zA_wF, zA_wF, zA_wF, fr_A a2 (a := 23) (by omega)]
      exact (t3 i hi).1
  have rA : ∀ h : Nat, (h < 16 ∨ 21 < h) → SC.1 h = S.1 h := fun h hh => by rw [← hSC]; show S0.1 h = S.1 h; exact a2.1 h hh
  have rF : ∀ h j : Nat, h ≠ 15 → (h ≠ 22 ∨ j ≠ 2) → SC.2.1 h j = S.2.1 h j := fun h j hh hj => by
    rw [← hSC]
    exact ((fr1_wF _ 22 2 0).2.2 h j hj).trans (((frD_trans (frD_trans (frD_trans (frD_wF S0 6 0) (frD_wF _ 7 0)) (frD_wF _ 8 0)) (frD_wF _ 9 0)).2.1 h j hh hj).trans (a2.2.1 h j hh))
  have rE : SC.2.2 = S.2.2 := by rw [← hSC]; show S0.2.2 = S.2.2; exact a2.2.2
  have wD : wfD T0 := ⟨⟨(by omega), (by omega), fun p hp => absurd hp (by omega), fun p hp => absurd hp (by omega)⟩, by rw [u6, u8]; decide, by unfold firmB; rw [u6]; rfl, u7⟩
  have run : ∀ X : ZS, zF X 49 9 = (N : Int) → (∀ i : Nat, i < N → zA X 52 (i : Int) = zA S 52 (i : Int)) → ∃ v S' R' p', fP_readTown_1 n SC 1 = some (.inl (v, S')) ∧ fM_readAll_1 n (wF (wF X 49 10 0) 49 12 0) 1 8 0 = some (.inl (v, R')) ∧ frD SC S' ∧ frT (wF (wF X 49 10 0) 49 12 0) R' ∧ tC S' (zA S 52) N p' ∧ tM R' (zA S 52) N p' ∧ ((v = 0 ∧ skp (zA S 52) N p' = p') ∨ (v = 1 ∧ ∃ T', tAt S' 15 T' ∧ rdAt R' T' ∧ wfD T' ∧ keepT T0 T' ∧ zF R' 49 11 = (T'.2 6 : Int))) := by
    intro X x1 x2
    have := town_both o 7 T0 SC (wF (wF X 49 10 0) 49 12 0) 0 n (by omega) (by omega) C0 ⟨x1, rfl, Nat.zero_le _, x2⟩ tc0 ⟨fun i p a c => absurd c (by omega), by rw [u8]; rfl⟩ wD
    rw [u6, show ((0 : Nat) : Int) + 1 = 1 from rfl, show ((0 : Nat) : Int) = 0 from rfl] at this
    exact this
  obtain ⟨v, S', Rd, p', e1, ed1, f1, fd1, c1, cd1, x1⟩ := run S t2 (fun _ _ => rfl)
  have E : fD_town n S = (fD_endOfReading n S' v (zF S' 15 6)).bind fun z4 => some (z4.1, z4.2) := by
    unfold fD_town
    rw [a1, Option.bind_some]
    unfold fT_raze_15
    rw [Option.bind_some]
    have z : fP_readTown n (wF (wF (wF (wF S0 15 6 0) 15 7 0) 15 8 0) 15 9 0) = some (v, S') := by
      unfold fP_readTown
      rw [hSC, e1]
      rfl
    rw [z, Option.bind_some]
  have EM : ∀ X R' v, fM_readAll_1 n (wF (wF X 49 10 0) 49 12 0) 1 8 0 = some (.inl (v, R')) → fM_readAll n X 1 = some (v, R') := by
    intro X R' v h
    unfold fM_readAll
    rw [gC_pos (x := 1) (y := 0) (by omega) (by omega) (by omega) (by omega), if_neg (show ¬ (1 : Int) = 0 by decide), Option.bind_some, h]
    rfl
  rcases x1 with ⟨rfl, x1⟩ | ⟨rfl, T', y1, y2, y3, y4, y5⟩
  · generalize hS1 : wF (wF S' 22 1 0) 22 2 0 = S1
    have sA : ∀ h : Nat, (h < 16 ∨ 21 < h) → S1.1 h = S.1 h := fun h hh => by rw [← hS1]; exact (f1.1 h hh).trans (rA h hh)
    have sF : ∀ h j : Nat, h ≠ 15 → h ≠ 22 → S1.2.1 h j = S.2.1 h j := fun h j hh hj => by
      rw [← hS1]
      exact ((fr1_wF _ 22 2 0).2.2 h j (Or.inl hj)).trans (((fr1_wF _ 22 1 0).2.2 h j (Or.inl hj)).trans ((f1.2.1 h j hh (Or.inl hj)).trans (rF h j hh (Or.inl hj))))
    have sE : S1.2.2 = S.2.2 := by rw [← hS1]; exact f1.2.2.trans rE
    have s1 : zF S1 22 1 = 0 := by rw [← hS1]; rfl
    obtain ⟨v2, S'', R2, p2, e1', m2, h2', g2, c2, d2, x2⟩ := run S1 ((sF 49 9 (by omega) (by omega)).trans t2) (fun i _ => congrFun (sA 52 (by omega)) _)
    obtain ⟨rfl, rfl⟩ : v2 = 0 ∧ S'' = S' := by have q := e1'.symm.trans e1; simpa using q
    have x2 : skp (zA S 52) N p2 = p2 := by
      rcases x2 with x2 | x2
      · exact x2.2
      · exact absurd x2.1 (by decide)
    obtain ⟨R3, b1, b2, b3⟩ := tM_next o d2 (n := n) (by omega)
    refine ⟨-20 - zF S'' 22 2, S1, wF R3 49 9 0, ?_, ?_, ?_⟩
    · rw [E]
      unfold fD_endOfReading fP_empty
      rw [Option.bind_some, hS1, gC_pos (by omega) (by omega) (by omega) (by omega), if_pos rfl]
      rfl
    · unfold fM_town
      rw [EM S1 R2 0 m2, Option.bind_some]
      dsimp only
      rw [gC_pos (x := 0) (y := 0) (by omega) (by omega) (by omega) (by omega), if_pos rfl, b1, Option.bind_some, Option.bind_some, gC_pos (x := 0) (y := 0) (by omega) (by omega) (by omega) (by omega), if_pos rfl]
      dsimp only
      rw [b3.2.1, c2.2.1, x2]
    · refine good_X hG (fun h hh h53 => ?_) (fun h j h15 h22 h49 => ?_) ?_ ⟨0, (by omega), ?_, rfl, fun i hi => absurd hi (by omega)⟩
      · exact (congrFun b2.1 h).trans ((g2.1 h h53).trans (sA h hh))
      · refine ((fr1_wF R3 49 9 0).2.2 h j (by omega)).trans ((b2.2.2 h j (by omega)).trans ((g2.2.1 h j (by omega)).trans ?_))
        exact ((fr1_wF _ 49 12 0).2.2 h j (by omega)).trans (((fr1_wF _ 49 10 0).2.2 h j (by omega)).trans (sF h j h15 h22))
      · exact b2.2.1.trans (g2.2.2.trans sE)
      · exact (b2.2.2 22 1 (by omega)).trans ((g2.2.1 22 1 (by omega)).trans s1)
  · have tz : ∀ K, tAt S' 15 K → tAt (wF (wF S' 22 1 0) 22 2 0) 15 K := fun K h => fr1_tAt (fr1_wF _ 22 2 0) (fr1_tAt (fr1_wF _ 22 1 0) h (by decide)) (by decide)
    obtain ⟨Z, k1, k2, k2'⟩ := sp_take115 (tz _ y1) y3.1 n
    have sA : ∀ h : Nat, ((7 < h ∧ h < 16) ∨ 21 < h) → (fgt Z).1 h = S.1 h := fun h hh => (k2.1 h (by omega)).trans ((f1.1 h (by omega)).trans (rA h (by omega)))
    have sF : ∀ h j : Nat, h ≠ 1 → h ≠ 15 → h ≠ 22 → h ≠ 24 → (fgt Z).2.1 h j = S.2.1 h j := fun h j h1 h15 h22 h24 => ((fr_fgt 1000 0 Z).2.1 h j h24).trans ((k2.2.1 h j h1).trans (((fr1_wF _ 22 2 0).2.2 h j (Or.inl h22)).trans (((fr1_wF _ 22 1 0).2.2 h j (Or.inl h22)).trans ((f1.2.1 h j h15 (Or.inl h22)).trans (rF h j h15 (Or.inl h22))))))
    have sE : (fgt Z).2.2 = S.2.2 := (fr_fgt 1000 0 Z).2.2.trans (k2.2.2.trans (f1.2.2.trans rE))
    have s1 : zF (fgt Z) 22 1 = 0 := (zF_fgt Z (by omega) _).trans ((fr_F k2 (by omega) _).trans rfl)
    have s24 : gWay (fgt Z) T0 := fgt_way Z T0
    have sf : fW_forget n Z = some (fgt Z) := sp_forget n Z
    have stt : ∀ K, tAt Z 1 K → tAt (fgt Z) 1 K := fun K h => fr_tAt (fr_fgt 1000 0 Z) h (by omega) (by omega)
    have w14 : zF (fgt Z) 24 14 = 0 := rfl
    have w15 : zF (fgt Z) 24 15 = 0 := rfl
    have w16 : zF (fgt Z) 24 16 = 0 := rfl
    generalize fgt Z = S1 at *
    obtain ⟨v2, S'', R2, p2, e1', m2, h2', g2, c2, d2, x2⟩ := run S1 ((sF 49 9 (by omega) (by omega) (by omega) (by omega)).trans t2) (fun i _ => congrFun (sA 52 (by omega)) _)
    obtain ⟨rfl, rfl⟩ : v2 = 1 ∧ S'' = S' := by have q := e1'.symm.trans e1; simpa using q
    have x2 : ∃ K, tAt S'' 15 K ∧ rdAt R2 K ∧ wfD K ∧ keepT T0 K ∧ zF R2 49 11 = (K.2 6 : Int) := by
      rcases x2 with x2 | x2
      · exact absurd x2.1 (by decide)
      · exact x2.2
    obtain ⟨K, q1, q2, q3, ⟨q4, q5, q6⟩, q7⟩ := x2
    obtain ⟨Z', k1', k2'', k3⟩ := sp_take115 (tz _ q1) q3.1 n
    obtain rfl : Z' = Z := Option.some.inj (k1'.symm.trans k1)
    obtain ⟨X, i1, i2, i3, i4, i5, i6⟩ := sm_town1 (T := K) q3.1.1 (K.2 6) 0 n (wF (wF (wF (wF R2 49 9 0) 49 1 0) 49 7 0) 49 3 0) (by omega) (by have := q3.1.1; omega) q7 rfl (fun i q a c => q2.1 i q a c) (fun i q a c => absurd c (by omega))
    rw [show ((0 : Nat) : Int) = 0 from rfl] at i1
    have rF2 : ∀ j : Nat, j < 10 ∨ 12 < j → zF R2 49 j = zF S1 49 j := fun j hj => (g2.2.1 49 j (Or.inr hj)).trans (((fr1_wF _ 49 12 0).2.2 49 j (by omega)).trans ((fr1_wF _ 49 10 0).2.2 49 j (by omega)))
    refine ⟨(K.2 6 : Int), S1, wF X 49 2 (zF X 49 12), ?_, ?_, ?_⟩
    · rw [E]
      unfold fD_endOfReading fP_empty
      rw [Option.bind_some, gC_pos (by omega) (by omega) (by omega) (by omega), if_neg (by decide), k1, Option.bind_some, sf, Option.bind_some, q1.1 6 (by omega) (by omega)]
      rfl
    · unfold fM_town
      rw [EM S1 R2 1 m2, Option.bind_some]
      dsimp only
      rw [gC_pos (x := 1) (y := 0) (by omega) (by omega) (by omega) (by omega), if_neg (show ¬ (1 : Int) = 0 by decide), Option.bind_some, gC_pos (x := 1) (y := 0) (by omega) (by omega) (by omega) (by omega), if_neg (show ¬ (1 : Int) = 0 by decide), i1, Option.bind_some, i5]
    · have n24 : ∀ j : Nat, zF (wF X 49 2 (zF X 49 12)) 24 j = zF S1 24 j := fun j => ((fr1_wF X 49 2 _).2.2 24 j (by omega)).trans ((i3 24 j (by omega)).trans (((fr1_wF _ 49 3 0).2.2 24 j (by omega)).trans (((fr1_wF _ 49 7 0).2.2 24 j (by omega)).trans (((fr1_wF _ 49 1 0).2.2 24 j (by omega)).trans (((fr1_wF _ 49 9 0).2.2 24 j (by omega)).trans ((g2.2.1 24 j (by omega)).trans (((fr1_wF _ 49 12 0).2.2 24 j (by omega)).trans ((fr1_wF _ 49 10 0).2.2 24 j (by omega)))))))))
      have nF : ∀ h j : Nat, h ≠ 49 ∨ 12 < j → zF (wF X 49 2 (zF X 49 12)) h j = zF S1 h j := fun h j hh => ((fr1_wF X 49 2 _).2.2 h j (by omega)).trans ((i3 h j (by omega)).trans (((fr1_wF _ 49 3 0).2.2 h j (by omega)).trans (((fr1_wF _ 49 7 0).2.2 h j (by omega)).trans (((fr1_wF _ 49 1 0).2.2 h j (by omega)).trans (((fr1_wF _ 49 9 0).2.2 h j (by omega)).trans ((g2.2.1 h j (by omega)).trans (((fr1_wF _ 49 12 0).2.2 h j (by omega)).trans ((fr1_wF _ 49 10 0).2.2 h j (by omega)))))))))
      have nA : ∀ h : Nat, h ≠ 50 → h ≠ 53 → (wF X 49 2 (zF X 49 12)).1 h = S1.1 h := fun h h50 h53 => (i2 h h50).trans (g2.1 h h53)
      have k3 := stt _ k3
      refine good_Y (T' := K) hG (fun h hh => (nA h (by omega) (by omega)).trans (sA h (by omega))) (fun h j h1 h15 h22 h24 h49 => (nF h j h49).trans (sF h j h1 h15 h22 h24)) ?_ ⟨0, (by omega), (nF 22 1 (by omega)).trans s1, ?_, fun i hi => absurd hi (by omega)⟩ ⟨fun j a b => (nF 1 j (by omega)).trans (k3.1 j a b), fun i p a b c => (congrFun (nA (1 + i) (by omega) (by omega)) _).trans (k3.2.1 i p a b c), fun p a => (congrFun (nA (1 + 6) (by omega) (by omega)) _).trans (k3.2.2 p a)⟩ ⟨⟨i5, ?_, ?_, ?_, ?_, ?_⟩, i6, ?_⟩ ⟨q3.1, ⟨q3.2.1, ?_, ?_, ?_, ?_⟩, q3.2.2.1⟩ ⟨Or.inl ((n24 14).trans w14), Or.inl ((n24 15).trans w15), Or.inl ((n24 16).trans w16)⟩
      · exact i4.trans (g2.2.2.trans sE)
      · exact (i3 49 9 (by omega)).trans rfl
      · rw [q3.2.2.2]
        exact (i3 49 7 (by omega)).trans rfl
      · exact (i3 49 12 (by omega)).trans q2.2
      · rw [q4, u9]
        exact (i3 49 3 (by omega)).trans rfl
      · rw [q5, u10]
        exact (i3 49 4 (by omega)).trans ((rF2 4 (by omega)).trans ((sF 49 4 (by omega) (by omega) (by omega) (by omega)).trans hm.1.2.2.2.2.1))
      · rw [q6, u11]
        exact (i3 49 5 (by omega)).trans ((rF2 5 (by omega)).trans ((sF 49 5 (by omega) (by omega) (by omega) (by omega)).trans hm.1.2.2.2.2.2))
      · intro p hp
        rw [q3.2.2.2] at hp
        exact absurd hp (by omega)
      · rw [q4, u9]
        exact pw_pos _
      · rw [q5, u10]
        exact wn.2.2.1
      · rw [q6, u11]
        exact wn.2.2.2.1
      · rw [q6, u11]
        exact wn.2.2.2.2
theorem p_town : P_town Inv := mkPair (fun n S => fD_town n S) (fun n S => fM_town n S) (fun o n S w h => sD_town o n S h) (fun o n S w h => sM_town o n S h) (fun S hG => q_town hG)
end TWO
