/-- all pairs -/
def Pairs (Inv : eH → Prop) : Prop := P_part Inv ∧ P_told Inv ∧ P_stand Inv ∧ P_person Inv ∧ P_set Inv ∧ P_want Inv ∧ P_type Inv ∧ P_town Inv ∧ P_people Inv ∧ P_count Inv ∧ P_may Inv ∧ P_week Inv ∧ P_can Inv ∧ P_more Inv ∧ P_carry Inv ∧ P_build Inv ∧ P_worth Inv ∧ P_image Inv ∧ P_restore Inv ∧ P_judged Inv ∧ P_wrong Inv ∧ P_sheet Inv ∧ P_drop Inv ∧ P_item Inv ∧ P_film Inv ∧ P_copy Inv
set_option maxRecDepth 100000 in
set_option maxHeartbeats 8000000 in
theorem l_law (Inv : eH → Prop) (hO : ∀ H, Inv H → ∃ fs, H[0]? = some (.inr (6, fs))) (hB : ∀ H, Inv H → H.length ≤ 600000 ∧ eTot H ≤ 7302250) (hPs : Pairs Inv) (o : eO) (hz : o.1 ≤ 3072) : ∀ (dQ iQ : Nat) (H : eH), o.1 < iQ + 6 * dQ → iQ ≤ o.1 + 6 → Inv H → eG o 202 18 [some (.retAddr 0), some (.ref 0), some (.ref 49), some (.int (nI iQ))] [] H (fun z => z.1 = some (.int 1) ∧ z.2.length ≤ 600000 ∧ eTot z.2 ≤ 7302250) := by
  obtain ⟨p0, p1, p2, p3, p4, p5, p6, p7, p8, p9, p10, p11, p12, p13, p14, p15, p16, p17, p18, p19, p20, p21, p22, p23, p24, p25⟩ := hPs
  intro dQ
  induction dQ with
  | zero =>
    intro iQ H hd hi hI
    refine g_run 2 20 [some (.retAddr 0), some (.ref 0), some (.ref 49), some (.int (nI iQ))] [.retAddr 0, .int (nI iQ)] H rfl ?_
    refine g_slen rfl ?_
    refine g_run 2 24 [some (.retAddr 0), some (.ref 0), some (.ref 49), some (.int (nI iQ))] [.int (nI o.1 - 6), .int (nI iQ)] H rfl ?_
    refine g_icmp_gt rfl (fun _ => ?_) (fun c1 => absurd (lw_out hz (by omega) (by omega)) c1)
    show eG _ 202 1066 [some (.retAddr 0), some (.ref 0), some (.ref 49), some (.int (nI iQ))] [] H _
    refine g_run 1 1067 [some (.retAddr 0), some (.ref 0), some (.ref 49), some (.int (nI iQ))] [.int 1] H rfl ?_
    exact g_retiS rfl rfl rfl ⟨rfl, hB H hI⟩
  | succ dQ ih =>
    intro iQ H hd hi hI
    by_cases hin : iQ + 6 ≤ o.1
    · have hk : ∀ H2, Inv H2 → eG o 202 1060 [some (.retAddr 0), some (.ref 0), some (.ref 49), some (.int (nI iQ))] [] H2 (fun z => z.1 = some (.int 1) ∧ z.2.length ≤ 600000 ∧ eTot z.2 ≤ 7302250) := by
        intro H2 hI2
        refine g_run 2 18 [some (.retAddr 0), some (.ref 0), some (.ref 49), some (.int (nI iQ + nI 6))] [] H2 rfl ?_
        rw [nI_add iQ 6]
        exact ih (iQ + 6) H2 (by omega) (by omega) hI2
      refine g_run 2 20 [some (.retAddr 0), some (.ref 0), some (.ref 49), some (.int (nI iQ))] [.retAddr 0, .int (nI iQ)] H rfl ?_
      refine g_slen rfl ?_
      refine g_run 2 24 [some (.retAddr 0), some (.ref 0), some (.ref 49), some (.int (nI iQ))] [.int (nI o.1 - 6), .int (nI iQ)] H rfl ?_
      refine g_icmp_gt rfl (fun c1 => absurd c1 (lw_in hz (by omega) hin)) (fun _ => ?_)
      show eG _ 202 27 [some (.retAddr 0), some (.ref 0), some (.ref 49), some (.int (nI iQ))] [] H _
      refine g_run 2 29 [some (.retAddr 0), some (.ref 0), some (.ref 49), some (.int (nI iQ))] [.int (nI iQ), .retAddr 0] H rfl ?_
      refine g_sld rfl (show iQ < _ by omega) (by omega) ?_
      refine g_run 2 33 [some (.retAddr 0), some (.ref 0), some (.ref 49), some (.int (nI iQ))] [.int ((o.2 iQ) &&& 31)] H rfl ?_
      generalize (o.2 iQ) &&& 31 = xQ
      by_cases k0 : xQ = 0
      · exact g_tabv 0 152 rfl k0 (by decide) (c_part Inv hO p0 o iQ H hz hin hI hk)
      by_cases k1 : xQ = 1
      · exact g_tabv 1 215 rfl k1 (by decide) (c_told Inv hO p1 o iQ H hz hin hI hk)
      by_cases k2 : xQ = 2
      · exact g_tabv 2 248 rfl k2 (by decide) (c_stand Inv hO p2 o iQ H hz hin hI hk)
      by_cases k3 : xQ = 3
      · exact g_tabv 3 271 rfl k3 (by decide) (c_person Inv hO p3 o iQ H hz hin hI hk)
      by_cases k4 : xQ = 4
      · exact g_tabv 4 294 rfl k4 (by decide) (c_set Inv hO p4 o iQ H hz hin hI hk)
      by_cases k5 : xQ = 5
      · exact g_tabv 5 327 rfl k5 (by decide) (c_want Inv hO p5 o iQ H hz hin hI hk)
      by_cases k6 : xQ = 6
      · exact g_tabv 6 350 rfl k6 (by decide) (c_type Inv hO p6 o iQ H hz hin hI hk)
      by_cases k7 : xQ = 7
      · exact g_tabv 7 413 rfl k7 (by decide) (c_town Inv hO p7 o iQ H hz hin hI hk)
      by_cases k8 : xQ = 8
      · exact g_tabv 8 426 rfl k8 (by decide) (c_people Inv hO p8 o iQ H hz hin hI hk)
      by_cases k9 : xQ = 9
      · exact g_tabv 9 439 rfl k9 (by decide) (c_count Inv hO p9 o iQ H hz hin hI hk)
      by_cases k10 : xQ = 10
      · exact g_tabv 10 462 rfl k10 (by decide) (c_may Inv hO p10 o iQ H hz hin hI hk)
      by_cases k11 : xQ = 11
      · exact g_tabv 11 495 rfl k11 (by decide) (c_week Inv hO p11 o iQ H hz hin hI hk)
      by_cases k12 : xQ = 12
      · exact g_tabv 12 528 rfl k12 (by decide) (c_can Inv hO p12 o iQ H hz hin hI hk)
      by_cases k13 : xQ = 13
      · exact g_tabv 13 551 rfl k13 (by decide) (c_more Inv hO p13 o iQ H hz hin hI hk)
      by_cases k14 : xQ = 14
      · exact g_tabv 14 564 rfl k14 (by decide) (c_carry Inv hO p14 o iQ H hz hin hI hk)
      by_cases k15 : xQ = 15
      · exact g_tabv 15 597 rfl k15 (by decide) (c_build Inv hO p15 o iQ H hz hin hI hk)
      by_cases k16 : xQ = 16
      · exact g_tabv 16 630 rfl k16 (by decide) (c_worth Inv hO p16 o iQ H hz hin hI hk)
      by_cases k17 : xQ = 17
      · exact g_tabv 17 663 rfl k17 (by decide) (c_image Inv hO p17 o iQ H hz hin hI hk)
      by_cases k18 : xQ = 18
      · exact g_tabv 18 676 rfl k18 (by decide) (c_restore Inv hO p18 o iQ H hz hin hI hk)
      by_cases k19 : xQ = 19
      · exact g_tabv 19 689 rfl k19 (by decide) (c_judged Inv hO p19 o iQ H hz hin hI hk)
      by_cases k20 : xQ = 20
      · exact g_tabv 20 742 rfl k20 (by decide) (c_wrong Inv hO p20 o iQ H hz hin hI hk)
      by_cases k21 : xQ = 21
      · exact g_tabv 21 805 rfl k21 (by decide) (c_sheet Inv hO p21 o iQ H hz hin hI hk)
      by_cases k22 : xQ = 22
      · exact g_tabv 22 848 rfl k22 (by decide) (c_drop Inv hO p22 o iQ H hz hin hI hk)
      by_cases k23 : xQ = 23
      · exact g_tabv 23 871 rfl k23 (by decide) (c_item Inv hO p23 o iQ H hz hin hI hk)
      by_cases k24 : xQ = 24
      · exact g_tabv 24 954 rfl k24 (by decide) (c_film Inv hO p24 o iQ H hz hin hI hk)
      by_cases k25 : xQ = 25
      · exact g_tabv 25 997 rfl k25 (by decide) (c_copy Inv hO p25 o iQ H hz hin hI hk)
      have hd9 : xQ.toInt < 0 ∨ 25 < xQ.toInt := by
        have q0 := eNe_toInt k0
        have q1 := eNe_toInt k1
        have q2 := eNe_toInt k2
        have q3 := eNe_toInt k3
        have q4 := eNe_toInt k4
        have q5 := eNe_toInt k5
        have q6 := eNe_toInt k6
        have q7 := eNe_toInt k7
        have q8 := eNe_toInt k8
        have q9 := eNe_toInt k9
        have q10 := eNe_toInt k10
        have q11 := eNe_toInt k11
        have q12 := eNe_toInt k12
        have q13 := eNe_toInt k13
        have q14 := eNe_toInt k14
        have q15 := eNe_toInt k15
        have q16 := eNe_toInt k16
        have q17 := eNe_toInt k17
        have q18 := eNe_toInt k18
        have q19 := eNe_toInt k19
        have q20 := eNe_toInt k20
        have q21 := eNe_toInt k21
        have q22 := eNe_toInt k22
        have q23 := eNe_toInt k23
        have q24 := eNe_toInt k24
        have q25 := eNe_toInt k25
        rw [show (0 : Int32).toInt = 0 from by decide] at q0
        rw [show (1 : Int32).toInt = 1 from by decide] at q1
        rw [show (2 : Int32).toInt = 2 from by decide] at q2
        rw [show (3 : Int32).toInt = 3 from by decide] at q3
        rw [show (4 : Int32).toInt = 4 from by decide] at q4
        rw [show (5 : Int32).toInt = 5 from by decide] at q5
        rw [show (6 : Int32).toInt = 6 from by decide] at q6
        rw [show (7 : Int32).toInt = 7 from by decide] at q7
        rw [show (8 : Int32).toInt = 8 from by decide] at q8
        rw [show (9 : Int32).toInt = 9 from by decide] at q9
        rw [show (10 : Int32).toInt = 10 from by decide] at q10
        rw [show (11 : Int32).toInt = 11 from by decide] at q11
        rw [show (12 : Int32).toInt = 12 from by decide] at q12
        rw [show (13 : Int32).toInt = 13 from by decide] at q13
        rw [show (14 : Int32).toInt = 14 from by decide] at q14
        rw [show (15 : Int32).toInt = 15 from by decide] at q15
        rw [show (16 : Int32).toInt = 16 from by decide] at q16
        rw [show (17 : Int32).toInt = 17 from by decide] at q17
        rw [show (18 : Int32).toInt = 18 from by decide] at q18
        rw [show (19 : Int32).toInt = 19 from by decide] at q19
        rw [show (20 : Int32).toInt = 20 from by decide] at q20
        rw [show (21 : Int32).toInt = 21 from by decide] at q21
        rw [show (22 : Int32).toInt = 22 from by decide] at q22
        rw [show (23 : Int32).toInt = 23 from by decide] at q23
        rw [show (24 : Int32).toInt = 24 from by decide] at q24
        rw [show (25 : Int32).toInt = 25 from by decide] at q25
        omega
      exact g_tabd 1060 rfl hd9 (by decide) (hk H hI)
    · refine g_run 2 20 [some (.retAddr 0), some (.ref 0), some (.ref 49), some (.int (nI iQ))] [.retAddr 0, .int (nI iQ)] H rfl ?_
      refine g_slen rfl ?_
      refine g_run 2 24 [some (.retAddr 0), some (.ref 0), some (.ref 49), some (.int (nI iQ))] [.int (nI o.1 - 6), .int (nI iQ)] H rfl ?_
      refine g_icmp_gt rfl (fun _ => ?_) (fun c1 => absurd (lw_out hz (by omega) (by omega)) c1)
      show eG _ 202 1066 [some (.retAddr 0), some (.ref 0), some (.ref 49), some (.int (nI iQ))] [] H _
      refine g_run 1 1067 [some (.retAddr 0), some (.ref 0), some (.ref 49), some (.int (nI iQ))] [.int 1] H rfl ?_
      exact g_retiS rfl rfl rfl ⟨rfl, hB H hI⟩
/-- the claim's walk, out of an invariant and the pairs -/
theorem whole_pairs (Inv : eH → Prop) (h0 : Inv hpM) (hO : ∀ H, Inv H → ∃ fs, H[0]? = some (.inr (6, fs))) (hB : ∀ H, Inv H → H.length ≤ 600000 ∧ eTot H ≤ 7302250) (hPs : Pairs Inv) {p : Program} {e : Env} {s : State} {m : MethodId} {below : List Frame} {meth : Method} {c : Code} (l : Launch) {b L : Nat} {xs : Nat → Int32} (hL : L ≤ 3072) (C0 : lw_At p s m meth c b L xs) : W p l e room_1 s m #[Value.ref b] below meth c s.heap [] 0 0 (lw_Z below #[Value.ref b] s) (entryFrame m ([Value.ref b] : List Value).toArray 4) :=
  whole_open (fun L xs hL => l_law Inv hO hB hPs (L, xs) hL (L + 1) 0 hpM (by show L < 0 + 6 * (L + 1); omega) (by omega) h0) l hL C0
