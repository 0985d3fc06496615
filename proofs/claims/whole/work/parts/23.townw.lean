/-! ===== Town: what is written ===== -/
def tR (T : Tn) (i : Nat) (f : Nat → Int32) : Tn := (fun j => if j = i then f else T.1 j, T.2)
def tV (T : Tn) (i : Nat) (v : Int32) : Tn := (T.1, fun j => if j = i then v else T.2.1 j, T.2.2)
def tC (T : Tn) (n m : Nat) : Tn := (T.1, T.2.1, n, m)
theorem tn_off {lo hi t : Nat} {T : Tn} {H H1 : eH} (h : off lo hi H H1) (hT : tnAt H t T) (ha : t + 7 ≤ lo ∨ hi ≤ t) : tnAt H1 t T := ⟨off_ob h hT.1 (by omega), off_ar h hT.2.1 (by omega), off_ar h hT.2.2.1 (by omega), off_ar h hT.2.2.2.1 (by omega), off_ar h hT.2.2.2.2.1 (by omega), off_ar h hT.2.2.2.2.2.1 (by omega), off_ar h hT.2.2.2.2.2.2 (by omega)⟩
theorem t_raze (o : eO) (t : Nat) (T : Tn) (H : eH) (hT : tnAt H t T) : eG o 32 0 (eEnt 32 [.ref t]) [] H (fun z => z.1 = none ∧ tnAt z.2 t (tC (tV (tV T 0 0) 1 0) 0 0) ∧ off t (t + 7) H z.2) := by
  show eG o 32 0 [some (.ref t)] [] H _
  refine g_run 2 2 [some (.ref t)] [.int 0, .ref t] H rfl ?_
  refine g_putf_a rfl rfl hT.1 rfl rfl rfl rfl rfl (fun H1 q1 w1 => ?_)
  show eG _ 32 5 [some (.ref t)] [] H1 _
  refine g_run 2 7 [some (.ref t)] [.int 0, .ref t] H1 rfl ?_
  refine g_putf_a rfl rfl q1 rfl rfl rfl rfl rfl (fun H2 q2 w2 => ?_)
  show eG _ 32 10 [some (.ref t)] [] H2 _
  refine g_run 2 12 [some (.ref t)] [.int 0, .ref t] H2 rfl ?_
  refine g_putf_a rfl rfl q2 rfl rfl rfl rfl rfl (fun H3 q3 w3 => ?_)
  show eG _ 32 15 [some (.ref t)] [] H3 _
  refine g_run 2 17 [some (.ref t)] [.int 0, .ref t] H3 rfl ?_
  refine g_putf_a rfl rfl q3 rfl rfl rfl rfl rfl (fun H4 q4 w4 => ?_)
  show eG _ 32 20 [some (.ref t)] [] H4 _
  refine g_retv rfl rfl ⟨rfl, ?_, (off_trans (off_trans (off_trans (off_trans off_rfl (off_wide w1 (by omega) (by omega))) (off_wide w2 (by omega) (by omega))) (off_wide w3 (by omega) (by omega))) (off_wide w4 (by omega) (by omega)))⟩
  exact ⟨q4, (off_ar w4 (off_ar w3 (off_ar w2 (off_ar w1 hT.2.1 (by omega)) (by omega)) (by omega)) (by omega)), (off_ar w4 (off_ar w3 (off_ar w2 (off_ar w1 hT.2.2.1 (by omega)) (by omega)) (by omega)) (by omega)), (off_ar w4 (off_ar w3 (off_ar w2 (off_ar w1 hT.2.2.2.1 (by omega)) (by omega)) (by omega)) (by omega)), (off_ar w4 (off_ar w3 (off_ar w2 (off_ar w1 hT.2.2.2.2.1 (by omega)) (by omega)) (by omega)) (by omega)), (off_ar w4 (off_ar w3 (off_ar w2 (off_ar w1 hT.2.2.2.2.2.1 (by omega)) (by omega)) (by omega)) (by omega)), (off_ar w4 (off_ar w3 (off_ar w2 (off_ar w1 hT.2.2.2.2.2.2 (by omega)) (by omega)) (by omega)) (by omega))⟩
theorem t_addPerson (o : eO) (t : Nat) (T : Tn) (s : Int32) (H : eH) (hT : tnAt H t T) (hm : T.2.2.2 < 4) : eG o 23 0 (eEnt 23 [.ref t, .int s]) [] H (fun z => z.1 = none ∧ tnAt z.2 t (tC (tR T 5 (upd (T.1 5) T.2.2.2 s)) T.2.2.1 (T.2.2.2 + 1)) ∧ off t (t + 7) H z.2) := by
  show eG o 23 0 [some (.ref t), some (.int s)] [] H _
  refine g_run 1 1 [some (.ref t), some (.int s)] [.ref t] H rfl ?_
  refine g_getf rfl rfl hT.1 rfl ?_
  refine g_run 1 5 [some (.ref t), some (.int s)] [.ref t, .ref (t + 6)] H rfl ?_
  refine g_getf rfl rfl hT.1 rfl ?_
  refine g_run 1 9 [some (.ref t), some (.int s)] [.int s, .int (nI T.2.2.2), .ref (t + 6)] H rfl ?_
  refine g_iast_a rfl hT.2.2.2.2.2.2 (by omega) (by decide) (fun H1 q1 w1 => ?_)
  show eG _ 23 10 [some (.ref t), some (.int s)] [] H1 _
  refine g_run 2 12 [some (.ref t), some (.int s)] [.ref t, .ref t] H1 rfl ?_
  refine g_getf rfl rfl (off_ob w1 hT.1 (by omega)) rfl ?_
  refine g_run 2 17 [some (.ref t), some (.int s)] [.int (nI T.2.2.2 + nI 1), .ref t] H1 rfl ?_
  refine g_top (nI_add T.2.2.2 1) ?_
  refine g_putf_a rfl rfl (off_ob w1 hT.1 (by omega)) rfl rfl rfl rfl rfl (fun H2 q2 w2 => ?_)
  show eG _ 23 20 [some (.ref t), some (.int s)] [] H2 _
  refine g_retv rfl rfl ⟨rfl, ?_, (off_trans (off_trans off_rfl (off_wide w1 (by omega) (by omega))) (off_wide w2 (by omega) (by omega)))⟩
  exact ⟨q2, (off_ar w2 (off_ar w1 hT.2.1 (by omega)) (by omega)), (off_ar w2 (off_ar w1 hT.2.2.1 (by omega)) (by omega)), (off_ar w2 (off_ar w1 hT.2.2.2.1 (by omega)) (by omega)), (off_ar w2 (off_ar w1 hT.2.2.2.2.1 (by omega)) (by omega)), (off_ar w2 (off_ar w1 hT.2.2.2.2.2.1 (by omega)) (by omega)), (off_ar w2 q1 (by omega))⟩
theorem t_addPart (o : eO) (t : Nat) (T : Tn) (a b c d e : Int32) (H : eH) (hT : tnAt H t T) (hn : T.2.2.1 < 8) : eG o 15 0 (eEnt 15 [.ref t, .int a, .int b, .int c, .int d, .int e]) [] H (fun z => z.1 = none ∧ tnAt z.2 t (tC (tR (tR (tR (tR (tR T 0 (upd (T.1 0) T.2.2.1 a)) 1 (upd (T.1 1) T.2.2.1 b)) 2 (upd (T.1 2) T.2.2.1 c)) 3 (upd (T.1 3) T.2.2.1 d)) 4 (upd (T.1 4) T.2.2.1 e)) (T.2.2.1 + 1) T.2.2.2) ∧ off t (t + 7) H z.2) := by
  show eG o 15 0 [some (.ref t), some (.int a), some (.int b), some (.int c), some (.int d), some (.int e)] [] H _
  refine g_run 1 1 [some (.ref t), some (.int a), some (.int b), some (.int c), some (.int d), some (.int e)] [.ref t] H rfl ?_
  refine g_getf rfl rfl hT.1 rfl ?_
  refine g_run 1 5 [some (.ref t), some (.int a), some (.int b), some (.int c), some (.int d), some (.int e)] [.ref t, .ref (t + 1)] H rfl ?_
  refine g_getf rfl rfl hT.1 rfl ?_
  refine g_run 1 9 [some (.ref t), some (.int a), some (.int b), some (.int c), some (.int d), some (.int e)] [.int a, .int (nI T.2.2.1), .ref (t + 1)] H rfl ?_
  refine g_iast_a rfl hT.2.1 (by omega) (by decide) (fun H1 q1 w1 => ?_)
  show eG _ 15 10 [some (.ref t), some (.int a), some (.int b), some (.int c), some (.int d), some (.int e)] [] H1 _
  refine g_run 1 11 [some (.ref t), some (.int a), some (.int b), some (.int c), some (.int d), some (.int e)] [.ref t] H1 rfl ?_
  refine g_getf rfl rfl (off_ob w1 hT.1 (by omega)) rfl ?_
  refine g_run 1 15 [some (.ref t), some (.int a), some (.int b), some (.int c), some (.int d), some (.int e)] [.ref t, .ref (t + 2)] H1 rfl ?_
  refine g_getf rfl rfl (off_ob w1 hT.1 (by omega)) rfl ?_
  refine g_run 1 19 [some (.ref t), some (.int a), some (.int b), some (.int c), some (.int d), some (.int e)] [.int b, .int (nI T.2.2.1), .ref (t + 2)] H1 rfl ?_
  refine g_iast_a rfl (off_ar w1 hT.2.2.1 (by omega)) (by omega) (by decide) (fun H2 q2 w2 => ?_)
  show eG _ 15 20 [some (.ref t), some (.int a), some (.int b), some (.int c), some (.int d), some (.int e)] [] H2 _
  refine g_run 1 21 [some (.ref t), some (.int a), some (.int b), some (.int c), some (.int d), some (.int e)] [.ref t] H2 rfl ?_
  refine g_getf rfl rfl (off_ob w2 (off_ob w1 hT.1 (by omega)) (by omega)) rfl ?_
  refine g_run 1 25 [some (.ref t), some (.int a), some (.int b), some (.int c), some (.int d), some (.int e)] [.ref t, .ref (t + 3)] H2 rfl ?_
  refine g_getf rfl rfl (off_ob w2 (off_ob w1 hT.1 (by omega)) (by omega)) rfl ?_
  refine g_run 1 29 [some (.ref t), some (.int a), some (.int b), some (.int c), some (.int d), some (.int e)] [.int c, .int (nI T.2.2.1), .ref (t + 3)] H2 rfl ?_
  refine g_iast_a rfl (off_ar w2 (off_ar w1 hT.2.2.2.1 (by omega)) (by omega)) (by omega) (by decide) (fun H3 q3 w3 => ?_)
  show eG _ 15 30 [some (.ref t), some (.int a), some (.int b), some (.int c), some (.int d), some (.int e)] [] H3 _
  refine g_run 1 31 [some (.ref t), some (.int a), some (.int b), some (.int c), some (.int d), some (.int e)] [.ref t] H3 rfl ?_
  refine g_getf rfl rfl (off_ob w3 (off_ob w2 (off_ob w1 hT.1 (by omega)) (by omega)) (by omega)) rfl ?_
  refine g_run 1 35 [some (.ref t), some (.int a), some (.int b), some (.int c), some (.int d), some (.int e)] [.ref t, .ref (t + 4)] H3 rfl ?_
  refine g_getf rfl rfl (off_ob w3 (off_ob w2 (off_ob w1 hT.1 (by omega)) (by omega)) (by omega)) rfl ?_
  refine g_run 1 40 [some (.ref t), some (.int a), some (.int b), some (.int c), some (.int d), some (.int e)] [.int d, .int (nI T.2.2.1), .ref (t + 4)] H3 rfl ?_
  refine g_iast_a rfl (off_ar w3 (off_ar w2 (off_ar w1 hT.2.2.2.2.1 (by omega)) (by omega)) (by omega)) (by omega) (by decide) (fun H4 q4 w4 => ?_)
  show eG _ 15 41 [some (.ref t), some (.int a), some (.int b), some (.int c), some (.int d), some (.int e)] [] H4 _
  refine g_run 1 42 [some (.ref t), some (.int a), some (.int b), some (.int c), some (.int d), some (.int e)] [.ref t] H4 rfl ?_
  refine g_getf rfl rfl (off_ob w4 (off_ob w3 (off_ob w2 (off_ob w1 hT.1 (by omega)) (by omega)) (by omega)) (by omega)) rfl ?_
  refine g_run 1 46 [some (.ref t), some (.int a), some (.int b), some (.int c), some (.int d), some (.int e)] [.ref t, .ref (t + 5)] H4 rfl ?_
  refine g_getf rfl rfl (off_ob w4 (off_ob w3 (off_ob w2 (off_ob w1 hT.1 (by omega)) (by omega)) (by omega)) (by omega)) rfl ?_
  refine g_run 1 51 [some (.ref t), some (.int a), some (.int b), some (.int c), some (.int d), some (.int e)] [.int e, .int (nI T.2.2.1), .ref (t + 5)] H4 rfl ?_
  refine g_iast_a rfl (off_ar w4 (off_ar w3 (off_ar w2 (off_ar w1 hT.2.2.2.2.2.1 (by omega)) (by omega)) (by omega)) (by omega)) (by omega) (by decide) (fun H5 q5 w5 => ?_)
  show eG _ 15 52 [some (.ref t), some (.int a), some (.int b), some (.int c), some (.int d), some (.int e)] [] H5 _
  refine g_run 2 54 [some (.ref t), some (.int a), some (.int b), some (.int c), some (.int d), some (.int e)] [.ref t, .ref t] H5 rfl ?_
  refine g_getf rfl rfl (off_ob w5 (off_ob w4 (off_ob w3 (off_ob w2 (off_ob w1 hT.1 (by omega)) (by omega)) (by omega)) (by omega)) (by omega)) rfl ?_
  refine g_run 2 59 [some (.ref t), some (.int a), some (.int b), some (.int c), some (.int d), some (.int e)] [.int (nI T.2.2.1 + nI 1), .ref t] H5 rfl ?_
  refine g_top (nI_add T.2.2.1 1) ?_
  refine g_putf_a rfl rfl (off_ob w5 (off_ob w4 (off_ob w3 (off_ob w2 (off_ob w1 hT.1 (by omega)) (by omega)) (by omega)) (by omega)) (by omega)) rfl rfl rfl rfl rfl (fun H6 q6 w6 => ?_)
  show eG _ 15 62 [some (.ref t), some (.int a), some (.int b), some (.int c), some (.int d), some (.int e)] [] H6 _
  refine g_retv rfl rfl ⟨rfl, ?_, (off_trans (off_trans (off_trans (off_trans (off_trans (off_trans off_rfl (off_wide w1 (by omega) (by omega))) (off_wide w2 (by omega) (by omega))) (off_wide w3 (by omega) (by omega))) (off_wide w4 (by omega) (by omega))) (off_wide w5 (by omega) (by omega))) (off_wide w6 (by omega) (by omega)))⟩
  exact ⟨q6, (off_ar w6 (off_ar w5 (off_ar w4 (off_ar w3 (off_ar w2 q1 (by omega)) (by omega)) (by omega)) (by omega)) (by omega)), (off_ar w6 (off_ar w5 (off_ar w4 (off_ar w3 q2 (by omega)) (by omega)) (by omega)) (by omega)), (off_ar w6 (off_ar w5 (off_ar w4 q3 (by omega)) (by omega)) (by omega)), (off_ar w6 (off_ar w5 q4 (by omega)) (by omega)), (off_ar w6 q5 (by omega)), (off_ar w6 (off_ar w5 (off_ar w4 (off_ar w3 (off_ar w2 (off_ar w1 hT.2.2.2.2.2.2 (by omega)) (by omega)) (by omega)) (by omega)) (by omega)) (by omega))⟩
theorem t_pass (o : eO) (t : Nat) (T : Tn) (g c : Int32) (H : eH) (hT : tnAt H t T) (hn : T.2.2.1 ≤ 8) : eG o 58 0 (eEnt 58 [.ref t, .int g, .int c]) [] H (fun z => z.1 = none ∧ tnAt z.2 t (tV (tV T 2 (if overF T g c T.2.2.1 < 999 then overF T g c T.2.2.1 else 999)) 0 ((T.2.1 0 &&& (g ^^^ (-1))) ||| c)) ∧ off t (t + 7) H z.2) := by
  show eG o 58 0 [some (.ref t), some (.int g), some (.int c)] [] H _
  refine g_run 5 7 [some (.ref t), some (.int g), some (.int c)] [.int c, .int g, .ref t, .int 999, .ref t] H rfl ?_
  refine g_vir rfl rfl rfl hT.1 rfl rfl (t_over o t T _ _ H hT hn) rfl ?_
  show eG _ 58 10 [some (.ref t), some (.int g), some (.int c)] [.int (overF T g c T.2.2.1), .int 999, .ref t] H _
  refine g_run 1 13 [some (.ref t), some (.int g), some (.int c)] [.int (if (overF T g c T.2.2.1) < 999 then (overF T g c T.2.2.1) else 999), .ref t] H rfl ?_
  refine g_putf_a rfl rfl hT.1 rfl rfl rfl rfl rfl (fun H1 q1 w1 => ?_)
  show eG _ 58 16 [some (.ref t), some (.int g), some (.int c)] [] H1 _
  refine g_run 2 18 [some (.ref t), some (.int g), some (.int c)] [.ref t, .ref t] H1 rfl ?_
  refine g_getf rfl rfl q1 rfl ?_
  refine g_run 6 27 [some (.ref t), some (.int g), some (.int c)] [.int (((T.2.1 0) &&& (g ^^^ (-1))) ||| c), .ref t] H1 rfl ?_
  refine g_putf_a rfl rfl q1 rfl rfl rfl rfl rfl (fun H2 q2 w2 => ?_)
  show eG _ 58 30 [some (.ref t), some (.int g), some (.int c)] [] H2 _
  refine g_retv rfl rfl ⟨rfl, ?_, (off_trans (off_trans off_rfl (off_wide w1 (by omega) (by omega))) (off_wide w2 (by omega) (by omega)))⟩
  exact ⟨q2, (off_ar w2 (off_ar w1 hT.2.1 (by omega)) (by omega)), (off_ar w2 (off_ar w1 hT.2.2.1 (by omega)) (by omega)), (off_ar w2 (off_ar w1 hT.2.2.2.1 (by omega)) (by omega)), (off_ar w2 (off_ar w1 hT.2.2.2.2.1 (by omega)) (by omega)), (off_ar w2 (off_ar w1 hT.2.2.2.2.2.1 (by omega)) (by omega)), (off_ar w2 (off_ar w1 hT.2.2.2.2.2.2 (by omega)) (by omega))⟩
