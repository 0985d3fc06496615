theorem cp_all {f g : Nat → Int32} {n : Nat} : ∀ p, p < n → (fun j => if 0 ≤ j ∧ j < 0 + n then f (0 + (j - 0)) else g j) p = f p := by
  intro p hp
  show (if 0 ≤ p ∧ p < 0 + n then f (0 + (p - 0)) else g p) = f p
  rw [if_pos (by omega), show 0 + (p - 0) = p by omega]
theorem t_takeOver (o : eO) (t y : Nat) (T U : Tn) (H : eH) (hT : tnAt H t T) (hU : tnAt H y U) (hty : t + 7 ≤ y ∨ y + 7 ≤ t) : eG o 31 0 (eEnt 31 [.ref t, .ref y]) [] H (fun z => z.1 = none ∧ tnAt z.2 t U ∧ off t (t + 7) H z.2) := by
  show eG o 31 0 [some (.ref t), some (.ref y)] [] H _
  refine g_run 1 1 [some (.ref t), some (.ref y)] [.ref y] H rfl ?_
  refine g_getf rfl rfl hU.1 rfl ?_
  refine g_run 2 6 [some (.ref t), some (.ref y)] [.ref t, .int 0, .ref (y + 1)] H rfl ?_
  refine g_getf rfl rfl hT.1 rfl ?_
  refine g_run 2 12 [some (.ref t), some (.ref y)] [.int 8, .int 0, .ref (t + 1), .int 0, .ref (y + 1)] H rfl ?_
  show eG _ 31 12 [some (.ref t), some (.ref y)] [.int (nI 8), .int (nI 0), .ref (t + 1), .int (nI 0), .ref (y + 1)] H _
  refine g_cpy_a rfl rfl hU.2.1 hT.2.1 (by omega) (by omega) (by decide) (by decide) rfl (fun H1 q1 w1 => ?_)
  show eG _ 31 15 [some (.ref t), some (.ref y)] [] H1 _
  refine g_run 1 16 [some (.ref t), some (.ref y)] [.ref y] H1 rfl ?_
  refine g_getf rfl rfl (off_ob w1 hU.1 (by omega)) rfl ?_
  refine g_run 2 21 [some (.ref t), some (.ref y)] [.ref t, .int 0, .ref (y + 2)] H1 rfl ?_
  refine g_getf rfl rfl (off_ob w1 hT.1 (by omega)) rfl ?_
  refine g_run 2 27 [some (.ref t), some (.ref y)] [.int 8, .int 0, .ref (t + 2), .int 0, .ref (y + 2)] H1 rfl ?_
  show eG _ 31 27 [some (.ref t), some (.ref y)] [.int (nI 8), .int (nI 0), .ref (t + 2), .int (nI 0), .ref (y + 2)] H1 _
  refine g_cpy_a rfl rfl (off_ar w1 hU.2.2.1 (by omega)) (off_ar w1 hT.2.2.1 (by omega)) (by omega) (by omega) (by decide) (by decide) rfl (fun H2 q2 w2 => ?_)
  show eG _ 31 30 [some (.ref t), some (.ref y)] [] H2 _
  refine g_run 1 31 [some (.ref t), some (.ref y)] [.ref y] H2 rfl ?_
  refine g_getf rfl rfl (off_ob w2 (off_ob w1 hU.1 (by omega)) (by omega)) rfl ?_
  refine g_run 2 36 [some (.ref t), some (.ref y)] [.ref t, .int 0, .ref (y + 3)] H2 rfl ?_
  refine g_getf rfl rfl (off_ob w2 (off_ob w1 hT.1 (by omega)) (by omega)) rfl ?_
  refine g_run 2 42 [some (.ref t), some (.ref y)] [.int 8, .int 0, .ref (t + 3), .int 0, .ref (y + 3)] H2 rfl ?_
  show eG _ 31 42 [some (.ref t), some (.ref y)] [.int (nI 8), .int (nI 0), .ref (t + 3), .int (nI 0), .ref (y + 3)] H2 _
  refine g_cpy_a rfl rfl (off_ar w2 (off_ar w1 hU.2.2.2.1 (by omega)) (by omega)) (off_ar w2 (off_ar w1 hT.2.2.2.1 (by omega)) (by omega)) (by omega) (by omega) (by decide) (by decide) rfl (fun H3 q3 w3 => ?_)
  show eG _ 31 45 [some (.ref t), some (.ref y)] [] H3 _
  refine g_run 1 46 [some (.ref t), some (.ref y)] [.ref y] H3 rfl ?_
  refine g_getf rfl rfl (off_ob w3 (off_ob w2 (off_ob w1 hU.1 (by omega)) (by omega)) (by omega)) rfl ?_
  refine g_run 2 51 [some (.ref t), some (.ref y)] [.ref t, .int 0, .ref (y + 4)] H3 rfl ?_
  refine g_getf rfl rfl (off_ob w3 (off_ob w2 (off_ob w1 hT.1 (by omega)) (by omega)) (by omega)) rfl ?_
  refine g_run 2 57 [some (.ref t), some (.ref y)] [.int 8, .int 0, .ref (t + 4), .int 0, .ref (y + 4)] H3 rfl ?_
  show eG _ 31 57 [some (.ref t), some (.ref y)] [.int (nI 8), .int (nI 0), .ref (t + 4), .int (nI 0), .ref (y + 4)] H3 _
  refine g_cpy_a rfl rfl (off_ar w3 (off_ar w2 (off_ar w1 hU.2.2.2.2.1 (by omega)) (by omega)) (by omega)) (off_ar w3 (off_ar w2 (off_ar w1 hT.2.2.2.2.1 (by omega)) (by omega)) (by omega)) (by omega) (by omega) (by decide) (by decide) rfl (fun H4 q4 w4 => ?_)
  show eG _ 31 60 [some (.ref t), some (.ref y)] [] H4 _
  refine g_run 1 61 [some (.ref t), some (.ref y)] [.ref y] H4 rfl ?_
  refine g_getf rfl rfl (off_ob w4 (off_ob w3 (off_ob w2 (off_ob w1 hU.1 (by omega)) (by omega)) (by omega)) (by omega)) rfl ?_
  refine g_run 2 66 [some (.ref t), some (.ref y)] [.ref t, .int 0, .ref (y + 5)] H4 rfl ?_
  refine g_getf rfl rfl (off_ob w4 (off_ob w3 (off_ob w2 (off_ob w1 hT.1 (by omega)) (by omega)) (by omega)) (by omega)) rfl ?_
  refine g_run 2 72 [some (.ref t), some (.ref y)] [.int 8, .int 0, .ref (t + 5), .int 0, .ref (y + 5)] H4 rfl ?_
  show eG _ 31 72 [some (.ref t), some (.ref y)] [.int (nI 8), .int (nI 0), .ref (t + 5), .int (nI 0), .ref (y + 5)] H4 _
  refine g_cpy_a rfl rfl (off_ar w4 (off_ar w3 (off_ar w2 (off_ar w1 hU.2.2.2.2.2.1 (by omega)) (by omega)) (by omega)) (by omega)) (off_ar w4 (off_ar w3 (off_ar w2 (off_ar w1 hT.2.2.2.2.2.1 (by omega)) (by omega)) (by omega)) (by omega)) (by omega) (by omega) (by decide) (by decide) rfl (fun H5 q5 w5 => ?_)
  show eG _ 31 75 [some (.ref t), some (.ref y)] [] H5 _
  refine g_run 1 76 [some (.ref t), some (.ref y)] [.ref y] H5 rfl ?_
  refine g_getf rfl rfl (off_ob w5 (off_ob w4 (off_ob w3 (off_ob w2 (off_ob w1 hU.1 (by omega)) (by omega)) (by omega)) (by omega)) (by omega)) rfl ?_
  refine g_run 2 81 [some (.ref t), some (.ref y)] [.ref t, .int 0, .ref (y + 6)] H5 rfl ?_
  refine g_getf rfl rfl (off_ob w5 (off_ob w4 (off_ob w3 (off_ob w2 (off_ob w1 hT.1 (by omega)) (by omega)) (by omega)) (by omega)) (by omega)) rfl ?_
  refine g_run 2 86 [some (.ref t), some (.ref y)] [.int 4, .int 0, .ref (t + 6), .int 0, .ref (y + 6)] H5 rfl ?_
  show eG _ 31 86 [some (.ref t), some (.ref y)] [.int (nI 4), .int (nI 0), .ref (t + 6), .int (nI 0), .ref (y + 6)] H5 _
  refine g_cpy_a rfl rfl (off_ar w5 (off_ar w4 (off_ar w3 (off_ar w2 (off_ar w1 hU.2.2.2.2.2.2 (by omega)) (by omega)) (by omega)) (by omega)) (by omega)) (off_ar w5 (off_ar w4 (off_ar w3 (off_ar w2 (off_ar w1 hT.2.2.2.2.2.2 (by omega)) (by omega)) (by omega)) (by omega)) (by omega)) (by omega) (by omega) (by decide) (by decide) rfl (fun H6 q6 w6 => ?_)
  show eG _ 31 89 [some (.ref t), some (.ref y)] [] H6 _
  refine g_run 2 91 [some (.ref t), some (.ref y)] [.ref y, .ref t] H6 rfl ?_
  refine g_getf rfl rfl (off_ob w6 (off_ob w5 (off_ob w4 (off_ob w3 (off_ob w2 (off_ob w1 hU.1 (by omega)) (by omega)) (by omega)) (by omega)) (by omega)) (by omega)) rfl ?_
  refine g_putf_a rfl rfl (off_ob w6 (off_ob w5 (off_ob w4 (off_ob w3 (off_ob w2 (off_ob w1 hT.1 (by omega)) (by omega)) (by omega)) (by omega)) (by omega)) (by omega)) rfl rfl rfl rfl rfl (fun H7 q7 w7 => ?_)
  show eG _ 31 97 [some (.ref t), some (.ref y)] [] H7 _
  refine g_run 2 99 [some (.ref t), some (.ref y)] [.ref y, .ref t] H7 rfl ?_
  refine g_getf rfl rfl (off_ob w7 (off_ob w6 (off_ob w5 (off_ob w4 (off_ob w3 (off_ob w2 (off_ob w1 hU.1 (by omega)) (by omega)) (by omega)) (by omega)) (by omega)) (by omega)) (by omega)) rfl ?_
  refine g_putf_a rfl rfl q7 rfl rfl rfl rfl rfl (fun H8 q8 w8 => ?_)
  show eG _ 31 105 [some (.ref t), some (.ref y)] [] H8 _
  refine g_run 2 107 [some (.ref t), some (.ref y)] [.ref y, .ref t] H8 rfl ?_
  refine g_getf rfl rfl (off_ob w8 (off_ob w7 (off_ob w6 (off_ob w5 (off_ob w4 (off_ob w3 (off_ob w2 (off_ob w1 hU.1 (by omega)) (by omega)) (by omega)) (by omega)) (by omega)) (by omega)) (by omega)) (by omega)) rfl ?_
  refine g_putf_a rfl rfl q8 rfl rfl rfl rfl rfl (fun H9 q9 w9 => ?_)
  show eG _ 31 113 [some (.ref t), some (.ref y)] [] H9 _
  refine g_run 2 115 [some (.ref t), some (.ref y)] [.ref y, .ref t] H9 rfl ?_
  refine g_getf rfl rfl (off_ob w9 (off_ob w8 (off_ob w7 (off_ob w6 (off_ob w5 (off_ob w4 (off_ob w3 (off_ob w2 (off_ob w1 hU.1 (by omega)) (by omega)) (by omega)) (by omega)) (by omega)) (by omega)) (by omega)) (by omega)) (by omega)) rfl ?_
  refine g_putf_a rfl rfl q9 rfl rfl rfl rfl rfl (fun H10 q10 w10 => ?_)
  show eG _ 31 121 [some (.ref t), some (.ref y)] [] H10 _
  refine g_run 2 123 [some (.ref t), some (.ref y)] [.ref y, .ref t] H10 rfl ?_
  refine g_getf rfl rfl (off_ob w10 (off_ob w9 (off_ob w8 (off_ob w7 (off_ob w6 (off_ob w5 (off_ob w4 (off_ob w3 (off_ob w2 (off_ob w1 hU.1 (by omega)) (by omega)) (by omega)) (by omega)) (by omega)) (by omega)) (by omega)) (by omega)) (by omega)) (by omega)) rfl ?_
  refine g_putf_a rfl rfl q10 rfl rfl rfl rfl rfl (fun H11 q11 w11 => ?_)
  show eG _ 31 129 [some (.ref t), some (.ref y)] [] H11 _
  refine g_run 2 131 [some (.ref t), some (.ref y)] [.ref y, .ref t] H11 rfl ?_
  refine g_getf rfl rfl (off_ob w11 (off_ob w10 (off_ob w9 (off_ob w8 (off_ob w7 (off_ob w6 (off_ob w5 (off_ob w4 (off_ob w3 (off_ob w2 (off_ob w1 hU.1 (by omega)) (by omega)) (by omega)) (by omega)) (by omega)) (by omega)) (by omega)) (by omega)) (by omega)) (by omega)) (by omega)) rfl ?_
  refine g_putf_a rfl rfl q11 rfl rfl rfl rfl rfl (fun H12 q12 w12 => ?_)
  show eG _ 31 137 [some (.ref t), some (.ref y)] [] H12 _
  refine g_retv rfl rfl ⟨rfl, ?_, (off_trans (off_trans (off_trans (off_trans (off_trans (off_trans (off_trans (off_trans (off_trans (off_trans (off_trans (off_trans off_rfl (off_wide w1 (by omega) (by omega))) (off_wide w2 (by omega) (by omega))) (off_wide w3 (by omega) (by omega))) (off_wide w4 (by omega) (by omega))) (off_wide w5 (by omega) (by omega))) (off_wide w6 (by omega) (by omega))) (off_wide w7 (by omega) (by omega))) (off_wide w8 (by omega) (by omega))) (off_wide w9 (by omega) (by omega))) (off_wide w10 (by omega) (by omega))) (off_wide w11 (by omega) (by omega))) (off_wide w12 (by omega) (by omega)))⟩
  exact ⟨q12, (arN_ext (off_ar w12 (off_ar w11 (off_ar w10 (off_ar w9 (off_ar w8 (off_ar w7 (off_ar w6 (off_ar w5 (off_ar w4 (off_ar w3 (off_ar w2 q1 (by omega)) (by omega)) (by omega)) (by omega)) (by omega)) (by omega)) (by omega)) (by omega)) (by omega)) (by omega)) (by omega)) cp_all), (arN_ext (off_ar w12 (off_ar w11 (off_ar w10 (off_ar w9 (off_ar w8 (off_ar w7 (off_ar w6 (off_ar w5 (off_ar w4 (off_ar w3 q2 (by omega)) (by omega)) (by omega)) (by omega)) (by omega)) (by omega)) (by omega)) (by omega)) (by omega)) (by omega)) cp_all), (arN_ext (off_ar w12 (off_ar w11 (off_ar w10 (off_ar w9 (off_ar w8 (off_ar w7 (off_ar w6 (off_ar w5 (off_ar w4 q3 (by omega)) (by omega)) (by omega)) (by omega)) (by omega)) (by omega)) (by omega)) (by omega)) (by omega)) cp_all), (arN_ext (off_ar w12 (off_ar w11 (off_ar w10 (off_ar w9 (off_ar w8 (off_ar w7 (off_ar w6 (off_ar w5 q4 (by omega)) (by omega)) (by omega)) (by omega)) (by omega)) (by omega)) (by omega)) (by omega)) cp_all), (arN_ext (off_ar w12 (off_ar w11 (off_ar w10 (off_ar w9 (off_ar w8 (off_ar w7 (off_ar w6 q5 (by omega)) (by omega)) (by omega)) (by omega)) (by omega)) (by omega)) (by omega)) cp_all), (arN_ext (off_ar w12 (off_ar w11 (off_ar w10 (off_ar w9 (off_ar w8 (off_ar w7 q6 (by omega)) (by omega)) (by omega)) (by omega)) (by omega)) (by omega)) cp_all)⟩
