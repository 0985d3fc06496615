def fP_readTown_1 : Nat → ZS → Int → Option ((Int × ZS) ⊕ (ZS))
  | 0, _, _ => none
  | n + 1, S, l2 => gC l2 8 (if 8 < l2 then some (.inr S) else (fP_readPart n S).bind fun z1 => gC z1.1 0 (if z1.1 = 0 then gB 0 (some (.inl (0, z1.2))) else (fP_next n z1.2).bind fun z2 => gC z2.1 0 (if z2.1 = 0 then gB 1 (some (.inl (1, z2.2))) else gC l2 8 (if l2 = 8 then gB 0 (some (.inl (0, z2.2))) else (fP_take n z2.2 44).bind fun z3 => gC z3.1 0 (if z3.1 = 0 then gB 0 (some (.inl (0, z3.2))) else fP_readTown_1 n z3.2 (l2 + 1))))))
set_option maxRecDepth 100000 in
set_option maxHeartbeats 4000000 in
theorem sP_readTown_1 (o : eO) : ∀ (n : Nat) (S : ZS) (l2 : Int) {w : (Int × ZS) ⊕ (ZS)} {r : eP} (h : fP_readTown_1 n S l2 = some w) (hr : ∀ v, w = .inl v → r (some (.int (zI v.1)), rd v.2)) (hk : ∀ x, w = .inr x → eG o 33 55 [none, none, none] [] (rd x) r), eG o 33 7 [some (.ref 22), some (.ref 15), some (.int (zI l2))] [] (rd S) r := by
  intro n
  induction n with
  | zero => intro S l2 w r h hr hk; unfold fP_readTown_1 at h; cases h
  | succ n ih =>
    intro S l2 w r h hr hk
    unfold fP_readTown_1 at h
    refine g_run 2 10 [some (.ref 22), some (.ref 15), some (.int (zI l2))] [.int (zI 8), .int (zI l2)] (rd S) rfl ?_
    refine s_icmp_gt rfl h (fun h => ?_) (fun h => ?_)
    · show eG _ 33 55 [some (.ref 22), some (.ref 15), some (.int (zI l2))] [] (rd S) _
      refine g_fgt [true, true, true] ?_
      show eG _ 33 55 [none, none, none] [] (rd S) _
      cases h
      exact hk _ rfl
    · show eG _ 33 13 [some (.ref 22), some (.ref 15), some (.int (zI l2))] [] (rd S) _
      refine g_run 2 15 [some (.ref 22), some (.ref 15), some (.int (zI l2))] [.ref 15, .ref 22] (rd S) rfl ?_
      refine s_vir (fun z => some (.int (zI z.1))) (fun z => rd z.2) rfl rfl rfl (rd_o22 _) rfl rfl (fun z hz => sP_readPart o n S hz) rfl h (fun z1 h => ?_)
      show eG _ 33 18 [some (.ref 22), some (.ref 15), some (.int (zI l2))] [.int (zI z1.1)] (rd z1.2) _
      refine s_if_ne rfl h (fun h => ?_) (fun h => ?_)
      · show eG _ 33 23 [some (.ref 22), some (.ref 15), some (.int (zI l2))] [] (rd z1.2) _
        refine g_run 1 24 [some (.ref 22), some (.ref 15), some (.int (zI l2))] [.ref 22] (rd z1.2) rfl ?_
        refine s_vir (fun z => some (.int (zI z.1))) (fun z => rd z.2) rfl rfl rfl (rd_o22 _) rfl rfl (fun z hz => sP_next o n z1.2 hz) rfl h (fun z2 h => ?_)
        show eG _ 33 27 [some (.ref 22), some (.ref 15), some (.int (zI l2))] [.int (zI z2.1)] (rd z2.2) _
        refine s_if_ne rfl h (fun h => ?_) (fun h => ?_)
        · show eG _ 33 32 [some (.ref 22), some (.ref 15), some (.int (zI l2))] [] (rd z2.2) _
          refine g_run 2 35 [some (.ref 22), some (.ref 15), some (.int (zI l2))] [.int (zI 8), .int (zI l2)] (rd z2.2) rfl ?_
          refine s_icmp_eq rfl h (fun h => ?_) (fun h => ?_)
          · show eG _ 33 47 [some (.ref 22), some (.ref 15), some (.int (zI l2))] [] (rd z2.2) _
            refine g_run 1 48 [some (.ref 22), some (.ref 15), some (.int (zI l2))] [.int (zI 0)] (rd z2.2) rfl ?_
            exact s_retB rfl rfl h (fun h => by cases h; exact hr _ rfl)
          · show eG _ 33 38 [some (.ref 22), some (.ref 15), some (.int (zI l2))] [] (rd z2.2) _
            refine g_run 2 41 [some (.ref 22), some (.ref 15), some (.int (zI l2))] [.int (zI 44), .ref 22] (rd z2.2) rfl ?_
            refine s_vir (fun z => some (.int (zI z.1))) (fun z => rd z.2) rfl rfl rfl (rd_o22 _) rfl rfl (fun z hz => sP_take o n z2.2 44 hz) rfl h (fun z3 h => ?_)
            show eG _ 33 44 [some (.ref 22), some (.ref 15), some (.int (zI l2))] [.int (zI z3.1)] (rd z3.2) _
            refine s_if_ne rfl h (fun h => ?_) (fun h => ?_)
            · show eG _ 33 49 [some (.ref 22), some (.ref 15), some (.int (zI l2))] [] (rd z3.2) _
              refine s_iinc (L' := [some (.ref 22), some (.ref 15), some (.int (zI (l2 + 1)))]) rfl rfl rfl ?_
              refine g_run 1 7 [some (.ref 22), some (.ref 15), some (.int (zI (l2 + 1)))] [] (rd z3.2) rfl ?_
              exact ih z3.2 (l2 + 1) h hr hk
            · show eG _ 33 47 [some (.ref 22), some (.ref 15), some (.int (zI l2))] [] (rd z3.2) _
              refine g_run 1 48 [some (.ref 22), some (.ref 15), some (.int (zI l2))] [.int (zI 0)] (rd z3.2) rfl ?_
              exact s_retB rfl rfl h (fun h => by cases h; exact hr _ rfl)
        · show eG _ 33 30 [some (.ref 22), some (.ref 15), some (.int (zI l2))] [] (rd z2.2) _
          refine g_run 1 31 [some (.ref 22), some (.ref 15), some (.int (zI l2))] [.int (zI 1)] (rd z2.2) rfl ?_
          exact s_retB rfl rfl h (fun h => by cases h; exact hr _ rfl)
      · show eG _ 33 21 [some (.ref 22), some (.ref 15), some (.int (zI l2))] [] (rd z1.2) _
        refine g_run 1 22 [some (.ref 22), some (.ref 15), some (.int (zI l2))] [.int (zI 0)] (rd z1.2) rfl ?_
        exact s_retB rfl rfl h (fun h => by cases h; exact hr _ rfl)
def fP_readTown (n : Nat) (S : ZS) : Option (Int × ZS) := zR (fP_readTown_1 n (wF S 22 2 0) 1) fun z1 => gB 0 (some (0, z1))
set_option maxRecDepth 100000 in
set_option maxHeartbeats 4000000 in
theorem sP_readTown (o : eO) (n : Nat) (S : ZS) {w : Int × ZS} (h : fP_readTown n S = some w) : eG o 33 0 (eEnt 33 [.ref 22, .ref 15]) [] (rd S) (rv (some (.int (zI w.1))) (rd w.2)) := by
  unfold fP_readTown at h
  show eG o 33 0 [some (.ref 22), some (.ref 15), none] [] (rd S) _
  refine g_run 2 2 [some (.ref 22), some (.ref 15), none] [.int (zI 0), .ref 22] (rd S) rfl ?_
  refine s_putf rfl rfl (rd_o22 _) rfl rfl rfl rfl rfl (rw_o22_2 _ _) ?_
  show eG _ 33 5 [some (.ref 22), some (.ref 15), none] [] (rd (wF S 22 2 0)) _
  refine g_run 2 7 [some (.ref 22), some (.ref 15), some (.int (zI 1))] [] (rd (wF S 22 2 0)) rfl ?_
  rcases zR_inv h with h1 | ⟨z1, h1, h⟩
  · exact sP_readTown_1 o n (wF S 22 2 0) 1 h1 (fun v e => by cases e; rfl) (fun x e => by cases e)
  refine sP_readTown_1 o n (wF S 22 2 0) 1 h1 (fun v e => by cases e) (fun x e => ?_)
  cases e
  show eG _ 33 55 [none, none, none] [] (rd z1) _
  refine g_run 1 56 [none, none, none] [.int (zI 0)] (rd z1) rfl ?_
  exact s_retB rfl rfl h (fun h => by cases h; exact rfl)
def fP_empty (n : Nat) (S : ZS) : Option (ZS) := some (wF (wF S 22 1 0) 22 2 0)
set_option maxRecDepth 100000 in
set_option maxHeartbeats 4000000 in
theorem sP_empty (o : eO) (n : Nat) (S : ZS) {w : ZS} (h : fP_empty n S = some w) : eG o 44 0 (eEnt 44 [.ref 22]) [] (rd S) (rv (none) (rd w)) := by
  unfold fP_empty at h
  show eG o 44 0 [some (.ref 22)] [] (rd S) _
  refine g_run 2 2 [some (.ref 22)] [.int (zI 0), .ref 22] (rd S) rfl ?_
  refine s_putf rfl rfl (rd_o22 _) rfl rfl rfl rfl rfl (rw_o22_1 _ _) ?_
  show eG _ 44 5 [some (.ref 22)] [] (rd (wF S 22 1 0)) _
  refine g_run 2 7 [some (.ref 22)] [.int (zI 0), .ref 22] (rd (wF S 22 1 0)) rfl ?_
  refine s_putf rfl rfl (rd_o22 _) rfl rfl rfl rfl rfl (rw_o22_2 _ _) ?_
  show eG _ 44 10 [some (.ref 22)] [] (rd (wF (wF S 22 1 0) 22 2 0)) _
  cases h
  exact g_retv rfl rfl rfl
def fT_takeOver_1_15 (n : Nat) (S : ZS) : Option (ZS) := gY 0 0 8 8 8 (gY 0 0 8 8 8 (gY 0 0 8 8 8 (gY 0 0 8 8 8 (gY 0 0 8 8 8 (gY 0 0 4 4 4 (some (wF (wF (wF (wF (wF (wF (wR (wR (wR (wR (wR (wR S 2 (zc (S.1 16) (S.1 2) 0 0 8)) 3 (zc (S.1 17) (S.1 3) 0 0 8)) 4 (zc (S.1 18) (S.1 4) 0 0 8)) 5 (zc (S.1 19) (S.1 5) 0 0 8)) 6 (zc (S.1 20) (S.1 6) 0 0 8)) 7 (zc (S.1 21) (S.1 7) 0 0 4)) 1 6 (zF S 15 6)) 1 7 (zF S 15 7)) 1 8 (zF S 15 8)) 1 9 (zF S 15 9)) 1 10 (zF S 15 10)) 1 11 (zF S 15 11))))))))
set_option maxRecDepth 100000 in
set_option maxHeartbeats 4000000 in
theorem sT_takeOver_1_15 (o : eO) (n : Nat) (S : ZS) {w : ZS} (h : fT_takeOver_1_15 n S = some w) : eG o 31 0 (eEnt 31 [.ref 1, .ref 15]) [] (rd S) (rv (none) (rd w)) := by
  unfold fT_takeOver_1_15 at h
  show eG o 31 0 [some (.ref 1), some (.ref 15)] [] (rd S) _
  refine g_run 1 1 [some (.ref 1), some (.ref 15)] [.ref 15] (rd S) rfl ?_
  refine g_getf rfl rfl (rd_o15 _) rfl ?_
  show eG _ 31 4 [some (.ref 1), some (.ref 15)] [.ref 16] (rd S) _
  refine g_run 2 6 [some (.ref 1), some (.ref 15)] [.ref 1, .int (zI 0), .ref 16] (rd S) rfl ?_
  refine g_getf rfl rfl (rd_o1 _) rfl ?_
  show eG _ 31 9 [some (.ref 1), some (.ref 15)] [.ref 2, .int (zI 0), .ref 16] (rd S) _
  refine g_run 2 12 [some (.ref 1), some (.ref 15)] [.int (zI 8), .int (zI 0), .ref 2, .int (zI 0), .ref 16] (rd S) rfl ?_
  refine s_cpy rfl rfl (rd_a16 _) (rd_a2 _) rfl (rw_a2 _ _) h (fun h => ?_)
  show eG _ 31 15 [some (.ref 1), some (.ref 15)] [] (rd (wR S 2 (zc (S.1 16) (S.1 2) 0 0 8))) _
  refine g_run 1 16 [some (.ref 1), some (.ref 15)] [.ref 15] (rd (wR S 2 (zc (S.1 16) (S.1 2) 0 0 8))) rfl ?_
  refine g_getf rfl rfl (rd_o15 _) rfl ?_
  show eG _ 31 19 [some (.ref 1), some (.ref 15)] [.ref 17] (rd (wR S 2 (zc (S.1 16) (S.1 2) 0 0 8))) _
  refine g_run 2 21 [some (.ref 1), some (.ref 15)] [.ref 1, .int (zI 0), .ref 17] (rd (wR S 2 (zc (S.1 16) (S.1 2) 0 0 8))) rfl ?_
  refine g_getf rfl rfl (rd_o1 _) rfl ?_
  show eG _ 31 24 [some (.ref 1), some (.ref 15)] [.ref 3, .int (zI 0), .ref 17] (rd (wR S 2 (zc (S.1 16) (S.1 2) 0 0 8))) _
  refine g_run 2 27 [some (.ref 1), some (.ref 15)] [.int (zI 8), .int (zI 0), .ref 3, .int (zI 0), .ref 17] (rd (wR S 2 (zc (S.1 16) (S.1 2) 0 0 8))) rfl ?_
  refine s_cpy rfl rfl (rd_a17 _) (rd_a3 _) rfl (rw_a3 _ _) h (fun h => ?_)
  show eG _ 31 30 [some (.ref 1), some (.ref 15)] [] (rd (wR (wR S 2 (zc (S.1 16) (S.1 2) 0 0 8)) 3 (zc (S.1 17) (S.1 3) 0 0 8))) _
  refine g_run 1 31 [some (.ref 1), some (.ref 15)] [.ref 15] (rd (wR (wR S 2 (zc (S.1 16) (S.1 2) 0 0 8)) 3 (zc (S.1 17) (S.1 3) 0 0 8))) rfl ?_
  refine g_getf rfl rfl (rd_o15 _) rfl ?_
  show eG _ 31 34 [some (.ref 1), some (.ref 15)] [.ref 18] (rd (wR (wR S 2 (zc (S.1 16) (S.1 2) 0 0 8)) 3 (zc (S.1 17) (S.1 3) 0 0 8))) _
  refine g_run 2 36 [some (.ref 1), some (.ref 15)] [.ref 1, .int (zI 0), .ref 18] (rd (wR (wR S 2 (zc (S.1 16) (S.1 2) 0 0 8)) 3 (zc (S.1 17) (S.1 3) 0 0 8))) rfl ?_
  refine g_getf rfl rfl (rd_o1 _) rfl ?_
  show eG _ 31 39 [some (.ref 1), some (.ref 15)] [.ref 4, .int (zI 0), .ref 18] (rd (wR (wR S 2 (zc (S.1 16) (S.1 2) 0 0 8)) 3 (zc (S.1 17) (S.1 3) 0 0 8))) _
  refine g_run 2 42 [some (.ref 1), some (.ref 15)] [.int (zI 8), .int (zI 0), .ref 4, .int (zI 0), .ref 18] (rd (wR (wR S 2 (zc (S.1 16) (S.1 2) 0 0 8)) 3 (zc (S.1 17) (S.1 3) 0 0 8))) rfl ?_
  refine s_cpy rfl rfl (rd_a18 _) (rd_a4 _) rfl (rw_a4 _ _) h (fun h => ?_)
  show eG _ 31 45 [some (.ref 1), some (.ref 15)] [] (rd (wR (wR (wR S 2 (zc (S.1 16) (S.1 2) 0 0 8)) 3 (zc (S.1 17) (S.1 3) 0 0 8)) 4 (zc (S.1 18) (S.1 4) 0 0 8))) _
  refine g_run 1 46 [some (.ref 1), some (.ref 15)] [.ref 15] (rd (wR (wR (wR S 2 (zc (S.1 16) (S.1 2) 0 0 8)) 3 (zc (S.1 17) (S.1 3) 0 0 8)) 4 (zc (S.1 18) (S.1 4) 0 0 8))) rfl ?_
  refine g_getf rfl rfl (rd_o15 _) rfl ?_
  show eG _ 31 49 [some (.ref 1), some (.ref 15)] [.ref 19] (rd (wR (wR (wR S 2 (zc (S.1 16) (S.1 2) 0 0 8)) 3 (zc (S.1 17) (S.1 3) 0 0 8)) 4 (zc (S.1 18) (S.1 4) 0 0 8))) _
  refine g_run 2 51 [some (.ref 1), some (.ref 15)] [.ref 1, .int (zI 0), .ref 19] (rd (wR (wR (wR S 2 (zc (S.1 16) (S.1 2) 0 0 8)) 3 (zc (S.1 17) (S.1 3) 0 0 8)) 4 (zc (S.1 18) (S.1 4) 0 0 8))) rfl ?_
  refine g_getf rfl rfl (rd_o1 _) rfl ?_
  show eG _ 31 54 [some (.ref 1), some (.ref 15)] [.ref 5, .int (zI 0), .ref 19] (rd (wR (wR (wR S 2 (zc (S.1 16) (S.1 2) 0 0 8)) 3 (zc (S.1 17) (S.1 3) 0 0 8)) 4 (zc (S.1 18) (S.1 4) 0 0 8))) _
  refine g_run 2 57 [some (.ref 1), some (.ref 15)] [.int (zI 8), .int (zI 0), .ref 5, .int (zI 0), .ref 19] (rd (wR (wR (wR S 2 (zc (S.1 16) (S.1 2) 0 0 8)) 3 (zc (S.1 17) (S.1 3) 0 0 8)) 4 (zc (S.1 18) (S.1 4) 0 0 8))) rfl ?_
  refine s_cpy rfl rfl (rd_a19 _) (rd_a5 _) rfl (rw_a5 _ _) h (fun h => ?_)
  show eG _ 31 60 [some (.ref 1), some (.ref 15)] [] (rd (wR (wR (wR (wR S 2 (zc (S.1 16) (S.1 2) 0 0 8)) 3 (zc (S.1 17) (S.1 3) 0 0 8)) 4 (zc (S.1 18) (S.1 4) 0 0 8)) 5 (zc (S.1 19) (S.1 5) 0 0 8))) _
  refine g_run 1 61 [some (.ref 1), some (.ref 15)] [.ref 15] (rd (wR (wR (wR (wR S 2 (zc (S.1 16) (S.1 2) 0 0 8)) 3 (zc (S.1 17) (S.1 3) 0 0 8)) 4 (zc (S.1 18) (S.1 4) 0 0 8)) 5 (zc (S.1 19) (S.1 5) 0 0 8))) rfl ?_
  refine g_getf rfl rfl (rd_o15 _) rfl ?_
  show eG _ 31 64 [some (.ref 1), some (.ref 15)] [.ref 20] (rd (wR (wR (wR (wR S 2 (zc (S.1 16) (S.1 2) 0 0 8)) 3 (zc (S.1 17) (S.1 3) 0 0 8)) 4 (zc (S.1 18) (S.1 4) 0 0 8)) 5 (zc (S.1 19) (S.1 5) 0 0 8))) _
  refine g_run 2 66 [some (.ref 1), some (.ref 15)] [.ref 1, .int (zI 0), .ref 20] (rd (wR (wR (wR (wR S 2 (zc (S.1 16) (S.1 2) 0 0 8)) 3 (zc (S.1 17) (S.1 3) 0 0 8)) 4 (zc (S.1 18) (S.1 4) 0 0 8)) 5 (zc (S.1 19) (S.1 5) 0 0 8))) rfl ?_
  refine g_getf rfl rfl (rd_o1 _) rfl ?_
  show eG _ 31 69 [some (.ref 1), some (.ref 15)] [.ref 6, .int (zI 0), .ref 20] (rd (wR (wR (wR (wR S 2 (zc (S.1 16) (S.1 2) 0 0 8)) 3 (zc (S.1 17) (S.1 3) 0 0 8)) 4 (zc (S.1 18) (S.1 4) 0 0 8)) 5 (zc (S.1 19) (S.1 5) 0 0 8))) _
  refine g_run 2 72 [some (.ref 1), some (.ref 15)] [.int (zI 8), .int (zI 0), .ref 6, .int (zI 0), .ref 20] (rd (wR (wR (wR (wR S 2 (zc (S.1 16) (S.1 2) 0 0 8)) 3 (zc (S.1 17) (S.1 3) 0 0 8)) 4 (zc (S.1 18) (S.1 4) 0 0 8)) 5 (zc (S.1 19) (S.1 5) 0 0 8))) rfl ?_
  refine s_cpy rfl rfl (rd_a20 _) (rd_a6 _) rfl (rw_a6 _ _) h (fun h => ?_)
  show eG _ 31 75 [some (.ref 1), some (.ref 15)] [] (rd (wR (wR (wR (wR (wR S 2 (zc (S.1 16) (S.1 2) 0 0 8)) 3 (zc (S.1 17) (S.1 3) 0 0 8)) 4 (zc (S.1 18) (S.1 4) 0 0 8)) 5 (zc (S.1 19) (S.1 5) 0 0 8)) 6 (zc (S.1 20) (S.1 6) 0 0 8))) _
  refine g_run 1 76 [some (.ref 1), some (.ref 15)] [.ref 15] (rd (wR (wR (wR (wR (wR S 2 (zc (S.1 16) (S.1 2) 0 0 8)) 3 (zc (S.1 17) (S.1 3) 0 0 8)) 4 (zc (S.1 18) (S.1 4) 0 0 8)) 5 (zc (S.1 19) (S.1 5) 0 0 8)) 6 (zc (S.1 20) (S.1 6) 0 0 8))) rfl ?_
  refine g_getf rfl rfl (rd_o15 _) rfl ?_
  show eG _ 31 79 [some (.ref 1), some (.ref 15)] [.ref 21] (rd (wR (wR (wR (wR (wR S 2 (zc (S.1 16) (S.1 2) 0 0 8)) 3 (zc (S.1 17) (S.1 3) 0 0 8)) 4 (zc (S.1 18) (S.1 4) 0 0 8)) 5 (zc (S.1 19) (S.1 5) 0 0 8)) 6 (zc (S.1 20) (S.1 6) 0 0 8))) _
  refine g_run 2 81 [some (.ref 1), some (.ref 15)] [.ref 1, .int (zI 0), .ref 21] (rd (wR (wR (wR (wR (wR S 2 (zc (S.1 16) (S.1 2) 0 0 8)) 3 (zc (S.1 17) (S.1 3) 0 0 8)) 4 (zc (S.1 18) (S.1 4) 0 0 8)) 5 (zc (S.1 19) (S.1 5) 0 0 8)) 6 (zc (S.1 20) (S.1 6) 0 0 8))) rfl ?_
  refine g_getf rfl rfl (rd_o1 _) rfl ?_
  show eG _ 31 84 [some (.ref 1), some (.ref 15)] [.ref 7, .int (zI 0), .ref 21] (rd (wR (wR (wR (wR (wR S 2 (zc (S.1 16) (S.1 2) 0 0 8)) 3 (zc (S.1 17) (S.1 3) 0 0 8)) 4 (zc (S.1 18) (S.1 4) 0 0 8)) 5 (zc (S.1 19) (S.1 5) 0 0 8)) 6 (zc (S.1 20) (S.1 6) 0 0 8))) _
  refine g_run 2 86 [some (.ref 1), some (.ref 15)] [.int (zI 4), .int (zI 0), .ref 7, .int (zI 0), .ref 21] (rd (wR (wR (wR (wR (wR S 2 (zc (S.1 16) (S.1 2) 0 0 8)) 3 (zc (S.1 17) (S.1 3) 0 0 8)) 4 (zc (S.1 18) (S.1 4) 0 0 8)) 5 (zc (S.1 19) (S.1 5) 0 0 8)) 6 (zc (S.1 20) (S.1 6) 0 0 8))) rfl ?_
  refine s_cpy rfl rfl (rd_a21 _) (rd_a7 _) rfl (rw_a7 _ _) h (fun h => ?_)
  show eG _ 31 89 [some (.ref 1), some (.ref 15)] [] (rd (wR (wR (wR (wR (wR (wR S 2 (zc (S.1 16) (S.1 2) 0 0 8)) 3 (zc (S.1 17) (S.1 3) 0 0 8)) 4 (zc (S.1 18) (S.1 4) 0 0 8)) 5 (zc (S.1 19) (S.1 5) 0 0 8)) 6 (zc (S.1 20) (S.1 6) 0 0 8)) 7 (zc (S.1 21) (S.1 7) 0 0 4))) _
  refine g_run 2 91 [some (.ref 1), some (.ref 15)] [.ref 15, .ref 1] (rd (wR (wR (wR (wR (wR (wR S 2 (zc (S.1 16) (S.1 2) 0 0 8)) 3 (zc (S.1 17) (S.1 3) 0 0 8)) 4 (zc (S.1 18) (S.1 4) 0 0 8)) 5 (zc (S.1 19) (S.1 5) 0 0 8)) 6 (zc (S.1 20) (S.1 6) 0 0 8)) 7 (zc (S.1 21) (S.1 7) 0 0 4))) rfl ?_
  refine g_getf rfl rfl (rd_o15 _) rfl ?_
  show eG _ 31 94 [some (.ref 1), some (.ref 15)] [.int (zI (zF S 15 6)), .ref 1] (rd (wR (wR (wR (wR (wR (wR S 2 (zc (S.1 16) (S.1 2) 0 0 8)) 3 (zc (S.1 17) (S.1 3) 0 0 8)) 4 (zc (S.1 18) (S.1 4) 0 0 8)) 5 (zc (S.1 19) (S.1 5) 0 0 8)) 6 (zc (S.1 20) (S.1 6) 0 0 8)) 7 (zc (S.1 21) (S.1 7) 0 0 4))) _
  refine s_putf rfl rfl (rd_o1 _) rfl rfl rfl rfl rfl (rw_o1_6 _ _) ?_
  show eG _ 31 97 [some (.ref 1), some (.ref 15)] [] (rd (wF (wR (wR (wR (wR (wR (wR S 2 (zc (S.1 16) (S.1 2) 0 0 8)) 3 (zc (S.1 17) (S.1 3) 0 0 8)) 4 (zc (S.1 18) (S.1 4) 0 0 8)) 5 (zc (S.1 19) (S.1 5) 0 0 8)) 6 (zc (S.1 20) (S.1 6) 0 0 8)) 7 (zc (S.1 21) (S.1 7) 0 0 4)) 1 6 (zF S 15 6))) _
  refine g_run 2 99 [some (.ref 1), some (.ref 15)] [.ref 15, .ref 1] (rd (wF (wR (wR (wR (wR (wR (wR S 2 (zc (S.1 16) (S.1 2) 0 0 8)) 3 (zc (S.1 17) (S.1 3) 0 0 8)) 4 (zc (S.1 18) (S.1 4) 0 0 8)) 5 (zc (S.1 19) (S.1 5) 0 0 8)) 6 (zc (S.1 20) (S.1 6) 0 0 8)) 7 (zc (S.1 21) (S.1 7) 0 0 4)) 1 6 (zF S 15 6))) rfl ?_
  refine g_getf rfl rfl (rd_o15 _) rfl ?_
  show eG _ 31 102 [some (.ref 1), some (.ref 15)] [.int (zI (zF S 15 7)), .ref 1] (rd (wF (wR (wR (wR (wR (wR (wR S 2 (zc (S.1 16) (S.1 2) 0 0 8)) 3 (zc (S.1 17) (S.1 3) 0 0 8)) 4 (zc (S.1 18) (S.1 4) 0 0 8)) 5 (zc (S.1 19) (S.1 5) 0 0 8)) 6 (zc (S.1 20) (S.1 6) 0 0 8)) 7 (zc (S.1 21) (S.1 7) 0 0 4)) 1 6 (zF S 15 6))) _
  refine s_putf rfl rfl (rd_o1 _) rfl rfl rfl rfl rfl (rw_o1_7 _ _) ?_
  show eG _ 31 105 [some (.ref 1), some (.ref 15)] [] (rd (wF (wF (wR (wR (wR (wR (wR (wR S 2 (zc (S.1 16) (S.1 2) 0 0 8)) 3 (zc (S.1 17) (S.1 3) 0 0 8)) 4 (zc (S.1 18) (S.1 4) 0 0 8)) 5 (zc (S.1 19) (S.1 5) 0 0 8)) 6 (zc (S.1 20) (S.1 6) 0 0 8)) 7 (zc (S.1 21) (S.1 7) 0 0 4)) 1 6 (zF S 15 6)) 1 7 (zF S 15 7))) _
  refine g_run 2 107 [some (.ref 1), some (.ref 15)] [.ref 15, .ref 1] (rd (wF (wF (wR (wR (wR (wR (wR (wR S 2 (zc (S.1 16) (S.1 2) 0 0 8)) 3 (zc (S.1 17) (S.1 3) 0 0 8)) 4 (zc (S.1 18) (S.1 4) 0 0 8)) 5 (zc (S.1 19) (S.1 5) 0 0 8)) 6 (zc (S.1 20) (S.1 6) 0 0 8)) 7 (zc (S.1 21) (S.1 7) 0 0 4)) 1 6 (zF S 15 6)) 1 7 (zF S 15 7))) rfl ?_
  refine g_getf rfl rfl (rd_o15 _) rfl ?_
  show eG _ 31 110 [some (.ref 1), some (.ref 15)] [.int (zI (zF S 15 8)), .ref 1] (rd (wF (wF (wR (wR (wR (wR (wR (wR S 2 (zc (S.1 16) (S.1 2) 0 0 8)) 3 (zc (S.1 17) (S.1 3) 0 0 8)) 4 (zc (S.1 18) (S.1 4) 0 0 8)) 5 (zc (S.1 19) (S.1 5) 0 0 8)) 6 (zc (S.1 20) (S.1 6) 0 0 8)) 7 (zc (S.1 21) (S.1 7) 0 0 4)) 1 6 (zF S 15 6)) 1 7 (zF S 15 7))) _
  refine s_putf rfl rfl (rd_o1 _) rfl rfl rfl rfl rfl (rw_o1_8 _ _) ?_
  show eG _ 31 113 [some (.ref 1), some (.ref 15)] [] (rd (wF (wF (wF (wR (wR (wR (wR (wR (wR S 2 (zc (S.1 16) (S.1 2) 0 0 8)) 3 (zc (S.1 17) (S.1 3) 0 0 8)) 4 (zc (S.1 18) (S.1 4) 0 0 8)) 5 (zc (S.1 19) (S.1 5) 0 0 8)) 6 (zc (S.1 20) (S.1 6) 0 0 8)) 7 (zc (S.1 21) (S.1 7) 0 0 4)) 1 6 (zF S 15 6)) 1 7 (zF S 15 7)) 1 8 (zF S 15 8))) _
  refine g_run 2 115 [some (.ref 1), some (.ref 15)] [.ref 15, .ref 1] (rd (wF (wF (wF (wR (wR (wR (wR (wR (wR S 2 (zc (S.1 16) (S.1 2) 0 0 8)) 3 (zc (S.1 17) (S.1 3) 0 0 8)) 4 (zc (S.1 18) (S.1 4) 0 0 8)) 5 (zc (S.1 19) (S.1 5) 0 0 8)) 6 (zc (S.1 20) (S.1 6) 0 0 8)) 7 (zc (S.1 21) (S.1 7) 0 0 4)) 1 6 (zF S 15 6)) 1 7 (zF S 15 7)) 1 8 (zF S 15 8))) rfl ?_
  refine g_getf rfl rfl (rd_o15 _) rfl ?_
  show eG _ 31 118 [some (.ref 1), some (.ref 15)] [.int (zI (zF S 15 9)), .ref 1] (rd (wF (wF (wF (wR (wR (wR (wR (wR (wR S 2 (zc (S.1 16) (S.1 2) 0 0 8)) 3 (zc (S.1 17) (S.1 3) 0 0 8)) 4 (zc (S.1 18) (S.1 4) 0 0 8)) 5 (zc (S.1 19) (S.1 5) 0 0 8)) 6 (zc (S.1 20) (S.1 6) 0 0 8)) 7 (zc (S.1 21) (S.1 7) 0 0 4)) 1 6 (zF S 15 6)) 1 7 (zF S 15 7)) 1 8 (zF S 15 8))) _
  refine s_putf rfl rfl (rd_o1 _) rfl rfl rfl rfl rfl (rw_o1_9 _ _) ?_
  show eG _ 31 121 [some (.ref 1), some (.ref 15)] [] (rd (wF (wF (wF (wF (wR (wR (wR (wR (wR (wR S 2 (zc (S.1 16) (S.1 2) 0 0 8)) 3 (zc (S.1 17) (S.1 3) 0 0 8)) 4 (zc (S.1 18) (S.1 4) 0 0 8)) 5 (zc (S.1 19) (S.1 5) 0 0 8)) 6 (zc (S.1 20) (S.1 6) 0 0 8)) 7 (zc (S.1 21) (S.1 7) 0 0 4)) 1 6 (zF S 15 6)) 1 7 (zF S 15 7)) 1 8 (zF S 15 8)) 1 9 (zF S 15 9))) _
  refine g_run 2 123 [some (.ref 1), some (.ref 15)] [.ref 15, .ref 1] (rd (wF (wF (wF (wF (wR (wR (wR (wR (wR (wR S 2 (zc (S.1 16) (S.1 2) 0 0 8)) 3 (zc (S.1 17) (S.1 3) 0 0 8)) 4 (zc (S.1 18) (S.1 4) 0 0 8)) 5 (zc (S.1 19) (S.1 5) 0 0 8)) 6 (zc (S.1 20) (S.1 6) 0 0 8)) 7 (zc (S.1 21) (S.1 7) 0 0 4)) 1 6 (zF S 15 6)) 1 7 (zF S 15 7)) 1 8 (zF S 15 8)) 1 9 (zF S 15 9))) rfl ?_
  refine g_getf rfl rfl (rd_o15 _) rfl ?_
  show eG _ 31 126 [some (.ref 1), some (.ref 15)] [.int (zI (zF S 15 10)), .ref 1] (rd (wF (wF (wF (wF (wR (wR (wR (wR (wR (wR S 2 (zc (S.1 16) (S.1 2) 0 0 8)) 3 (zc (S.1 17) (S.1 3) 0 0 8)) 4 (zc (S.1 18) (S.1 4) 0 0 8)) 5 (zc (S.1 19) (S.1 5) 0 0 8)) 6 (zc (S.1 20) (S.1 6) 0 0 8)) 7 (zc (S.1 21) (S.1 7) 0 0 4)) 1 6 (zF S 15 6)) 1 7 (zF S 15 7)) 1 8 (zF S 15 8)) 1 9 (zF S 15 9))) _
  refine s_putf rfl rfl (rd_o1 _) rfl rfl rfl rfl rfl (rw_o1_10 _ _) ?_
  show eG _ 31 129 [some (.ref 1), some (.ref 15)] [] (rd (wF (wF (wF (wF (wF (wR (wR (wR (wR (wR (wR S 2 (zc (S.1 16) (S.1 2) 0 0 8)) 3 (zc (S.1 17) (S.1 3) 0 0 8)) 4 (zc (S.1 18) (S.1 4) 0 0 8)) 5 (zc (S.1 19) (S.1 5) 0 0 8)) 6 (zc (S.1 20) (S.1 6) 0 0 8)) 7 (zc (S.1 21) (S.1 7) 0 0 4)) 1 6 (zF S 15 6)) 1 7 (zF S 15 7)) 1 8 (zF S 15 8)) 1 9 (zF S 15 9)) 1 10 (zF S 15 10))) _
  refine g_run 2 131 [some (.ref 1), some (.ref 15)] [.ref 15, .ref 1] (rd (wF (wF (wF (wF (wF (wR (wR (wR (wR (wR (wR S 2 (zc (S.1 16) (S.1 2) 0 0 8)) 3 (zc (S.1 17) (S.1 3) 0 0 8)) 4 (zc (S.1 18) (S.1 4) 0 0 8)) 5 (zc (S.1 19) (S.1 5) 0 0 8)) 6 (zc (S.1 20) (S.1 6) 0 0 8)) 7 (zc (S.1 21) (S.1 7) 0 0 4)) 1 6 (zF S 15 6)) 1 7 (zF S 15 7)) 1 8 (zF S 15 8)) 1 9 (zF S 15 9)) 1 10 (zF S 15 10))) rfl ?_
  refine g_getf rfl rfl (rd_o15 _) rfl ?_
  show eG _ 31 134 [some (.ref 1), some (.ref 15)] [.int (zI (zF S 15 11)), .ref 1] (rd (wF (wF (wF (wF (wF (wR (wR (wR (wR (wR (wR S 2 (zc (S.1 16) (S.1 2) 0 0 8)) 3 (zc (S.1 17) (S.1 3) 0 0 8)) 4 (zc (S.1 18) (S.1 4) 0 0 8)) 5 (zc (S.1 19) (S.1 5) 0 0 8)) 6 (zc (S.1 20) (S.1 6) 0 0 8)) 7 (zc (S.1 21) (S.1 7) 0 0 4)) 1 6 (zF S 15 6)) 1 7 (zF S 15 7)) 1 8 (zF S 15 8)) 1 9 (zF S 15 9)) 1 10 (zF S 15 10))) _
  refine s_putf rfl rfl (rd_o1 _) rfl rfl rfl rfl rfl (rw_o1_11 _ _) ?_
  show eG _ 31 137 [some (.ref 1), some (.ref 15)] [] (rd (wF (wF (wF (wF (wF (wF (wR (wR (wR (wR (wR (wR S 2 (zc (S.1 16) (S.1 2) 0 0 8)) 3 (zc (S.1 17) (S.1 3) 0 0 8)) 4 (zc (S.1 18) (S.1 4) 0 0 8)) 5 (zc (S.1 19) (S.1 5) 0 0 8)) 6 (zc (S.1 20) (S.1 6) 0 0 8)) 7 (zc (S.1 21) (S.1 7) 0 0 4)) 1 6 (zF S 15 6)) 1 7 (zF S 15 7)) 1 8 (zF S 15 8)) 1 9 (zF S 15 9)) 1 10 (zF S 15 10)) 1 11 (zF S 15 11))) _
  cases h
  exact g_retv rfl rfl rfl
def fD_endOfReading (n : Nat) (S : ZS) (l1 l2 : Int) : Option (Int × ZS) := (fP_empty n S).bind fun z1 => gC l1 0 (if l1 = 0 then some ((-20) - (zF S 22 2), z1) else (fT_takeOver_1_15 n z1).bind fun z2 => (fW_forget n z2).bind fun z3 => some (l2, z3))
set_option maxRecDepth 100000 in
set_option maxHeartbeats 4000000 in
theorem sD_endOfReading (o : eO) (n : Nat) (S : ZS) (l1 l2 : Int) {w : Int × ZS} (h : fD_endOfReading n S l1 l2 = some w) : eG o 43 0 (eEnt 43 [.ref 0, .int (zI l1), .int (zI l2)]) [] (rd S) (rv (some (.int (zI w.1))) (rd w.2)) := by
  unfold fD_endOfReading at h
  show eG o 43 0 [some (.ref 0), some (.int (zI l1)), some (.int (zI l2)), none] [] (rd S) _
  refine g_run 1 1 [some (.ref 0), some (.int (zI l1)), some (.int (zI l2)), none] [.ref 0] (rd S) rfl ?_
  refine g_getf rfl rfl (rd_o0 _) rfl ?_
  show eG _ 43 4 [some (.ref 0), some (.int (zI l1)), some (.int (zI l2)), none] [.ref 22] (rd S) _
  refine g_getf rfl rfl (rd_o22 _) rfl ?_
  show eG _ 43 7 [some (.ref 0), some (.int (zI l1)), some (.int (zI l2)), none] [.int (zI (zF S 22 2))] (rd S) _
  refine g_run 2 9 [some (.ref 0), some (.int (zI l1)), some (.int (zI l2)), some (.int (zI (zF S 22 2)))] [.ref 0] (rd S) rfl ?_
  refine g_getf rfl rfl (rd_o0 _) rfl ?_
  show eG _ 43 12 [some (.ref 0), some (.int (zI l1)), some (.int (zI l2)), some (.int (zI (zF S 22 2)))] [.ref 22] (rd S) _
  refine s_vir (fun _ => none) (fun z => rd z) rfl rfl rfl (rd_o22 _) rfl rfl (fun z hz => sP_empty o n S hz) rfl h (fun z1 h => ?_)
  show eG _ 43 15 [some (.ref 0), some (.int (zI l1)), some (.int (zI l2)), some (.int (zI (zF S 22 2)))] [] (rd z1) _
  refine g_run 1 16 [some (.ref 0), some (.int (zI l1)), some (.int (zI l2)), some (.int (zI (zF S 22 2)))] [.int (zI l1)] (rd z1) rfl ?_
  refine s_if_ne rfl h (fun h => ?_) (fun h => ?_)
  · show eG _ 43 24 [some (.ref 0), some (.int (zI l1)), some (.int (zI l2)), some (.int (zI (zF S 22 2)))] [] (rd z1) _
    refine g_run 1 25 [some (.ref 0), some (.int (zI l1)), some (.int (zI l2)), some (.int (zI (zF S 22 2)))] [.ref 0] (rd z1) rfl ?_
    refine g_getf rfl rfl (rd_o0 _) rfl ?_
    show eG _ 43 28 [some (.ref 0), some (.int (zI l1)), some (.int (zI l2)), some (.int (zI (zF S 22 2)))] [.ref 1] (rd z1) _
    refine g_run 1 29 [some (.ref 0), some (.int (zI l1)), some (.int (zI l2)), some (.int (zI (zF S 22 2)))] [.ref 0, .ref 1] (rd z1) rfl ?_
    refine g_getf rfl rfl (rd_o0 _) rfl ?_
    show eG _ 43 32 [some (.ref 0), some (.int (zI l1)), some (.int (zI l2)), some (.int (zI (zF S 22 2)))] [.ref 15, .ref 1] (rd z1) _
    refine s_vir (fun _ => none) (fun z => rd z) rfl rfl rfl (rd_o1 _) rfl rfl (fun z hz => sT_takeOver_1_15 o n z1 hz) rfl h (fun z2 h => ?_)
    show eG _ 43 35 [some (.ref 0), some (.int (zI l1)), some (.int (zI l2)), some (.int (zI (zF S 22 2)))] [] (rd z2) _
    refine g_run 1 36 [some (.ref 0), some (.int (zI l1)), some (.int (zI l2)), some (.int (zI (zF S 22 2)))] [.ref 0] (rd z2) rfl ?_
    refine g_getf rfl rfl (rd_o0 _) rfl ?_
    show eG _ 43 39 [some (.ref 0), some (.int (zI l1)), some (.int (zI l2)), some (.int (zI (zF S 22 2)))] [.ref 24] (rd z2) _
    refine s_vir (fun _ => none) (fun z => rd z) rfl rfl rfl (rd_o24 _) rfl rfl (fun z hz => sW_forget o n z2 hz) rfl h (fun z3 h => ?_)
    show eG _ 43 42 [some (.ref 0), some (.int (zI l1)), some (.int (zI l2)), some (.int (zI (zF S 22 2)))] [] (rd z3) _
    refine g_run 1 43 [some (.ref 0), some (.int (zI l1)), some (.int (zI l2)), some (.int (zI (zF S 22 2)))] [.int (zI l2)] (rd z3) rfl ?_
    cases h
    exact s_ret rfl rfl rfl
  · show eG _ 43 19 [some (.ref 0), some (.int (zI l1)), some (.int (zI l2)), some (.int (zI (zF S 22 2)))] [] (rd z1) _
    refine g_run 2 22 [some (.ref 0), some (.int (zI l1)), some (.int (zI l2)), some (.int (zI (zF S 22 2)))] [.int (zI (zF S 22 2)), .int (zI (-20))] (rd z1) rfl ?_
    refine s_isub rfl ?_
    cases h
    exact s_ret rfl rfl rfl
def fD_town (n : Nat) (S : ZS) : Option (Int × ZS) := (fT_takeOver_15_1 n S).bind fun z1 => (fT_raze_15 n z1).bind fun z2 => (fP_readTown n z2).bind fun z3 => (fD_endOfReading n z3.2 z3.1 (zF z3.2 15 6)).bind fun z4 => some (z4.1, z4.2)
set_option maxRecDepth 100000 in
set_option maxHeartbeats 4000000 in
theorem sD_town (o : eO) (n : Nat) (S : ZS) {w : Int × ZS} (h : fD_town n S = some w) : eG o 30 0 (eEnt 30 [.ref 0]) [] (rd S) (rv (some (.int (zI w.1))) (rd w.2)) := by
  unfold fD_town at h
  show eG o 30 0 [some (.ref 0), none] [] (rd S) _
  refine g_run 1 1 [some (.ref 0), none] [.ref 0] (rd S) rfl ?_
  refine g_getf rfl rfl (rd_o0 _) rfl ?_
  show eG _ 30 4 [some (.ref 0), none] [.ref 15] (rd S) _
  refine g_run 1 5 [some (.ref 0), none] [.ref 0, .ref 15] (rd S) rfl ?_
  refine g_getf rfl rfl (rd_o0 _) rfl ?_
  show eG _ 30 8 [some (.ref 0), none] [.ref 1, .ref 15] (rd S) _
  refine s_vir (fun _ => none) (fun z => rd z) rfl rfl rfl (rd_o15 _) rfl rfl (fun z hz => sT_takeOver_15_1 o n S hz) rfl h (fun z1 h => ?_)
  show eG _ 30 11 [some (.ref 0), none] [] (rd z1) _
  refine g_run 1 12 [some (.ref 0), none] [.ref 0] (rd z1) rfl ?_
  refine g_getf rfl rfl (rd_o0 _) rfl ?_
  show eG _ 30 15 [some (.ref 0), none] [.ref 15] (rd z1) _
  refine s_vir (fun _ => none) (fun z => rd z) rfl rfl rfl (rd_o15 _) rfl rfl (fun z hz => sT_raze_15 o n z1 hz) rfl h (fun z2 h => ?_)
  show eG _ 30 18 [some (.ref 0), none] [] (rd z2) _
  refine g_run 1 19 [some (.ref 0), none] [.ref 0] (rd z2) rfl ?_
  refine g_getf rfl rfl (rd_o0 _) rfl ?_
  show eG _ 30 22 [some (.ref 0), none] [.ref 22] (rd z2) _
  refine g_run 1 23 [some (.ref 0), none] [.ref 0, .ref 22] (rd z2) rfl ?_
  refine g_getf rfl rfl (rd_o0 _) rfl ?_
  show eG _ 30 26 [some (.ref 0), none] [.ref 15, .ref 22] (rd z2) _
  refine s_vir (fun z => some (.int (zI z.1))) (fun z => rd z.2) rfl rfl rfl (rd_o22 _) rfl rfl (fun z hz => sP_readTown o n z2 hz) rfl h (fun z3 h => ?_)
  show eG _ 30 29 [some (.ref 0), none] [.int (zI z3.1)] (rd z3.2) _
  refine g_run 4 33 [some (.ref 0), some (.int (zI z3.1))] [.ref 0, .int (zI z3.1), .ref 0] (rd z3.2) rfl ?_
  refine g_getf rfl rfl (rd_o0 _) rfl ?_
  show eG _ 30 36 [some (.ref 0), some (.int (zI z3.1))] [.ref 15, .int (zI z3.1), .ref 0] (rd z3.2) _
  refine g_getf rfl rfl (rd_o15 _) rfl ?_
  show eG _ 30 39 [some (.ref 0), some (.int (zI z3.1))] [.int (zI (zF z3.2 15 6)), .int (zI z3.1), .ref 0] (rd z3.2) _
  refine s_vir (fun z => some (.int (zI z.1))) (fun z => rd z.2) rfl rfl rfl (rd_o0 _) rfl rfl (fun z hz => sD_endOfReading o n z3.2 z3.1 (zF z3.2 15 6) hz) rfl h (fun z4 h => ?_)
  show eG _ 30 42 [some (.ref 0), some (.int (zI z3.1))] [.int (zI z4.1)] (rd z4.2) _
  cases h
  exact s_ret rfl rfl rfl
def fT_addPerson_15 (n : Nat) (S : ZS) (l1 : Int) : Option (ZS) := gX (zF S 15 7) 4 (some (wF (wA S 21 (zF S 15 7) l1) 15 7 ((zF S 15 7) + 1)))
set_option maxRecDepth 100000 in
set_option maxHeartbeats 4000000 in
theorem sT_addPerson_15 (o : eO) (n : Nat) (S : ZS) (l1 : Int) {w : ZS} (h : fT_addPerson_15 n S l1 = some w) : eG o 23 0 (eEnt 23 [.ref 15, .int (zI l1)]) [] (rd S) (rv (none) (rd w)) := by
  unfold fT_addPerson_15 at h
  show eG o 23 0 [some (.ref 15), some (.int (zI l1))] [] (rd S) _
  refine g_run 1 1 [some (.ref 15), some (.int (zI l1))] [.ref 15] (rd S) rfl ?_
  refine g_getf rfl rfl (rd_o15 _) rfl ?_
  show eG _ 23 4 [some (.ref 15), some (.int (zI l1))] [.ref 21] (rd S) _
  refine g_run 1 5 [some (.ref 15), some (.int (zI l1))] [.ref 15, .ref 21] (rd S) rfl ?_
  refine g_getf rfl rfl (rd_o15 _) rfl ?_
  show eG _ 23 8 [some (.ref 15), some (.int (zI l1))] [.int (zI (zF S 15 7)), .ref 21] (rd S) _
  refine g_run 1 9 [some (.ref 15), some (.int (zI l1))] [.int (zI l1), .int (zI (zF S 15 7)), .ref 21] (rd S) rfl ?_
  refine s_iast rfl (rd_a21 _) (rw_a21 _ _) h (fun h => ?_)
  show eG _ 23 10 [some (.ref 15), some (.int (zI l1))] [] (rd (wA S 21 (zF S 15 7) l1)) _
  refine g_run 2 12 [some (.ref 15), some (.int (zI l1))] [.ref 15, .ref 15] (rd (wA S 21 (zF S 15 7) l1)) rfl ?_
  refine g_getf rfl rfl (rd_o15 _) rfl ?_
  show eG _ 23 15 [some (.ref 15), some (.int (zI l1))] [.int (zI (zF S 15 7)), .ref 15] (rd (wA S 21 (zF S 15 7) l1)) _
  refine g_run 1 16 [some (.ref 15), some (.int (zI l1))] [.int (zI 1), .int (zI (zF S 15 7)), .ref 15] (rd (wA S 21 (zF S 15 7) l1)) rfl ?_
  refine s_iadd rfl ?_
  refine s_putf rfl rfl (rd_o15 _) rfl rfl rfl rfl rfl (rw_o15_7 _ _) ?_
  show eG _ 23 20 [some (.ref 15), some (.int (zI l1))] [] (rd (wF (wA S 21 (zF S 15 7) l1) 15 7 ((zF S 15 7) + 1))) _
  cases h
  exact g_retv rfl rfl rfl
def fP_readPeople_1 : Nat → ZS → Int → Option ((Int × ZS) ⊕ (ZS))
  | 0, _, _ => none
  | n + 1, S, l2 => gC l2 4 (if 4 < l2 then some (.inr S) else (fP_readParts n S (zF S 15 6)).bind fun z1 => gC z1.1 0 (if z1.1 < 0 then gB 0 (some (.inl (0, z1.2))) else (fT_addPerson_15 n z1.2 z1.1).bind fun z2 => (fP_next n z2).bind fun z3 => gC z3.1 0 (if z3.1 = 0 then gB 1 (some (.inl (1, z3.2))) else gC l2 4 (if l2 = 4 then gB 0 (some (.inl (0, z3.2))) else (fP_take n z3.2 44).bind fun z4 => gC z4.1 0 (if z4.1 = 0 then gB 0 (some (.inl (0, z4.2))) else fP_readPeople_1 n z4.2 (l2 + 1))))))
set_option maxRecDepth 100000 in
set_option maxHeartbeats 4000000 in
theorem sP_readPeople_1 (o : eO) : ∀ (n : Nat) (S : ZS) (l2 : Int) {w : (Int × ZS) ⊕ (ZS)} {r : eP} (h : fP_readPeople_1 n S l2 = some w) (hr : ∀ v, w = .inl v → r (some (.int (zI v.1)), rd v.2)) (hk : ∀ x, w = .inr x → eG o 46 63 [none, none, none, none] [] (rd x) r), eG o 46 7 [some (.ref 22), some (.ref 15), some (.int (zI l2)), none] [] (rd S) r := by
  intro n
  induction n with
  | zero => intro S l2 w r h hr hk; unfold fP_readPeople_1 at h; cases h
  | succ n ih =>
    intro S l2 w r h hr hk
    unfold fP_readPeople_1 at h
    refine g_run 2 9 [some (.ref 22), some (.ref 15), some (.int (zI l2)), none] [.int (zI 4), .int (zI l2)] (rd S) rfl ?_
    refine s_icmp_gt rfl h (fun h => ?_) (fun h => ?_)
    · show eG _ 46 63 [some (.ref 22), some (.ref 15), some (.int (zI l2)), none] [] (rd S) _
      refine g_fgt [true, true, true, true] ?_
      show eG _ 46 63 [none, none, none, none] [] (rd S) _
      cases h
      exact hk _ rfl
    · show eG _ 46 12 [some (.ref 22), some (.ref 15), some (.int (zI l2)), none] [] (rd S) _
      refine g_run 2 14 [some (.ref 22), some (.ref 15), some (.int (zI l2)), none] [.ref 15, .ref 22] (rd S) rfl ?_
      refine g_getf rfl rfl (rd_o15 _) rfl ?_
      show eG _ 46 17 [some (.ref 22), some (.ref 15), some (.int (zI l2)), none] [.int (zI (zF S 15 6)), .ref 22] (rd S) _
      refine s_vir (fun z => some (.int (zI z.1))) (fun z => rd z.2) rfl rfl rfl (rd_o22 _) rfl rfl (fun z hz => sP_readParts o n S (zF S 15 6) hz) rfl h (fun z1 h => ?_)
      show eG _ 46 20 [some (.ref 22), some (.ref 15), some (.int (zI l2)), none] [.int (zI z1.1)] (rd z1.2) _
      refine g_run 2 22 [some (.ref 22), some (.ref 15), some (.int (zI l2)), some (.int (zI z1.1))] [.int (zI z1.1)] (rd z1.2) rfl ?_
      refine s_if_ge rfl h (fun h => ?_) (fun h => ?_)
      · show eG _ 46 27 [some (.ref 22), some (.ref 15), some (.int (zI l2)), some (.int (zI z1.1))] [] (rd z1.2) _
        refine g_run 2 29 [some (.ref 22), some (.ref 15), some (.int (zI l2)), some (.int (zI z1.1))] [.int (zI z1.1), .ref 15] (rd z1.2) rfl ?_
        refine s_vir (fun _ => none) (fun z => rd z) rfl rfl rfl (rd_o15 _) rfl rfl (fun z hz => sT_addPerson_15 o n z1.2 z1.1 hz) rfl h (fun z2 h => ?_)
        show eG _ 46 32 [some (.ref 22), some (.ref 15), some (.int (zI l2)), some (.int (zI z1.1))] [] (rd z2) _
        refine g_run 1 33 [some (.ref 22), some (.ref 15), some (.int (zI l2)), some (.int (zI z1.1))] [.ref 22] (rd z2) rfl ?_
        refine s_vir (fun z => some (.int (zI z.1))) (fun z => rd z.2) rfl rfl rfl (rd_o22 _) rfl rfl (fun z hz => sP_next o n z2 hz) rfl h (fun z3 h => ?_)
        show eG _ 46 36 [some (.ref 22), some (.ref 15), some (.int (zI l2)), some (.int (zI z1.1))] [.int (zI z3.1)] (rd z3.2) _
        refine s_if_ne rfl h (fun h => ?_) (fun h => ?_)
        · show eG _ 46 41 [some (.ref 22), some (.ref 15), some (.int (zI l2)), some (.int (zI z1.1))] [] (rd z3.2) _
          refine g_run 2 43 [some (.ref 22), some (.ref 15), some (.int (zI l2)), some (.int (zI z1.1))] [.int (zI 4), .int (zI l2)] (rd z3.2) rfl ?_
          refine s_icmp_eq rfl h (fun h => ?_) (fun h => ?_)
          · show eG _ 46 55 [some (.ref 22), some (.ref 15), some (.int (zI l2)), some (.int (zI z1.1))] [] (rd z3.2) _
            refine g_run 1 56 [some (.ref 22), some (.ref 15), some (.int (zI l2)), some (.int (zI z1.1))] [.int (zI 0)] (rd z3.2) rfl ?_
            exact s_retB rfl rfl h (fun h => by cases h; exact hr _ rfl)
          · show eG _ 46 46 [some (.ref 22), some (.ref 15), some (.int (zI l2)), some (.int (zI z1.1))] [] (rd z3.2) _
            refine g_run 2 49 [some (.ref 22), some (.ref 15), some (.int (zI l2)), some (.int (zI z1.1))] [.int (zI 44), .ref 22] (rd z3.2) rfl ?_
            refine s_vir (fun z => some (.int (zI z.1))) (fun z => rd z.2) rfl rfl rfl (rd_o22 _) rfl rfl (fun z hz => sP_take o n z3.2 44 hz) rfl h (fun z4 h => ?_)
            show eG _ 46 52 [some (.ref 22), some (.ref 15), some (.int (zI l2)), some (.int (zI z1.1))] [.int (zI z4.1)] (rd z4.2) _
            refine s_if_ne rfl h (fun h => ?_) (fun h => ?_)
            · show eG _ 46 57 [some (.ref 22), some (.ref 15), some (.int (zI l2)), some (.int (zI z1.1))] [] (rd z4.2) _
              refine s_iinc (L' := [some (.ref 22), some (.ref 15), some (.int (zI (l2 + 1))), some (.int (zI z1.1))]) rfl rfl rfl ?_
              refine g_run 1 7 [some (.ref 22), some (.ref 15), some (.int (zI (l2 + 1))), some (.int (zI z1.1))] [] (rd z4.2) rfl ?_
              refine g_fgt [false, false, false, true] ?_
              show eG _ 46 7 [some (.ref 22), some (.ref 15), some (.int (zI (l2 + 1))), none] [] (rd z4.2) _
              exact ih z4.2 (l2 + 1) h hr hk
            · show eG _ 46 55 [some (.ref 22), some (.ref 15), some (.int (zI l2)), some (.int (zI z1.1))] [] (rd z4.2) _
              refine g_run 1 56 [some (.ref 22), some (.ref 15), some (.int (zI l2)), some (.int (zI z1.1))] [.int (zI 0)] (rd z4.2) rfl ?_
              exact s_retB rfl rfl h (fun h => by cases h; exact hr _ rfl)
        · show eG _ 46 39 [some (.ref 22), some (.ref 15), some (.int (zI l2)), some (.int (zI z1.1))] [] (rd z3.2) _
          refine g_run 1 40 [some (.ref 22), some (.ref 15), some (.int (zI l2)), some (.int (zI z1.1))] [.int (zI 1)] (rd z3.2) rfl ?_
          exact s_retB rfl rfl h (fun h => by cases h; exact hr _ rfl)
      · show eG _ 46 25 [some (.ref 22), some (.ref 15), some (.int (zI l2)), some (.int (zI z1.1))] [] (rd z1.2) _
        refine g_run 1 26 [some (.ref 22), some (.ref 15), some (.int (zI l2)), some (.int (zI z1.1))] [.int (zI 0)] (rd z1.2) rfl ?_
        exact s_retB rfl rfl h (fun h => by cases h; exact hr _ rfl)
def fP_readPeople (n : Nat) (S : ZS) : Option (Int × ZS) := zR (fP_readPeople_1 n (wF S 22 2 0) 1) fun z1 => gB 0 (some (0, z1))
set_option maxRecDepth 100000 in
set_option maxHeartbeats 4000000 in
theorem sP_readPeople (o : eO) (n : Nat) (S : ZS) {w : Int × ZS} (h : fP_readPeople n S = some w) : eG o 46 0 (eEnt 46 [.ref 22, .ref 15]) [] (rd S) (rv (some (.int (zI w.1))) (rd w.2)) := by
  unfold fP_readPeople at h
  show eG o 46 0 [some (.ref 22), some (.ref 15), none, none] [] (rd S) _
  refine g_run 2 2 [some (.ref 22), some (.ref 15), none, none] [.int (zI 0), .ref 22] (rd S) rfl ?_
  refine s_putf rfl rfl (rd_o22 _) rfl rfl rfl rfl rfl (rw_o22_2 _ _) ?_
  show eG _ 46 5 [some (.ref 22), some (.ref 15), none, none] [] (rd (wF S 22 2 0)) _
  refine g_run 2 7 [some (.ref 22), some (.ref 15), some (.int (zI 1)), none] [] (rd (wF S 22 2 0)) rfl ?_
  rcases zR_inv h with h1 | ⟨z1, h1, h⟩
  · exact sP_readPeople_1 o n (wF S 22 2 0) 1 h1 (fun v e => by cases e; rfl) (fun x e => by cases e)
  refine sP_readPeople_1 o n (wF S 22 2 0) 1 h1 (fun v e => by cases e) (fun x e => ?_)
  cases e
  show eG _ 46 63 [none, none, none, none] [] (rd z1) _
  refine g_run 1 64 [none, none, none, none] [.int (zI 0)] (rd z1) rfl ?_
  exact s_retB rfl rfl h (fun h => by cases h; exact rfl)
def fD_people (n : Nat) (S : ZS) : Option (Int × ZS) := (fT_takeOver_15_1 n S).bind fun z1 => (fP_readPeople n (wF z1 15 7 0)).bind fun z2 => (fD_endOfReading n z2.2 z2.1 (zF z2.2 15 7)).bind fun z3 => some (z3.1, z3.2)
set_option maxRecDepth 100000 in
set_option maxHeartbeats 4000000 in
theorem sD_people (o : eO) (n : Nat) (S : ZS) {w : Int × ZS} (h : fD_people n S = some w) : eG o 45 0 (eEnt 45 [.ref 0]) [] (rd S) (rv (some (.int (zI w.1))) (rd w.2)) := by
  unfold fD_people at h
  show eG o 45 0 [some (.ref 0), none] [] (rd S) _
  refine g_run 1 1 [some (.ref 0), none] [.ref 0] (rd S) rfl ?_
  refine g_getf rfl rfl (rd_o0 _) rfl ?_
  show eG _ 45 4 [some (.ref 0), none] [.ref 15] (rd S) _
  refine g_run 1 5 [some (.ref 0), none] [.ref 0, .ref 15] (rd S) rfl ?_
  refine g_getf rfl rfl (rd_o0 _) rfl ?_
  show eG _ 45 8 [some (.ref 0), none] [.ref 1, .ref 15] (rd S) _
  refine s_vir (fun _ => none) (fun z => rd z) rfl rfl rfl (rd_o15 _) rfl rfl (fun z hz => sT_takeOver_15_1 o n S hz) rfl h (fun z1 h => ?_)
  show eG _ 45 11 [some (.ref 0), none] [] (rd z1) _
  refine g_run 1 12 [some (.ref 0), none] [.ref 0] (rd z1) rfl ?_
  refine g_getf rfl rfl (rd_o0 _) rfl ?_
  show eG _ 45 15 [some (.ref 0), none] [.ref 15] (rd z1) _
  refine g_run 1 16 [some (.ref 0), none] [.int (zI 0), .ref 15] (rd z1) rfl ?_
  refine s_putf rfl rfl (rd_o15 _) rfl rfl rfl rfl rfl (rw_o15_7 _ _) ?_
  show eG _ 45 19 [some (.ref 0), none] [] (rd (wF z1 15 7 0)) _
  refine g_run 1 20 [some (.ref 0), none] [.ref 0] (rd (wF z1 15 7 0)) rfl ?_
  refine g_getf rfl rfl (rd_o0 _) rfl ?_
  show eG _ 45 23 [some (.ref 0), none] [.ref 22] (rd (wF z1 15 7 0)) _
  refine g_run 1 24 [some (.ref 0), none] [.ref 0, .ref 22] (rd (wF z1 15 7 0)) rfl ?_
  refine g_getf rfl rfl (rd_o0 _) rfl ?_
  show eG _ 45 27 [some (.ref 0), none] [.ref 15, .ref 22] (rd (wF z1 15 7 0)) _
  refine s_vir (fun z => some (.int (zI z.1))) (fun z => rd z.2) rfl rfl rfl (rd_o22 _) rfl rfl (fun z hz => sP_readPeople o n (wF z1 15 7 0) hz) rfl h (fun z2 h => ?_)
  show eG _ 45 30 [some (.ref 0), none] [.int (zI z2.1)] (rd z2.2) _
  refine g_run 4 34 [some (.ref 0), some (.int (zI z2.1))] [.ref 0, .int (zI z2.1), .ref 0] (rd z2.2) rfl ?_
  refine g_getf rfl rfl (rd_o0 _) rfl ?_
  show eG _ 45 37 [some (.ref 0), some (.int (zI z2.1))] [.ref 15, .int (zI z2.1), .ref 0] (rd z2.2) _
  refine g_getf rfl rfl (rd_o15 _) rfl ?_
  show eG _ 45 40 [some (.ref 0), some (.int (zI z2.1))] [.int (zI (zF z2.2 15 7)), .int (zI z2.1), .ref 0] (rd z2.2) _
  refine s_vir (fun z => some (.int (zI z.1))) (fun z => rd z.2) rfl rfl rfl (rd_o0 _) rfl rfl (fun z hz => sD_endOfReading o n z2.2 z2.1 (zF z2.2 15 7) hz) rfl h (fun z3 h => ?_)
  show eG _ 45 43 [some (.ref 0), some (.int (zI z2.1))] [.int (zI z3.1)] (rd z3.2) _
  cases h
  exact s_ret rfl rfl rfl
def fT_yardsOf_1 : Nat → ZS → Nat → Int → Int → Int → Option (Int)
  | 0, _, _, _, _, _ => none
  | n + 1, S, t, l1, l2, l3 => gC l3 (zF S t 6) (if l3 < (zF S t 6) then gC (zand (zshr l1 l3) 1) 1 (if (zand (zshr l1 l3) 1) = 1 then gX l3 8 (fT_yardsOf_1 n S t l1 (l2 + (zA S (t + 2) l3)) (l3 + 1)) else fT_yardsOf_1 n S t l1 l2 (l3 + 1)) else some l2)
set_option maxRecDepth 100000 in
set_option maxHeartbeats 4000000 in
theorem sT_yardsOf_1 (o : eO) (t : Nat) (ht : isT t) : ∀ (n : Nat) (S : ZS) (l1 l2 l3 : Int) {w : Int} {r : eP} (h : fT_yardsOf_1 n S t l1 l2 l3 = some w) (hk : eG o 48 36 [none, none, some (.int (zI w)), none] [] (rd S) r), eG o 48 4 [some (.ref t), some (.int (zI l1)), some (.int (zI l2)), some (.int (zI l3))] [] (rd S) r := by
  intro n
  induction n with
  | zero => intro S l1 l2 l3 w r h hk; unfold fT_yardsOf_1 at h; cases h
  | succ n ih =>
    intro S l1 l2 l3 w r h hk
    unfold fT_yardsOf_1 at h
    refine g_run 2 6 [some (.ref t), some (.int (zI l1)), some (.int (zI l2)), some (.int (zI l3))] [.ref t, .int (zI l3)] (rd S) rfl ?_
    refine g_getf rfl rfl (rd_t ht _) rfl ?_
    show eG _ 48 9 [some (.ref t), some (.int (zI l1)), some (.int (zI l2)), some (.int (zI l3))] [.int (zI (zF S t 6)), .int (zI l3)] (rd S) _
    refine s_icmp_ge rfl h (fun h => ?_) (fun h => ?_)
    · show eG _ 48 36 [some (.ref t), some (.int (zI l1)), some (.int (zI l2)), some (.int (zI l3))] [] (rd S) _
      refine g_fgt [true, true, false, true] ?_
      show eG _ 48 36 [none, none, some (.int (zI l2)), none] [] (rd S) _
      cases h
      exact hk
    · show eG _ 48 12 [some (.ref t), some (.int (zI l1)), some (.int (zI l2)), some (.int (zI l3))] [] (rd S) _
      refine g_run 2 14 [some (.ref t), some (.int (zI l1)), some (.int (zI l2)), some (.int (zI l3))] [.int (zI l3), .int (zI l1)] (rd S) rfl ?_
      refine s_ishr rfl ?_
      refine g_run 1 16 [some (.ref t), some (.int (zI l1)), some (.int (zI l2)), some (.int (zI l3))] [.int (zI 1), .int (zI (zshr l1 l3))] (rd S) rfl ?_
      refine s_iand rfl ?_
      refine g_run 1 18 [some (.ref t), some (.int (zI l1)), some (.int (zI l2)), some (.int (zI l3))] [.int (zI 1), .int (zI (zand (zshr l1 l3) 1))] (rd S) rfl ?_
      refine s_icmp_ne rfl h (fun h => ?_) (fun h => ?_)
      · show eG _ 48 30 [some (.ref t), some (.int (zI l1)), some (.int (zI l2)), some (.int (zI l3))] [] (rd S) _
        refine s_iinc (L' := [some (.ref t), some (.int (zI l1)), some (.int (zI l2)), some (.int (zI (l3 + 1)))]) rfl rfl rfl ?_
        refine g_run 1 4 [some (.ref t), some (.int (zI l1)), some (.int (zI l2)), some (.int (zI (l3 + 1)))] [] (rd S) rfl ?_
        exact ih S l1 l2 (l3 + 1) h hk
      · show eG _ 48 21 [some (.ref t), some (.int (zI l1)), some (.int (zI l2)), some (.int (zI l3))] [] (rd S) _
        refine g_run 2 23 [some (.ref t), some (.int (zI l1)), some (.int (zI l2)), some (.int (zI l3))] [.ref t, .int (zI l2)] (rd S) rfl ?_
        refine g_getf rfl rfl (rd_t ht _) rfl ?_
        show eG _ 48 26 [some (.ref t), some (.int (zI l1)), some (.int (zI l2)), some (.int (zI l3))] [.ref (t + 2), .int (zI l2)] (rd S) _
        refine g_run 1 27 [some (.ref t), some (.int (zI l1)), some (.int (zI l2)), some (.int (zI l3))] [.int (zI l3), .ref (t + 2), .int (zI l2)] (rd S) rfl ?_
        refine s_iald rfl (rd_t2 ht _) h (fun h => ?_)
        show eG _ 48 28 [some (.ref t), some (.int (zI l1)), some (.int (zI l2)), some (.int (zI l3))] [.int (zI (zA S (t + 2) l3)), .int (zI l2)] (rd S) _
        refine s_iadd rfl ?_
        refine g_run 1 30 [some (.ref t), some (.int (zI l1)), some (.int (zI (l2 + (zA S (t + 2) l3)))), some (.int (zI l3))] [] (rd S) rfl ?_
        refine s_iinc (L' := [some (.ref t), some (.int (zI l1)), some (.int (zI (l2 + (zA S (t + 2) l3)))), some (.int (zI (l3 + 1)))]) rfl rfl rfl ?_
        refine g_run 1 4 [some (.ref t), some (.int (zI l1)), some (.int (zI (l2 + (zA S (t + 2) l3)))), some (.int (zI (l3 + 1)))] [] (rd S) rfl ?_
        exact ih S l1 (l2 + (zA S (t + 2) l3)) (l3 + 1) h hk
def fT_yardsOf (n : Nat) (S : ZS) (t : Nat) (l1 : Int) : Option (Int) := (fT_yardsOf_1 n S t l1 0 0).bind fun z1 => some z1
set_option maxRecDepth 100000 in
set_option maxHeartbeats 4000000 in
theorem sT_yardsOf (o : eO) (n : Nat) (S : ZS) (t : Nat) (ht : isT t) (l1 : Int) {w : Int} (h : fT_yardsOf n S t l1 = some w) : eG o 48 0 (eEnt 48 [.ref t, .int (zI l1)]) [] (rd S) (rv (some (.int (zI w))) (rd S)) := by
  unfold fT_yardsOf at h
  show eG o 48 0 [some (.ref t), some (.int (zI l1)), none, none] [] (rd S) _
  refine g_run 4 4 [some (.ref t), some (.int (zI l1)), some (.int (zI 0)), some (.int (zI 0))] [] (rd S) rfl ?_
  obtain ⟨z1, h1, h⟩ := zB_inv h
  refine sT_yardsOf_1 o t ht n S l1 0 0 h1 ?_
  show eG _ 48 36 [none, none, some (.int (zI z1)), none] [] (rd S) _
  refine g_run 1 37 [none, none, some (.int (zI z1)), none] [.int (zI z1)] (rd S) rfl ?_
  cases h
  exact s_ret rfl rfl rfl
def fT_sheltered_1 : Nat → ZS → Nat → Int → Int → Int → Option (Int)
  | 0, _, _, _, _, _ => none
  | n + 1, S, t, l1, l2, l3 => gC l3 (zF S t 7) (if l3 < (zF S t 7) then gX l3 4 (gC (zand (zA S (t + 6) l3) l1) 0 (if (zand (zA S (t + 6) l3) l1) = 0 then fT_sheltered_1 n S t l1 l2 (l3 + 1) else fT_sheltered_1 n S t l1 (zor l2 (zshl 1 l3)) (l3 + 1))) else some l2)
set_option maxRecDepth 100000 in
set_option maxHeartbeats 4000000 in
theorem sT_sheltered_1 (o : eO) (t : Nat) (ht : isT t) : ∀ (n : Nat) (S : ZS) (l1 l2 l3 : Int) {w : Int} {r : eP} (h : fT_sheltered_1 n S t l1 l2 l3 = some w) (hk : eG o 49 35 [none, none, some (.int (zI w)), none] [] (rd S) r), eG o 49 4 [some (.ref t), some (.int (zI l1)), some (.int (zI l2)), some (.int (zI l3))] [] (rd S) r := by
  intro n
  induction n with
  | zero => intro S l1 l2 l3 w r h hk; unfold fT_sheltered_1 at h; cases h
  | succ n ih =>
    intro S l1 l2 l3 w r h hk
    unfold fT_sheltered_1 at h
    refine g_run 2 6 [some (.ref t), some (.int (zI l1)), some (.int (zI l2)), some (.int (zI l3))] [.ref t, .int (zI l3)] (rd S) rfl ?_
    refine g_getf rfl rfl (rd_t ht _) rfl ?_
    show eG _ 49 9 [some (.ref t), some (.int (zI l1)), some (.int (zI l2)), some (.int (zI l3))] [.int (zI (zF S t 7)), .int (zI l3)] (rd S) _
    refine s_icmp_ge rfl h (fun h => ?_) (fun h => ?_)
    · show eG _ 49 35 [some (.ref t), some (.int (zI l1)), some (.int (zI l2)), some (.int (zI l3))] [] (rd S) _
      refine g_fgt [true, true, false, true] ?_
      show eG _ 49 35 [none, none, some (.int (zI l2)), none] [] (rd S) _
      cases h
      exact hk
    · show eG _ 49 12 [some (.ref t), some (.int (zI l1)), some (.int (zI l2)), some (.int (zI l3))] [] (rd S) _
      refine g_run 1 13 [some (.ref t), some (.int (zI l1)), some (.int (zI l2)), some (.int (zI l3))] [.ref t] (rd S) rfl ?_
      refine g_getf rfl rfl (rd_t ht _) rfl ?_
      show eG _ 49 16 [some (.ref t), some (.int (zI l1)), some (.int (zI l2)), some (.int (zI l3))] [.ref (t + 6)] (rd S) _
      refine g_run 1 17 [some (.ref t), some (.int (zI l1)), some (.int (zI l2)), some (.int (zI l3))] [.int (zI l3), .ref (t + 6)] (rd S) rfl ?_
      refine s_iald rfl (rd_t6 ht _) h (fun h => ?_)
      show eG _ 49 18 [some (.ref t), some (.int (zI l1)), some (.int (zI l2)), some (.int (zI l3))] [.int (zI (zA S (t + 6) l3))] (rd S) _
      refine g_run 1 19 [some (.ref t), some (.int (zI l1)), some (.int (zI l2)), some (.int (zI l3))] [.int (zI l1), .int (zI (zA S (t + 6) l3))] (rd S) rfl ?_
      refine s_iand rfl ?_
      refine s_if_eq rfl h (fun h => ?_) (fun h => ?_)
      · show eG _ 49 29 [some (.ref t), some (.int (zI l1)), some (.int (zI l2)), some (.int (zI l3))] [] (rd S) _
        refine s_iinc (L' := [some (.ref t), some (.int (zI l1)), some (.int (zI l2)), some (.int (zI (l3 + 1)))]) rfl rfl rfl ?_
        refine g_run 1 4 [some (.ref t), some (.int (zI l1)), some (.int (zI l2)), some (.int (zI (l3 + 1)))] [] (rd S) rfl ?_
        exact ih S l1 l2 (l3 + 1) h hk
      · show eG _ 49 23 [some (.ref t), some (.int (zI l1)), some (.int (zI l2)), some (.int (zI l3))] [] (rd S) _
        refine g_run 3 26 [some (.ref t), some (.int (zI l1)), some (.int (zI l2)), some (.int (zI l3))] [.int (zI l3), .int (zI 1), .int (zI l2)] (rd S) rfl ?_
        refine s_ishl rfl ?_
        refine s_ior rfl ?_
        refine g_run 1 29 [some (.ref t), some (.int (zI l1)), some (.int (zI (zor l2 (zshl 1 l3)))), some (.int (zI l3))] [] (rd S) rfl ?_
        refine s_iinc (L' := [some (.ref t), some (.int (zI l1)), some (.int (zI (zor l2 (zshl 1 l3)))), some (.int (zI (l3 + 1)))]) rfl rfl rfl ?_
        refine g_run 1 4 [some (.ref t), some (.int (zI l1)), some (.int (zI (zor l2 (zshl 1 l3)))), some (.int (zI (l3 + 1)))] [] (rd S) rfl ?_
        exact ih S l1 (zor l2 (zshl 1 l3)) (l3 + 1) h hk
def fT_sheltered (n : Nat) (S : ZS) (t : Nat) (l1 : Int) : Option (Int) := (fT_sheltered_1 n S t l1 0 0).bind fun z1 => some z1
set_option maxRecDepth 100000 in
set_option maxHeartbeats 4000000 in
theorem sT_sheltered (o : eO) (n : Nat) (S : ZS) (t : Nat) (ht : isT t) (l1 : Int) {w : Int} (h : fT_sheltered n S t l1 = some w) : eG o 49 0 (eEnt 49 [.ref t, .int (zI l1)]) [] (rd S) (rv (some (.int (zI w))) (rd S)) := by
  unfold fT_sheltered at h
  show eG o 49 0 [some (.ref t), some (.int (zI l1)), none, none] [] (rd S) _
  refine g_run 4 4 [some (.ref t), some (.int (zI l1)), some (.int (zI 0)), some (.int (zI 0))] [] (rd S) rfl ?_
  obtain ⟨z1, h1, h⟩ := zB_inv h
  refine sT_sheltered_1 o t ht n S l1 0 0 h1 ?_
  show eG _ 49 35 [none, none, some (.int (zI z1)), none] [] (rd S) _
  refine g_run 1 36 [none, none, some (.int (zI z1)), none] [.int (zI z1)] (rd S) rfl ?_
  cases h
  exact s_ret rfl rfl rfl
def fD_count (n : Nat) (S : ZS) (l1 : Int) : Option (Int) := gC l1 0 (if l1 = 0 then some (zF S 1 6) else if l1 = 1 then some (zF S 1 8) else if l1 = 2 then some (zF S 1 10) else if l1 = 3 then some (zF S 1 7) else if l1 = 4 then (fT_yardsOf n S 1 (zF S 1 8)).bind fun z1 => some z1 else if l1 = 5 then (fT_sheltered n S 1 (zF S 1 8)).bind fun z2 => some z2 else some (-1))
set_option maxRecDepth 100000 in
set_option maxHeartbeats 4000000 in
theorem sD_count (o : eO) (n : Nat) (S : ZS) (l1 : Int) {w : Int} (h : fD_count n S l1 = some w) : eG o 47 0 (eEnt 47 [.ref 0, .int (zI l1)]) [] (rd S) (rv (some (.int (zI w))) (rd S)) := by
  unfold fD_count at h
  show eG o 47 0 [some (.ref 0), some (.int (zI l1))] [] (rd S) _
  refine g_run 1 1 [some (.ref 0), some (.int (zI l1))] [.int (zI l1)] (rd S) rfl ?_
  obtain ⟨⟨hr1, hr2, -⟩, h⟩ := gC_inv h
  by_cases c : l1 = 0
  · rw [if_pos c] at h
    refine s_tabv 40 rfl ⟨hr1, hr2⟩ (by rw [c]; rfl) ?_
    show eG _ 47 40 [some (.ref 0), some (.int (zI l1))] [] (rd S) _
    refine g_run 1 41 [some (.ref 0), some (.int (zI l1))] [.ref 0] (rd S) rfl ?_
    refine g_getf rfl rfl (rd_o0 _) rfl ?_
    show eG _ 47 44 [some (.ref 0), some (.int (zI l1))] [.ref 1] (rd S) _
    refine g_getf rfl rfl (rd_o1 _) rfl ?_
    show eG _ 47 47 [some (.ref 0), some (.int (zI l1))] [.int (zI (zF S 1 6))] (rd S) _
    cases h
    exact s_ret rfl rfl rfl
  rw [if_neg c] at h
  have c0 := c
  by_cases c : l1 = 1
  · rw [if_pos c] at h
    refine s_tabv 48 rfl ⟨hr1, hr2⟩ (by rw [c]; rfl) ?_
    show eG _ 47 48 [some (.ref 0), some (.int (zI l1))] [] (rd S) _
    refine g_run 1 49 [some (.ref 0), some (.int (zI l1))] [.ref 0] (rd S) rfl ?_
    refine g_getf rfl rfl (rd_o0 _) rfl ?_
    show eG _ 47 52 [some (.ref 0), some (.int (zI l1))] [.ref 1] (rd S) _
    refine g_getf rfl rfl (rd_o1 _) rfl ?_
    show eG _ 47 55 [some (.ref 0), some (.int (zI l1))] [.int (zI (zF S 1 8))] (rd S) _
    cases h
    exact s_ret rfl rfl rfl
  rw [if_neg c] at h
  have c1 := c
  by_cases c : l1 = 2
  · rw [if_pos c] at h
    refine s_tabv 56 rfl ⟨hr1, hr2⟩ (by rw [c]; rfl) ?_
    show eG _ 47 56 [some (.ref 0), some (.int (zI l1))] [] (rd S) _
    refine g_run 1 57 [some (.ref 0), some (.int (zI l1))] [.ref 0] (rd S) rfl ?_
    refine g_getf rfl rfl (rd_o0 _) rfl ?_
    show eG _ 47 60 [some (.ref 0), some (.int (zI l1))] [.ref 1] (rd S) _
    refine g_getf rfl rfl (rd_o1 _) rfl ?_
    show eG _ 47 63 [some (.ref 0), some (.int (zI l1))] [.int (zI (zF S 1 10))] (rd S) _
    cases h
    exact s_ret rfl rfl rfl
  rw [if_neg c] at h
  have c2 := c
  by_cases c : l1 = 3
  · rw [if_pos c] at h
    refine s_tabv 64 rfl ⟨hr1, hr2⟩ (by rw [c]; rfl) ?_
    show eG _ 47 64 [some (.ref 0), some (.int (zI l1))] [] (rd S) _
    refine g_run 1 65 [some (.ref 0), some (.int (zI l1))] [.ref 0] (rd S) rfl ?_
    refine g_getf rfl rfl (rd_o0 _) rfl ?_
    show eG _ 47 68 [some (.ref 0), some (.int (zI l1))] [.ref 1] (rd S) _
    refine g_getf rfl rfl (rd_o1 _) rfl ?_
    show eG _ 47 71 [some (.ref 0), some (.int (zI l1))] [.int (zI (zF S 1 7))] (rd S) _
    cases h
    exact s_ret rfl rfl rfl
  rw [if_neg c] at h
  have c3 := c
  by_cases c : l1 = 4
  · rw [if_pos c] at h
    refine s_tabv 72 rfl ⟨hr1, hr2⟩ (by rw [c]; rfl) ?_
    show eG _ 47 72 [some (.ref 0), some (.int (zI l1))] [] (rd S) _
    refine g_run 1 73 [some (.ref 0), some (.int (zI l1))] [.ref 0] (rd S) rfl ?_
    refine g_getf rfl rfl (rd_o0 _) rfl ?_
    show eG _ 47 76 [some (.ref 0), some (.int (zI l1))] [.ref 1] (rd S) _
    refine g_run 1 77 [some (.ref 0), some (.int (zI l1))] [.ref 0, .ref 1] (rd S) rfl ?_
    refine g_getf rfl rfl (rd_o0 _) rfl ?_
    show eG _ 47 80 [some (.ref 0), some (.int (zI l1))] [.ref 1, .ref 1] (rd S) _
    refine g_getf rfl rfl (rd_o1 _) rfl ?_
    show eG _ 47 83 [some (.ref 0), some (.int (zI l1))] [.int (zI (zF S 1 8)), .ref 1] (rd S) _
    refine s_vir (fun z => some (.int (zI z))) (fun _ => rd S) rfl rfl rfl (rd_o1 _) rfl rfl (fun z hz => sT_yardsOf o n S 1 (Or.inl rfl) (zF S 1 8) hz) rfl h (fun z1 h => ?_)
    show eG _ 47 86 [some (.ref 0), some (.int (zI l1))] [.int (zI z1)] (rd S) _
    cases h
    exact s_ret rfl rfl rfl
  rw [if_neg c] at h
  have c4 := c
  by_cases c : l1 = 5
  · rw [if_pos c] at h
    refine s_tabv 87 rfl ⟨hr1, hr2⟩ (by rw [c]; rfl) ?_
    show eG _ 47 87 [some (.ref 0), some (.int (zI l1))] [] (rd S) _
    refine g_run 1 88 [some (.ref 0), some (.int (zI l1))] [.ref 0] (rd S) rfl ?_
    refine g_getf rfl rfl (rd_o0 _) rfl ?_
    show eG _ 47 91 [some (.ref 0), some (.int (zI l1))] [.ref 1] (rd S) _
    refine g_run 1 92 [some (.ref 0), some (.int (zI l1))] [.ref 0, .ref 1] (rd S) rfl ?_
    refine g_getf rfl rfl (rd_o0 _) rfl ?_
    show eG _ 47 95 [some (.ref 0), some (.int (zI l1))] [.ref 1, .ref 1] (rd S) _
    refine g_getf rfl rfl (rd_o1 _) rfl ?_
    show eG _ 47 98 [some (.ref 0), some (.int (zI l1))] [.int (zI (zF S 1 8)), .ref 1] (rd S) _
    refine s_vir (fun z => some (.int (zI z))) (fun _ => rd S) rfl rfl rfl (rd_o1 _) rfl rfl (fun z hz => sT_sheltered o n S 1 (Or.inl rfl) (zF S 1 8) hz) rfl h (fun z2 h => ?_)
    show eG _ 47 101 [some (.ref 0), some (.int (zI l1))] [.int (zI z2)] (rd S) _
    cases h
    exact s_ret rfl rfl rfl
  rw [if_neg c] at h
  have c5 := c
  refine s_tabv 102 rfl ⟨hr1, hr2⟩ (by rw [if_pos (by omega)]; rfl) ?_
  show eG _ 47 102 [some (.ref 0), some (.int (zI l1))] [] (rd S) _
  refine g_run 1 103 [some (.ref 0), some (.int (zI l1))] [.int (zI (-1))] (rd S) rfl ?_
  cases h
  exact s_ret rfl rfl rfl
def fT_isWeek (n : Nat) (S : ZS) (t : Nat) (l1 l3 : Int) : Option (Int) := (fT_isSet n S t l1).bind fun z1 => (gC z1 0 (if z1 = 0 then some 0 else (fT_isSet n S t l3).bind fun z3 => gC z3 0 (if z3 = 0 then some 0 else gC (zxor (zF S t 8) (-1)) 0 (gL (zlan l1 (zxor (zF S t 8) (-1))) 0 (gC (zcmp (zlan l1 (zxor (zF S t 8) (-1))) 0) 0 (if (zcmp (zlan l1 (zxor (zF S t 8) (-1))) 0) = 0 then gC (zF S t 8) 0 (gL (zlan l3 (zF S t 8)) 0 (gC (zcmp (zlan l3 (zF S t 8)) 0) 0 (if (zcmp (zlan l3 (zF S t 8)) 0) = 0 then some 1 else some 0))) else some 0)))))).bind fun z2 => gB z2 (some z2)
set_option maxRecDepth 100000 in
set_option maxHeartbeats 4000000 in
theorem sT_isWeek (o : eO) (n : Nat) (S : ZS) (t : Nat) (ht : isT t) (l1 l3 : Int) {w : Int} (h : fT_isWeek n S t l1 l3 = some w) : eG o 51 0 (eEnt 51 [.ref t, .long (zL l1), .long (zL l3)]) [] (rd S) (rv (some (.int (zI w))) (rd S)) := by
  unfold fT_isWeek at h
  show eG o 51 0 [some (.ref t), some (.long (zL l1)), none, some (.long (zL l3)), none] [] (rd S) _
  refine g_run 2 2 [some (.ref t), some (.long (zL l1)), none, some (.long (zL l3)), none] [.long (zL l1), .ref t] (rd S) rfl ?_
  refine s_vir (fun z => some (.int (zI z))) (fun _ => rd S) rfl rfl rfl (rd_t ht _) rfl rfl (fun z hz => sT_isSet o n S t ht l1 hz) rfl h (fun z1 h => ?_)
  show eG _ 51 5 [some (.ref t), some (.long (zL l1)), none, some (.long (zL l3)), none] [.int (zI z1)] (rd S) _
  refine s_join (α := Int) (fun z => eG o 51 47 [none, none, none, none, none] [.int (zI z)] (rd S) (rv (some (.int (zI w))) (rd S))) h (fun z2 h => ?_) (fun z2 h j => ?_)
  · show eG _ 51 47 [none, none, none, none, none] [.int (zI z2)] (rd S) _
    exact s_retB rfl rfl h (fun h => by cases h; exact rfl)
  · skip
    refine s_if_eq rfl h (fun h => ?_) (fun h => ?_)
    · show eG _ 51 46 [some (.ref t), some (.long (zL l1)), none, some (.long (zL l3)), none] [] (rd S) _
      refine g_run 1 47 [some (.ref t), some (.long (zL l1)), none, some (.long (zL l3)), none] [.int (zI 0)] (rd S) rfl ?_
      refine g_fgt [true, true, true, true, true] ?_
      show eG _ 51 47 [none, none, none, none, none] [.int (zI 0)] (rd S) _
      cases h
      exact j
    · show eG _ 51 8 [some (.ref t), some (.long (zL l1)), none, some (.long (zL l3)), none] [] (rd S) _
      refine g_run 2 10 [some (.ref t), some (.long (zL l1)), none, some (.long (zL l3)), none] [.long (zL l3), .ref t] (rd S) rfl ?_
      refine s_vir (fun z => some (.int (zI z))) (fun _ => rd S) rfl rfl rfl (rd_t ht _) rfl rfl (fun z hz => sT_isSet o n S t ht l3 hz) rfl h (fun z3 h => ?_)
      show eG _ 51 13 [some (.ref t), some (.long (zL l1)), none, some (.long (zL l3)), none] [.int (zI z3)] (rd S) _
      refine s_if_eq rfl h (fun h => ?_) (fun h => ?_)
      · show eG _ 51 46 [some (.ref t), some (.long (zL l1)), none, some (.long (zL l3)), none] [] (rd S) _
        refine g_run 1 47 [some (.ref t), some (.long (zL l1)), none, some (.long (zL l3)), none] [.int (zI 0)] (rd S) rfl ?_
        refine g_fgt [true, true, true, true, true] ?_
        show eG _ 51 47 [none, none, none, none, none] [.int (zI 0)] (rd S) _
        cases h
        exact j
      · show eG _ 51 16 [some (.ref t), some (.long (zL l1)), none, some (.long (zL l3)), none] [] (rd S) _
        refine g_run 2 18 [some (.ref t), some (.long (zL l1)), none, some (.long (zL l3)), none] [.ref t, .long (zL l1)] (rd S) rfl ?_
        refine g_getf rfl rfl (rd_t ht _) rfl ?_
        show eG _ 51 21 [some (.ref t), some (.long (zL l1)), none, some (.long (zL l3)), none] [.int (zI (zF S t 8)), .long (zL l1)] (rd S) _
        refine g_run 1 22 [some (.ref t), some (.long (zL l1)), none, some (.long (zL l3)), none] [.int (zI (-1)), .int (zI (zF S t 8)), .long (zL l1)] (rd S) rfl ?_
        refine s_ixor rfl ?_
        refine s_i2l rfl h (fun h => ?_)
        refine s_land rfl ?_
        refine g_run 1 26 [some (.ref t), some (.long (zL l1)), none, some (.long (zL l3)), none] [.long (zL 0), .long (zL (zlan l1 (zxor (zF S t 8) (-1))))] (rd S) rfl ?_
        refine s_lcmp rfl h (fun h => ?_)
        refine s_if_ne rfl h (fun h => ?_) (fun h => ?_)
        · show eG _ 51 46 [some (.ref t), some (.long (zL l1)), none, some (.long (zL l3)), none] [] (rd S) _
          refine g_run 1 47 [some (.ref t), some (.long (zL l1)), none, some (.long (zL l3)), none] [.int (zI 0)] (rd S) rfl ?_
          refine g_fgt [true, true, true, true, true] ?_
          show eG _ 51 47 [none, none, none, none, none] [.int (zI 0)] (rd S) _
          cases h
          exact j
        · show eG _ 51 30 [some (.ref t), some (.long (zL l1)), none, some (.long (zL l3)), none] [] (rd S) _
          refine g_run 2 32 [some (.ref t), some (.long (zL l1)), none, some (.long (zL l3)), none] [.ref t, .long (zL l3)] (rd S) rfl ?_
          refine g_getf rfl rfl (rd_t ht _) rfl ?_
          show eG _ 51 35 [some (.ref t), some (.long (zL l1)), none, some (.long (zL l3)), none] [.int (zI (zF S t 8)), .long (zL l3)] (rd S) _
          refine s_i2l rfl h (fun h => ?_)
          refine s_land rfl ?_
          refine g_run 1 38 [some (.ref t), some (.long (zL l1)), none, some (.long (zL l3)), none] [.long (zL 0), .long (zL (zlan l3 (zF S t 8)))] (rd S) rfl ?_
          refine s_lcmp rfl h (fun h => ?_)
          refine s_if_ne rfl h (fun h => ?_) (fun h => ?_)
          · show eG _ 51 46 [some (.ref t), some (.long (zL l1)), none, some (.long (zL l3)), none] [] (rd S) _
            refine g_run 1 47 [some (.ref t), some (.long (zL l1)), none, some (.long (zL l3)), none] [.int (zI 0)] (rd S) rfl ?_
            refine g_fgt [true, true, true, true, true] ?_
            show eG _ 51 47 [none, none, none, none, none] [.int (zI 0)] (rd S) _
            cases h
            exact j
          · show eG _ 51 42 [some (.ref t), some (.long (zL l1)), none, some (.long (zL l3)), none] [] (rd S) _
            refine g_run 2 47 [some (.ref t), some (.long (zL l1)), none, some (.long (zL l3)), none] [.int (zI 1)] (rd S) rfl ?_
            refine g_fgt [true, true, true, true, true] ?_
            show eG _ 51 47 [none, none, none, none, none] [.int (zI 1)] (rd S) _
            cases h
            exact j
def fT_givenByComing (n : Nat) (S : ZS) (t : Nat) (l1 : Int) : Option (Int) := gX l1 8 (gC (zA S (t + 1) l1) 2 (if (zA S (t + 1) l1) = 2 then gX l1 8 (some (zA S (t + 2) l1)) else gX l1 8 (some (-(zA S (t + 2) l1)))))
set_option maxRecDepth 100000 in
set_option maxHeartbeats 4000000 in
theorem sT_givenByComing (o : eO) (n : Nat) (S : ZS) (t : Nat) (ht : isT t) (l1 : Int) {w : Int} (h : fT_givenByComing n S t l1 = some w) : eG o 55 0 (eEnt 55 [.ref t, .int (zI l1)]) [] (rd S) (rv (some (.int (zI w))) (rd S)) := by
  unfold fT_givenByComing at h
  show eG o 55 0 [some (.ref t), some (.int (zI l1))] [] (rd S) _
  refine g_run 1 1 [some (.ref t), some (.int (zI l1))] [.ref t] (rd S) rfl ?_
  refine g_getf rfl rfl (rd_t ht _) rfl ?_
  show eG _ 55 4 [some (.ref t), some (.int (zI l1))] [.ref (t + 1)] (rd S) _
  refine g_run 1 5 [some (.ref t), some (.int (zI l1))] [.int (zI l1), .ref (t + 1)] (rd S) rfl ?_
  refine s_iald rfl (rd_t1 ht _) h (fun h => ?_)
  show eG _ 55 6 [some (.ref t), some (.int (zI l1))] [.int (zI (zA S (t + 1) l1))] (rd S) _
  refine g_run 1 7 [some (.ref t), some (.int (zI l1))] [.int (zI 2), .int (zI (zA S (t + 1) l1))] (rd S) rfl ?_
  refine s_icmp_ne rfl h (fun h => ?_) (fun h => ?_)
  · show eG _ 55 19 [some (.ref t), some (.int (zI l1))] [] (rd S) _
    refine g_run 1 20 [some (.ref t), some (.int (zI l1))] [.ref t] (rd S) rfl ?_
    refine g_getf rfl rfl (rd_t ht _) rfl ?_
    show eG _ 55 23 [some (.ref t), some (.int (zI l1))] [.ref (t + 2)] (rd S) _
    refine g_run 1 24 [some (.ref t), some (.int (zI l1))] [.int (zI l1), .ref (t + 2)] (rd S) rfl ?_
    refine s_iald rfl (rd_t2 ht _) h (fun h => ?_)
    show eG _ 55 25 [some (.ref t), some (.int (zI l1))] [.int (zI (zA S (t + 2) l1))] (rd S) _
    refine s_ineg rfl ?_
    cases h
    exact s_ret rfl rfl rfl
  · show eG _ 55 10 [some (.ref t), some (.int (zI l1))] [] (rd S) _
    refine g_run 1 11 [some (.ref t), some (.int (zI l1))] [.ref t] (rd S) rfl ?_
    refine g_getf rfl rfl (rd_t ht _) rfl ?_
    show eG _ 55 14 [some (.ref t), some (.int (zI l1))] [.ref (t + 2)] (rd S) _
    refine g_run 1 15 [some (.ref t), some (.int (zI l1))] [.int (zI l1), .ref (t + 2)] (rd S) rfl ?_
    refine s_iald rfl (rd_t2 ht _) h (fun h => ?_)
    show eG _ 55 16 [some (.ref t), some (.int (zI l1))] [.int (zI (zA S (t + 2) l1))] (rd S) _
    refine g_run 1 26 [some (.ref t), some (.int (zI l1))] [.int (zI (zA S (t + 2) l1))] (rd S) rfl ?_
    cases h
    exact s_ret rfl rfl rfl
def fT_givenByGoing (n : Nat) (S : ZS) (t : Nat) (l1 : Int) : Option (Int) := gX l1 8 (gC (zA S (t + 1) l1) 0 (if (zA S (t + 1) l1) = 1 then gX l1 8 (some ((zA S (t + 2) l1) - 1)) else if (zA S (t + 1) l1) = 2 then gX l1 8 (some (-(zA S (t + 2) l1))) else if (zA S (t + 1) l1) = 3 then gX l1 8 (gV (zA S (t + 2) l1) 2 (some ((zA S (t + 2) l1).tdiv 2))) else gX l1 8 (some (zA S (t + 2) l1))))
set_option maxRecDepth 100000 in
set_option maxHeartbeats 4000000 in
theorem sT_givenByGoing (o : eO) (n : Nat) (S : ZS) (t : Nat) (ht : isT t) (l1 : Int) {w : Int} (h : fT_givenByGoing n S t l1 = some w) : eG o 54 0 (eEnt 54 [.ref t, .int (zI l1)]) [] (rd S) (rv (some (.int (zI w))) (rd S)) := by
  unfold fT_givenByGoing at h
  show eG o 54 0 [some (.ref t), some (.int (zI l1))] [] (rd S) _
  refine g_run 1 1 [some (.ref t), some (.int (zI l1))] [.ref t] (rd S) rfl ?_
  refine g_getf rfl rfl (rd_t ht _) rfl ?_
  show eG _ 54 4 [some (.ref t), some (.int (zI l1))] [.ref (t + 1)] (rd S) _
  refine g_run 1 5 [some (.ref t), some (.int (zI l1))] [.int (zI l1), .ref (t + 1)] (rd S) rfl ?_
  refine s_iald rfl (rd_t1 ht _) h (fun h => ?_)
  show eG _ 54 6 [some (.ref t), some (.int (zI l1))] [.int (zI (zA S (t + 1) l1))] (rd S) _
  obtain ⟨⟨hr1, hr2, -⟩, h⟩ := gC_inv h
  by_cases c : (zA S (t + 1) l1) = 1
  · rw [if_pos c] at h
    refine s_tabv 32 rfl ⟨hr1, hr2⟩ (by rw [c]; rfl) ?_
    show eG _ 54 32 [some (.ref t), some (.int (zI l1))] [] (rd S) _
    refine g_run 1 33 [some (.ref t), some (.int (zI l1))] [.ref t] (rd S) rfl ?_
    refine g_getf rfl rfl (rd_t ht _) rfl ?_
    show eG _ 54 36 [some (.ref t), some (.int (zI l1))] [.ref (t + 2)] (rd S) _
    refine g_run 1 37 [some (.ref t), some (.int (zI l1))] [.int (zI l1), .ref (t + 2)] (rd S) rfl ?_
    refine s_iald rfl (rd_t2 ht _) h (fun h => ?_)
    show eG _ 54 38 [some (.ref t), some (.int (zI l1))] [.int (zI (zA S (t + 2) l1))] (rd S) _
    refine g_run 1 39 [some (.ref t), some (.int (zI l1))] [.int (zI 1), .int (zI (zA S (t + 2) l1))] (rd S) rfl ?_
    refine s_isub rfl ?_
    cases h
    exact s_ret rfl rfl rfl
  rw [if_neg c] at h
  have c1 := c
  by_cases c : (zA S (t + 1) l1) = 2
  · rw [if_pos c] at h
    refine s_tabv 41 rfl ⟨hr1, hr2⟩ (by rw [c]; rfl) ?_
    show eG _ 54 41 [some (.ref t), some (.int (zI l1))] [] (rd S) _
    refine g_run 1 42 [some (.ref t), some (.int (zI l1))] [.ref t] (rd S) rfl ?_
    refine g_getf rfl rfl (rd_t ht _) rfl ?_
    show eG _ 54 45 [some (.ref t), some (.int (zI l1))] [.ref (t + 2)] (rd S) _
    refine g_run 1 46 [some (.ref t), some (.int (zI l1))] [.int (zI l1), .ref (t + 2)] (rd S) rfl ?_
    refine s_iald rfl (rd_t2 ht _) h (fun h => ?_)
    show eG _ 54 47 [some (.ref t), some (.int (zI l1))] [.int (zI (zA S (t + 2) l1))] (rd S) _
    refine s_ineg rfl ?_
    cases h
    exact s_ret rfl rfl rfl
  rw [if_neg c] at h
  have c2 := c
  by_cases c : (zA S (t + 1) l1) = 3
  · rw [if_pos c] at h
    refine s_tabv 49 rfl ⟨hr1, hr2⟩ (by rw [c]; rfl) ?_
    show eG _ 54 49 [some (.ref t), some (.int (zI l1))] [] (rd S) _
    refine g_run 1 50 [some (.ref t), some (.int (zI l1))] [.ref t] (rd S) rfl ?_
    refine g_getf rfl rfl (rd_t ht _) rfl ?_
    show eG _ 54 53 [some (.ref t), some (.int (zI l1))] [.ref (t + 2)] (rd S) _
    refine g_run 1 54 [some (.ref t), some (.int (zI l1))] [.int (zI l1), .ref (t + 2)] (rd S) rfl ?_
    refine s_iald rfl (rd_t2 ht _) h (fun h => ?_)
    show eG _ 54 55 [some (.ref t), some (.int (zI l1))] [.int (zI (zA S (t + 2) l1))] (rd S) _
    refine g_run 1 56 [some (.ref t), some (.int (zI l1))] [.int (zI 2), .int (zI (zA S (t + 2) l1))] (rd S) rfl ?_
    refine s_idiv rfl h (fun h => ?_)
    cases h
    exact s_ret rfl rfl rfl
  rw [if_neg c] at h
  have c3 := c
  refine s_tabv 58 rfl ⟨hr1, hr2⟩ (by rw [if_pos (by omega)]; rfl) ?_
  show eG _ 54 58 [some (.ref t), some (.int (zI l1))] [] (rd S) _
  refine g_run 1 59 [some (.ref t), some (.int (zI l1))] [.ref t] (rd S) rfl ?_
  refine g_getf rfl rfl (rd_t ht _) rfl ?_
  show eG _ 54 62 [some (.ref t), some (.int (zI l1))] [.ref (t + 2)] (rd S) _
  refine g_run 1 63 [some (.ref t), some (.int (zI l1))] [.int (zI l1), .ref (t + 2)] (rd S) rfl ?_
  refine s_iald rfl (rd_t2 ht _) h (fun h => ?_)
  show eG _ 54 64 [some (.ref t), some (.int (zI l1))] [.int (zI (zA S (t + 2) l1))] (rd S) _
  cases h
  exact s_ret rfl rfl rfl
def fT_over_1 : Nat → ZS → Nat → Int → Int → Int → Int → Option (Int)
  | 0, _, _, _, _, _, _ => none
  | n + 1, S, t, l1, l2, l3, l4 => gC l4 (zF S t 6) (if l4 < (zF S t 6) then gC (zand (zshr l1 l4) 1) 1 (if (zand (zshr l1 l4) 1) = 1 then (fT_givenByGoing n S t l4).bind fun z2 => fT_over_1 n S t l1 l2 (l3 + z2) (l4 + 1) else gC (zand (zshr l2 l4) 1) 1 (if (zand (zshr l2 l4) 1) = 1 then (fT_givenByComing n S t l4).bind fun z1 => fT_over_1 n S t l1 l2 (l3 + z1) (l4 + 1) else fT_over_1 n S t l1 l2 l3 (l4 + 1))) else some l3)
set_option maxRecDepth 100000 in
set_option maxHeartbeats 4000000 in
theorem sT_over_1 (o : eO) (t : Nat) (ht : isT t) : ∀ (n : Nat) (S : ZS) (l1 l2 l3 l4 : Int) {w : Int} {r : eP} (h : fT_over_1 n S t l1 l2 l3 l4 = some w) (hk : eG o 53 64 [none, none, none, some (.int (zI w)), none] [] (rd S) r), eG o 53 8 [some (.ref t), some (.int (zI l1)), some (.int (zI l2)), some (.int (zI l3)), some (.int (zI l4))] [] (rd S) r := by
  intro n
  induction n with
  | zero => intro S l1 l2 l3 l4 w r h hk; unfold fT_over_1 at h; cases h
  | succ n ih =>
    intro S l1 l2 l3 l4 w r h hk
    unfold fT_over_1 at h
    refine g_run 2 11 [some (.ref t), some (.int (zI l1)), some (.int (zI l2)), some (.int (zI l3)), some (.int (zI l4))] [.ref t, .int (zI l4)] (rd S) rfl ?_
    refine g_getf rfl rfl (rd_t ht _) rfl ?_
    show eG _ 53 14 [some (.ref t), some (.int (zI l1)), some (.int (zI l2)), some (.int (zI l3)), some (.int (zI l4))] [.int (zI (zF S t 6)), .int (zI l4)] (rd S) _
    refine s_icmp_ge rfl h (fun h => ?_) (fun h => ?_)
    · show eG _ 53 64 [some (.ref t), some (.int (zI l1)), some (.int (zI l2)), some (.int (zI l3)), some (.int (zI l4))] [] (rd S) _
      refine g_fgt [true, true, true, false, true] ?_
      show eG _ 53 64 [none, none, none, some (.int (zI l3)), none] [] (rd S) _
      cases h
      exact hk
    · show eG _ 53 17 [some (.ref t), some (.int (zI l1)), some (.int (zI l2)), some (.int (zI l3)), some (.int (zI l4))] [] (rd S) _
      refine g_run 2 20 [some (.ref t), some (.int (zI l1)), some (.int (zI l2)), some (.int (zI l3)), some (.int (zI l4))] [.int (zI l4), .int (zI l1)] (rd S) rfl ?_
      refine s_ishr rfl ?_
      refine g_run 1 22 [some (.ref t), some (.int (zI l1)), some (.int (zI l2)), some (.int (zI l3)), some (.int (zI l4))] [.int (zI 1), .int (zI (zshr l1 l4))] (rd S) rfl ?_
      refine s_iand rfl ?_
      refine g_run 1 24 [some (.ref t), some (.int (zI l1)), some (.int (zI l2)), some (.int (zI l3)), some (.int (zI l4))] [.int (zI 1), .int (zI (zand (zshr l1 l4) 1))] (rd S) rfl ?_
      refine s_icmp_ne rfl h (fun h => ?_) (fun h => ?_)
      · show eG _ 53 39 [some (.ref t), some (.int (zI l1)), some (.int (zI l2)), some (.int (zI l3)), some (.int (zI l4))] [] (rd S) _
        refine g_run 2 42 [some (.ref t), some (.int (zI l1)), some (.int (zI l2)), some (.int (zI l3)), some (.int (zI l4))] [.int (zI l4), .int (zI l2)] (rd S) rfl ?_
        refine s_ishr rfl ?_
        refine g_run 1 44 [some (.ref t), some (.int (zI l1)), some (.int (zI l2)), some (.int (zI l3)), some (.int (zI l4))] [.int (zI 1), .int (zI (zshr l2 l4))] (rd S) rfl ?_
        refine s_iand rfl ?_
        refine g_run 1 46 [some (.ref t), some (.int (zI l1)), some (.int (zI l2)), some (.int (zI l3)), some (.int (zI l4))] [.int (zI 1), .int (zI (zand (zshr l2 l4) 1))] (rd S) rfl ?_
        refine s_icmp_ne rfl h (fun h => ?_) (fun h => ?_)
        · show eG _ 53 58 [some (.ref t), some (.int (zI l1)), some (.int (zI l2)), some (.int (zI l3)), some (.int (zI l4))] [] (rd S) _
          refine s_iinc (L' := [some (.ref t), some (.int (zI l1)), some (.int (zI l2)), some (.int (zI l3)), some (.int (zI (l4 + 1)))]) rfl rfl rfl ?_
          refine g_run 1 8 [some (.ref t), some (.int (zI l1)), some (.int (zI l2)), some (.int (zI l3)), some (.int (zI (l4 + 1)))] [] (rd S) rfl ?_
          exact ih S l1 l2 l3 (l4 + 1) h hk
        · show eG _ 53 49 [some (.ref t), some (.int (zI l1)), some (.int (zI l2)), some (.int (zI l3)), some (.int (zI l4))] [] (rd S) _
          refine g_run 3 53 [some (.ref t), some (.int (zI l1)), some (.int (zI l2)), some (.int (zI l3)), some (.int (zI l4))] [.int (zI l4), .ref t, .int (zI l3)] (rd S) rfl ?_
          refine s_vir (fun z => some (.int (zI z))) (fun _ => rd S) rfl rfl rfl (rd_t ht _) rfl rfl (fun z hz => sT_givenByComing o n S t ht l4 hz) rfl h (fun z1 h => ?_)
          show eG _ 53 56 [some (.ref t), some (.int (zI l1)), some (.int (zI l2)), some (.int (zI l3)), some (.int (zI l4))] [.int (zI z1), .int (zI l3)] (rd S) _
          refine s_iadd rfl ?_
          refine g_run 1 58 [some (.ref t), some (.int (zI l1)), some (.int (zI l2)), some (.int (zI (l3 + z1))), some (.int (zI l4))] [] (rd S) rfl ?_
          refine s_iinc (L' := [some (.ref t), some (.int (zI l1)), some (.int (zI l2)), some (.int (zI (l3 + z1))), some (.int (zI (l4 + 1)))]) rfl rfl rfl ?_
          refine g_run 1 8 [some (.ref t), some (.int (zI l1)), some (.int (zI l2)), some (.int (zI (l3 + z1))), some (.int (zI (l4 + 1)))] [] (rd S) rfl ?_
          exact ih S l1 l2 (l3 + z1) (l4 + 1) h hk
      · show eG _ 53 27 [some (.ref t), some (.int (zI l1)), some (.int (zI l2)), some (.int (zI l3)), some (.int (zI l4))] [] (rd S) _
        refine g_run 3 31 [some (.ref t), some (.int (zI l1)), some (.int (zI l2)), some (.int (zI l3)), some (.int (zI l4))] [.int (zI l4), .ref t, .int (zI l3)] (rd S) rfl ?_
        refine s_vir (fun z => some (.int (zI z))) (fun _ => rd S) rfl rfl rfl (rd_t ht _) rfl rfl (fun z hz => sT_givenByGoing o n S t ht l4 hz) rfl h (fun z2 h => ?_)
        show eG _ 53 34 [some (.ref t), some (.int (zI l1)), some (.int (zI l2)), some (.int (zI l3)), some (.int (zI l4))] [.int (zI z2), .int (zI l3)] (rd S) _
        refine s_iadd rfl ?_
        refine g_run 2 58 [some (.ref t), some (.int (zI l1)), some (.int (zI l2)), some (.int (zI (l3 + z2))), some (.int (zI l4))] [] (rd S) rfl ?_
        refine s_iinc (L' := [some (.ref t), some (.int (zI l1)), some (.int (zI l2)), some (.int (zI (l3 + z2))), some (.int (zI (l4 + 1)))]) rfl rfl rfl ?_
        refine g_run 1 8 [some (.ref t), some (.int (zI l1)), some (.int (zI l2)), some (.int (zI (l3 + z2))), some (.int (zI (l4 + 1)))] [] (rd S) rfl ?_
        exact ih S l1 l2 (l3 + z2) (l4 + 1) h hk
def fT_over (n : Nat) (S : ZS) (t : Nat) (l1 l2 : Int) : Option (Int) := (fT_over_1 n S t l1 l2 (zF S t 10) 0).bind fun z1 => some z1
set_option maxRecDepth 100000 in
set_option maxHeartbeats 4000000 in
theorem sT_over (o : eO) (n : Nat) (S : ZS) (t : Nat) (ht : isT t) (l1 l2 : Int) {w : Int} (h : fT_over n S t l1 l2 = some w) : eG o 53 0 (eEnt 53 [.ref t, .int (zI l1), .int (zI l2)]) [] (rd S) (rv (some (.int (zI w))) (rd S)) := by
  unfold fT_over at h
  show eG o 53 0 [some (.ref t), some (.int (zI l1)), some (.int (zI l2)), none, none] [] (rd S) _
  refine g_run 1 1 [some (.ref t), some (.int (zI l1)), some (.int (zI l2)), none, none] [.ref t] (rd S) rfl ?_
  refine g_getf rfl rfl (rd_t ht _) rfl ?_
  show eG _ 53 4 [some (.ref t), some (.int (zI l1)), some (.int (zI l2)), none, none] [.int (zI (zF S t 10))] (rd S) _
  refine g_run 3 8 [some (.ref t), some (.int (zI l1)), some (.int (zI l2)), some (.int (zI (zF S t 10))), some (.int (zI 0))] [] (rd S) rfl ?_
  obtain ⟨z1, h1, h⟩ := zB_inv h
  refine sT_over_1 o t ht n S l1 l2 (zF S t 10) 0 h1 ?_
  show eG _ 53 64 [none, none, none, some (.int (zI z1)), none] [] (rd S) _
  refine g_run 1 65 [none, none, none, some (.int (zI z1)), none] [.int (zI z1)] (rd S) rfl ?_
  cases h
  exact s_ret rfl rfl rfl
def fT_isEveryoneDry (n : Nat) (S : ZS) (t : Nat) (l1 : Int) : Option (Int) := (fT_sheltered n S t l1).bind fun z1 => gC z1 ((zshl 1 (zF S t 7)) - 1) (if z1 = ((zshl 1 (zF S t 7)) - 1) then gB 1 (some 1) else gB 0 (some 0))
set_option maxRecDepth 100000 in
set_option maxHeartbeats 4000000 in
theorem sT_isEveryoneDry (o : eO) (n : Nat) (S : ZS) (t : Nat) (ht : isT t) (l1 : Int) {w : Int} (h : fT_isEveryoneDry n S t l1 = some w) : eG o 56 0 (eEnt 56 [.ref t, .int (zI l1)]) [] (rd S) (rv (some (.int (zI w))) (rd S)) := by
  unfold fT_isEveryoneDry at h
  show eG o 56 0 [some (.ref t), some (.int (zI l1))] [] (rd S) _
  refine g_run 2 2 [some (.ref t), some (.int (zI l1))] [.int (zI l1), .ref t] (rd S) rfl ?_
  refine s_vir (fun z => some (.int (zI z))) (fun _ => rd S) rfl rfl rfl (rd_t ht _) rfl rfl (fun z hz => sT_sheltered o n S t ht l1 hz) rfl h (fun z1 h => ?_)
  show eG _ 56 5 [some (.ref t), some (.int (zI l1))] [.int (zI z1)] (rd S) _
  refine g_run 2 7 [some (.ref t), some (.int (zI l1))] [.ref t, .int (zI 1), .int (zI z1)] (rd S) rfl ?_
  refine g_getf rfl rfl (rd_t ht _) rfl ?_
  show eG _ 56 10 [some (.ref t), some (.int (zI l1))] [.int (zI (zF S t 7)), .int (zI 1), .int (zI z1)] (rd S) _
  refine s_ishl rfl ?_
  refine g_run 1 12 [some (.ref t), some (.int (zI l1))] [.int (zI 1), .int (zI (zshl 1 (zF S t 7))), .int (zI z1)] (rd S) rfl ?_
  refine s_isub rfl ?_
  refine s_icmp_ne rfl h (fun h => ?_) (fun h => ?_)
  · show eG _ 56 20 [some (.ref t), some (.int (zI l1))] [] (rd S) _
    refine g_run 1 21 [some (.ref t), some (.int (zI l1))] [.int (zI 0)] (rd S) rfl ?_
    exact s_retB rfl rfl h (fun h => by cases h; exact rfl)
  · show eG _ 56 16 [some (.ref t), some (.int (zI l1))] [] (rd S) _
    refine g_run 2 21 [some (.ref t), some (.int (zI l1))] [.int (zI 1)] (rd S) rfl ?_
    exact s_retB rfl rfl h (fun h => by cases h; exact rfl)
def fT_isLawful (n : Nat) (S : ZS) (t : Nat) (l1 l2 : Int) : Option (Int) := (fT_over n S t l1 l2).bind fun z1 => (gC z1 0 (if z1 < 0 then some 0 else (fT_yardsOf n S t (zor l1 l2)).bind fun z3 => gC z3 (zF S t 11) (if (zF S t 11) < z3 then some 0 else (fT_isFirm n S t (zor (zand (zF S t 8) (zxor l1 (-1))) l2)).bind fun z4 => gC z4 0 (if z4 = 0 then some 0 else (fT_isEveryoneDry n S t (zand (zF S t 8) (zxor l1 (-1)))).bind fun z5 => gC z5 0 (if z5 = 0 then some 0 else some 1))))).bind fun z2 => gB z2 (some z2)
set_option maxRecDepth 100000 in
set_option maxHeartbeats 4000000 in
theorem sT_isLawful (o : eO) (n : Nat) (S : ZS) (t : Nat) (ht : isT t) (l1 l2 : Int) {w : Int} (h : fT_isLawful n S t l1 l2 = some w) : eG o 52 0 (eEnt 52 [.ref t, .int (zI l1), .int (zI l2)]) [] (rd S) (rv (some (.int (zI w))) (rd S)) := by
  unfold fT_isLawful at h
  show eG o 52 0 [some (.ref t), some (.int (zI l1)), some (.int (zI l2))] [] (rd S) _
  refine g_run 3 3 [some (.ref t), some (.int (zI l1)), some (.int (zI l2))] [.int (zI l2), .int (zI l1), .ref t] (rd S) rfl ?_
  refine s_vir (fun z => some (.int (zI z))) (fun _ => rd S) rfl rfl rfl (rd_t ht _) rfl rfl (fun z hz => sT_over o n S t ht l1 l2 hz) rfl h (fun z1 h => ?_)
  show eG _ 52 6 [some (.ref t), some (.int (zI l1)), some (.int (zI l2))] [.int (zI z1)] (rd S) _
  refine s_join (α := Int) (fun z => eG o 52 60 [none, none, none] [.int (zI z)] (rd S) (rv (some (.int (zI w))) (rd S))) h (fun z2 h => ?_) (fun z2 h j => ?_)
  · show eG _ 52 60 [none, none, none] [.int (zI z2)] (rd S) _
    exact s_retB rfl rfl h (fun h => by cases h; exact rfl)
  · skip
    refine s_if_lt rfl h (fun h => ?_) (fun h => ?_)
    · show eG _ 52 59 [some (.ref t), some (.int (zI l1)), some (.int (zI l2))] [] (rd S) _
      refine g_run 1 60 [some (.ref t), some (.int (zI l1)), some (.int (zI l2))] [.int (zI 0)] (rd S) rfl ?_
      refine g_fgt [true, true, true] ?_
      show eG _ 52 60 [none, none, none] [.int (zI 0)] (rd S) _
      cases h
      exact j
    · show eG _ 52 9 [some (.ref t), some (.int (zI l1)), some (.int (zI l2))] [] (rd S) _
      refine g_run 3 12 [some (.ref t), some (.int (zI l1)), some (.int (zI l2))] [.int (zI l2), .int (zI l1), .ref t] (rd S) rfl ?_
      refine s_ior rfl ?_
      refine s_vir (fun z => some (.int (zI z))) (fun _ => rd S) rfl rfl rfl (rd_t ht _) rfl rfl (fun z hz => sT_yardsOf o n S t ht (zor l1 l2) hz) rfl h (fun z3 h => ?_)
      show eG _ 52 16 [some (.ref t), some (.int (zI l1)), some (.int (zI l2))] [.int (zI z3)] (rd S) _
      refine g_run 1 17 [some (.ref t), some (.int (zI l1)), some (.int (zI l2))] [.ref t, .int (zI z3)] (rd S) rfl ?_
      refine g_getf rfl rfl (rd_t ht _) rfl ?_
      show eG _ 52 20 [some (.ref t), some (.int (zI l1)), some (.int (zI l2))] [.int (zI (zF S t 11)), .int (zI z3)] (rd S) _
      refine s_icmp_gt rfl h (fun h => ?_) (fun h => ?_)
      · show eG _ 52 59 [some (.ref t), some (.int (zI l1)), some (.int (zI l2))] [] (rd S) _
        refine g_run 1 60 [some (.ref t), some (.int (zI l1)), some (.int (zI l2))] [.int (zI 0)] (rd S) rfl ?_
        refine g_fgt [true, true, true] ?_
        show eG _ 52 60 [none, none, none] [.int (zI 0)] (rd S) _
        cases h
        exact j
      · show eG _ 52 23 [some (.ref t), some (.int (zI l1)), some (.int (zI l2))] [] (rd S) _
        refine g_run 2 25 [some (.ref t), some (.int (zI l1)), some (.int (zI l2))] [.ref t, .ref t] (rd S) rfl ?_
        refine g_getf rfl rfl (rd_t ht _) rfl ?_
        show eG _ 52 28 [some (.ref t), some (.int (zI l1)), some (.int (zI l2))] [.int (zI (zF S t 8)), .ref t] (rd S) _
        refine g_run 2 30 [some (.ref t), some (.int (zI l1)), some (.int (zI l2))] [.int (zI (-1)), .int (zI l1), .int (zI (zF S t 8)), .ref t] (rd S) rfl ?_
        refine s_ixor rfl ?_
        refine s_iand rfl ?_
        refine g_run 1 33 [some (.ref t), some (.int (zI l1)), some (.int (zI l2))] [.int (zI l2), .int (zI (zand (zF S t 8) (zxor l1 (-1)))), .ref t] (rd S) rfl ?_
        refine s_ior rfl ?_
        refine s_vir (fun z => some (.int (zI z))) (fun _ => rd S) rfl rfl rfl (rd_t ht _) rfl rfl (fun z hz => sT_isFirm o n S t ht (zor (zand (zF S t 8) (zxor l1 (-1))) l2) hz) rfl h (fun z4 h => ?_)
        show eG _ 52 37 [some (.ref t), some (.int (zI l1)), some (.int (zI l2))] [.int (zI z4)] (rd S) _
        refine s_if_eq rfl h (fun h => ?_) (fun h => ?_)
        · show eG _ 52 59 [some (.ref t), some (.int (zI l1)), some (.int (zI l2))] [] (rd S) _
          refine g_run 1 60 [some (.ref t), some (.int (zI l1)), some (.int (zI l2))] [.int (zI 0)] (rd S) rfl ?_
          refine g_fgt [true, true, true] ?_
          show eG _ 52 60 [none, none, none] [.int (zI 0)] (rd S) _
          cases h
          exact j
        · show eG _ 52 40 [some (.ref t), some (.int (zI l1)), some (.int (zI l2))] [] (rd S) _
          refine g_run 2 42 [some (.ref t), some (.int (zI l1)), some (.int (zI l2))] [.ref t, .ref t] (rd S) rfl ?_
          refine g_getf rfl rfl (rd_t ht _) rfl ?_
          show eG _ 52 45 [some (.ref t), some (.int (zI l1)), some (.int (zI l2))] [.int (zI (zF S t 8)), .ref t] (rd S) _
          refine g_run 2 47 [some (.ref t), some (.int (zI l1)), some (.int (zI l2))] [.int (zI (-1)), .int (zI l1), .int (zI (zF S t 8)), .ref t] (rd S) rfl ?_
          refine s_ixor rfl ?_
          refine s_iand rfl ?_
          refine s_vir (fun z => some (.int (zI z))) (fun _ => rd S) rfl rfl rfl (rd_t ht _) rfl rfl (fun z hz => sT_isEveryoneDry o n S t ht (zand (zF S t 8) (zxor l1 (-1))) hz) rfl h (fun z5 h => ?_)
          show eG _ 52 52 [some (.ref t), some (.int (zI l1)), some (.int (zI l2))] [.int (zI z5)] (rd S) _
          refine s_if_eq rfl h (fun h => ?_) (fun h => ?_)
          · show eG _ 52 59 [some (.ref t), some (.int (zI l1)), some (.int (zI l2))] [] (rd S) _
            refine g_run 1 60 [some (.ref t), some (.int (zI l1)), some (.int (zI l2))] [.int (zI 0)] (rd S) rfl ?_
            refine g_fgt [true, true, true] ?_
            show eG _ 52 60 [none, none, none] [.int (zI 0)] (rd S) _
            cases h
            exact j
          · show eG _ 52 55 [some (.ref t), some (.int (zI l1)), some (.int (zI l2))] [] (rd S) _
            refine g_run 2 60 [some (.ref t), some (.int (zI l1)), some (.int (zI l2))] [.int (zI 1)] (rd S) rfl ?_
            refine g_fgt [true, true, true] ?_
            show eG _ 52 60 [none, none, none] [.int (zI 1)] (rd S) _
            cases h
            exact j
def fD_may (n : Nat) (S : ZS) (l1 l2 : Int) : Option (Int) := gC l1 0 (gC l2 0 ((fT_isWeek n S 1 l1 l2).bind fun z1 => gC z1 0 (if z1 = 0 then some (-1) else (fT_isLawful n S 1 l1 l2).bind fun z2 => gC z2 0 (if z2 = 0 then some 0 else some 1))))
set_option maxRecDepth 100000 in
set_option maxHeartbeats 4000000 in
theorem sD_may (o : eO) (n : Nat) (S : ZS) (l1 l2 : Int) {w : Int} (h : fD_may n S l1 l2 = some w) : eG o 50 0 (eEnt 50 [.ref 0, .int (zI l1), .int (zI l2)]) [] (rd S) (rv (some (.int (zI w))) (rd S)) := by
  unfold fD_may at h
  show eG o 50 0 [some (.ref 0), some (.int (zI l1)), some (.int (zI l2))] [] (rd S) _
  refine g_run 1 1 [some (.ref 0), some (.int (zI l1)), some (.int (zI l2))] [.ref 0] (rd S) rfl ?_
  refine g_getf rfl rfl (rd_o0 _) rfl ?_
  show eG _ 50 4 [some (.ref 0), some (.int (zI l1)), some (.int (zI l2))] [.ref 1] (rd S) _
  refine g_run 1 5 [some (.ref 0), some (.int (zI l1)), some (.int (zI l2))] [.int (zI l1), .ref 1] (rd S) rfl ?_
  refine s_i2l rfl h (fun h => ?_)
  refine g_run 1 7 [some (.ref 0), some (.int (zI l1)), some (.int (zI l2))] [.int (zI l2), .long (zL l1), .ref 1] (rd S) rfl ?_
  refine s_i2l rfl h (fun h => ?_)
  refine s_vir (fun z => some (.int (zI z))) (fun _ => rd S) rfl rfl rfl (rd_o1 _) rfl rfl (fun z hz => sT_isWeek o n S 1 (Or.inl rfl) l1 l2 hz) rfl h (fun z1 h => ?_)
  show eG _ 50 11 [some (.ref 0), some (.int (zI l1)), some (.int (zI l2))] [.int (zI z1)] (rd S) _
  refine s_if_ne rfl h (fun h => ?_) (fun h => ?_)
  · show eG _ 50 16 [some (.ref 0), some (.int (zI l1)), some (.int (zI l2))] [] (rd S) _
    refine g_run 1 17 [some (.ref 0), some (.int (zI l1)), some (.int (zI l2))] [.ref 0] (rd S) rfl ?_
    refine g_getf rfl rfl (rd_o0 _) rfl ?_
    show eG _ 50 20 [some (.ref 0), some (.int (zI l1)), some (.int (zI l2))] [.ref 1] (rd S) _
    refine g_run 2 22 [some (.ref 0), some (.int (zI l1)), some (.int (zI l2))] [.int (zI l2), .int (zI l1), .ref 1] (rd S) rfl ?_
    refine s_vir (fun z => some (.int (zI z))) (fun _ => rd S) rfl rfl rfl (rd_o1 _) rfl rfl (fun z hz => sT_isLawful o n S 1 (Or.inl rfl) l1 l2 hz) rfl h (fun z2 h => ?_)
    show eG _ 50 25 [some (.ref 0), some (.int (zI l1)), some (.int (zI l2))] [.int (zI z2)] (rd S) _
    refine s_if_eq rfl h (fun h => ?_) (fun h => ?_)
    · show eG _ 50 32 [some (.ref 0), some (.int (zI l1)), some (.int (zI l2))] [] (rd S) _
      refine g_run 1 33 [some (.ref 0), some (.int (zI l1)), some (.int (zI l2))] [.int (zI 0)] (rd S) rfl ?_
      cases h
      exact s_ret rfl rfl rfl
    · show eG _ 50 28 [some (.ref 0), some (.int (zI l1)), some (.int (zI l2))] [] (rd S) _
      refine g_run 2 33 [some (.ref 0), some (.int (zI l1)), some (.int (zI l2))] [.int (zI 1)] (rd S) rfl ?_
      cases h
      exact s_ret rfl rfl rfl
  · show eG _ 50 14 [some (.ref 0), some (.int (zI l1)), some (.int (zI l2))] [] (rd S) _
    refine g_run 1 15 [some (.ref 0), some (.int (zI l1)), some (.int (zI l2))] [.int (zI (-1))] (rd S) rfl ?_
    cases h
    exact s_ret rfl rfl rfl
def fT_pass_1 (n : Nat) (S : ZS) (l1 l2 : Int) : Option (ZS) := (fT_over n S 1 l1 l2).bind fun z1 => gC 999 z1 (some (wF (wF S 1 10 (min 999 z1)) 1 8 (zor (zand (zF S 1 8) (zxor l1 (-1))) l2)))
set_option maxRecDepth 100000 in
set_option maxHeartbeats 4000000 in
theorem sT_pass_1 (o : eO) (n : Nat) (S : ZS) (l1 l2 : Int) {w : ZS} (h : fT_pass_1 n S l1 l2 = some w) : eG o 58 0 (eEnt 58 [.ref 1, .int (zI l1), .int (zI l2)]) [] (rd S) (rv (none) (rd w)) := by
  unfold fT_pass_1 at h
  show eG o 58 0 [some (.ref 1), some (.int (zI l1)), some (.int (zI l2))] [] (rd S) _
  refine g_run 5 7 [some (.ref 1), some (.int (zI l1)), some (.int (zI l2))] [.int (zI l2), .int (zI l1), .ref 1, .int (zI 999), .ref 1] (rd S) rfl ?_
  refine s_vir (fun z => some (.int (zI z))) (fun _ => rd S) rfl rfl rfl (rd_o1 _) rfl rfl (fun z hz => sT_over o n S 1 (Or.inl rfl) l1 l2 hz) rfl h (fun z1 h => ?_)
  show eG _ 58 10 [some (.ref 1), some (.int (zI l1)), some (.int (zI l2))] [.int (zI z1), .int (zI 999), .ref 1] (rd S) _
  refine s_min rfl rfl rfl rfl h (fun h => ?_)
  refine s_putf rfl rfl (rd_o1 _) rfl rfl rfl rfl rfl (rw_o1_10 _ _) ?_
  show eG _ 58 16 [some (.ref 1), some (.int (zI l1)), some (.int (zI l2))] [] (rd (wF S 1 10 (min 999 z1))) _
  refine g_run 2 18 [some (.ref 1), some (.int (zI l1)), some (.int (zI l2))] [.ref 1, .ref 1] (rd (wF S 1 10 (min 999 z1))) rfl ?_
  refine g_getf rfl rfl (rd_o1 _) rfl ?_
  show eG _ 58 21 [some (.ref 1), some (.int (zI l1)), some (.int (zI l2))] [.int (zI (zF S 1 8)), .ref 1] (rd (wF S 1 10 (min 999 z1))) _
  refine g_run 2 23 [some (.ref 1), some (.int (zI l1)), some (.int (zI l2))] [.int (zI (-1)), .int (zI l1), .int (zI (zF S 1 8)), .ref 1] (rd (wF S 1 10 (min 999 z1))) rfl ?_
  refine s_ixor rfl ?_
  refine s_iand rfl ?_
  refine g_run 1 26 [some (.ref 1), some (.int (zI l1)), some (.int (zI l2))] [.int (zI l2), .int (zI (zand (zF S 1 8) (zxor l1 (-1)))), .ref 1] (rd (wF S 1 10 (min 999 z1))) rfl ?_
  refine s_ior rfl ?_
  refine s_putf rfl rfl (rd_o1 _) rfl rfl rfl rfl rfl (rw_o1_8 _ _) ?_
  show eG _ 58 30 [some (.ref 1), some (.int (zI l1)), some (.int (zI l2))] [] (rd (wF (wF S 1 10 (min 999 z1)) 1 8 (zor (zand (zF S 1 8) (zxor l1 (-1))) l2))) _
  cases h
  exact g_retv rfl rfl rfl
def fD_week (n : Nat) (S : ZS) (l1 l2 : Int) : Option (Int × ZS) := gC l1 0 (gC l2 0 ((fT_isWeek n S 1 l1 l2).bind fun z1 => gC z1 0 (if z1 = 0 then some (-1, S) else (fT_isLawful n S 1 l1 l2).bind fun z2 => gC z2 0 (if z2 = 0 then some (-2, S) else (fT_pass_1 n S l1 l2).bind fun z3 => (fW_forget n z3).bind fun z4 => some (zF z4 1 10, z4)))))
set_option maxRecDepth 100000 in
set_option maxHeartbeats 4000000 in
theorem sD_week (o : eO) (n : Nat) (S : ZS) (l1 l2 : Int) {w : Int × ZS} (h : fD_week n S l1 l2 = some w) : eG o 57 0 (eEnt 57 [.ref 0, .int (zI l1), .int (zI l2)]) [] (rd S) (rv (some (.int (zI w.1))) (rd w.2)) := by
  unfold fD_week at h
  show eG o 57 0 [some (.ref 0), some (.int (zI l1)), some (.int (zI l2))] [] (rd S) _
  refine g_run 1 1 [some (.ref 0), some (.int (zI l1)), some (.int (zI l2))] [.ref 0] (rd S) rfl ?_
  refine g_getf rfl rfl (rd_o0 _) rfl ?_
  show eG _ 57 4 [some (.ref 0), some (.int (zI l1)), some (.int (zI l2))] [.ref 1] (rd S) _
  refine g_run 1 5 [some (.ref 0), some (.int (zI l1)), some (.int (zI l2))] [.int (zI l1), .ref 1] (rd S) rfl ?_
  refine s_i2l rfl h (fun h => ?_)
  refine g_run 1 7 [some (.ref 0), some (.int (zI l1)), some (.int (zI l2))] [.int (zI l2), .long (zL l1), .ref 1] (rd S) rfl ?_
  refine s_i2l rfl h (fun h => ?_)
  refine s_vir (fun z => some (.int (zI z))) (fun _ => rd S) rfl rfl rfl (rd_o1 _) rfl rfl (fun z hz => sT_isWeek o n S 1 (Or.inl rfl) l1 l2 hz) rfl h (fun z1 h => ?_)
  show eG _ 57 11 [some (.ref 0), some (.int (zI l1)), some (.int (zI l2))] [.int (zI z1)] (rd S) _
  refine s_if_ne rfl h (fun h => ?_) (fun h => ?_)
  · show eG _ 57 16 [some (.ref 0), some (.int (zI l1)), some (.int (zI l2))] [] (rd S) _
    refine g_run 1 17 [some (.ref 0), some (.int (zI l1)), some (.int (zI l2))] [.ref 0] (rd S) rfl ?_
    refine g_getf rfl rfl (rd_o0 _) rfl ?_
    show eG _ 57 20 [some (.ref 0), some (.int (zI l1)), some (.int (zI l2))] [.ref 1] (rd S) _
    refine g_run 2 22 [some (.ref 0), some (.int (zI l1)), some (.int (zI l2))] [.int (zI l2), .int (zI l1), .ref 1] (rd S) rfl ?_
    refine s_vir (fun z => some (.int (zI z))) (fun _ => rd S) rfl rfl rfl (rd_o1 _) rfl rfl (fun z hz => sT_isLawful o n S 1 (Or.inl rfl) l1 l2 hz) rfl h (fun z2 h => ?_)
    show eG _ 57 25 [some (.ref 0), some (.int (zI l1)), some (.int (zI l2))] [.int (zI z2)] (rd S) _
    refine s_if_ne rfl h (fun h => ?_) (fun h => ?_)
    · show eG _ 57 31 [some (.ref 0), some (.int (zI l1)), some (.int (zI l2))] [] (rd S) _
      refine g_run 1 32 [some (.ref 0), some (.int (zI l1)), some (.int (zI l2))] [.ref 0] (rd S) rfl ?_
      refine g_getf rfl rfl (rd_o0 _) rfl ?_
      show eG _ 57 35 [some (.ref 0), some (.int (zI l1)), some (.int (zI l2))] [.ref 1] (rd S) _
      refine g_run 2 37 [some (.ref 0), some (.int (zI l1)), some (.int (zI l2))] [.int (zI l2), .int (zI l1), .ref 1] (rd S) rfl ?_
      refine s_vir (fun _ => none) (fun z => rd z) rfl rfl rfl (rd_o1 _) rfl rfl (fun z hz => sT_pass_1 o n S l1 l2 hz) rfl h (fun z3 h => ?_)
      show eG _ 57 40 [some (.ref 0), some (.int (zI l1)), some (.int (zI l2))] [] (rd z3) _
      refine g_run 1 41 [some (.ref 0), some (.int (zI l1)), some (.int (zI l2))] [.ref 0] (rd z3) rfl ?_
      refine g_getf rfl rfl (rd_o0 _) rfl ?_
      show eG _ 57 44 [some (.ref 0), some (.int (zI l1)), some (.int (zI l2))] [.ref 24] (rd z3) _
      refine s_vir (fun _ => none) (fun z => rd z) rfl rfl rfl (rd_o24 _) rfl rfl (fun z hz => sW_forget o n z3 hz) rfl h (fun z4 h => ?_)
      show eG _ 57 47 [some (.ref 0), some (.int (zI l1)), some (.int (zI l2))] [] (rd z4) _
      refine g_run 1 48 [some (.ref 0), some (.int (zI l1)), some (.int (zI l2))] [.ref 0] (rd z4) rfl ?_
      refine g_getf rfl rfl (rd_o0 _) rfl ?_
      show eG _ 57 51 [some (.ref 0), some (.int (zI l1)), some (.int (zI l2))] [.ref 1] (rd z4) _
      refine g_getf rfl rfl (rd_o1 _) rfl ?_
      show eG _ 57 54 [some (.ref 0), some (.int (zI l1)), some (.int (zI l2))] [.int (zI (zF z4 1 10))] (rd z4) _
      cases h
      exact s_ret rfl rfl rfl
    · show eG _ 57 28 [some (.ref 0), some (.int (zI l1)), some (.int (zI l2))] [] (rd S) _
      refine g_run 1 30 [some (.ref 0), some (.int (zI l1)), some (.int (zI l2))] [.int (zI (-2))] (rd S) rfl ?_
      cases h
      exact s_ret rfl rfl rfl
  · show eG _ 57 14 [some (.ref 0), some (.int (zI l1)), some (.int (zI l2))] [] (rd S) _
    refine g_run 1 15 [some (.ref 0), some (.int (zI l1)), some (.int (zI l2))] [.int (zI (-1))] (rd S) rfl ?_
    cases h
    exact s_ret rfl rfl rfl
