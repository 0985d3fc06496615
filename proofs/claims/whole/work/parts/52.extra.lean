/-! the row of needs made anew; the kinds' text -/
def wN (S : ZS) : ZS := (fun h => if h = 31 then zc (S.1 31) (fun _ => 0) 0 0 ((nn S : Nat) : Int) else S.1 h, S.2.1, 2 * S.2.2.1, match S.2.2.2 with
  | none => some (cNd S, [])
  | some (g, gs) => some (g, gs ++ [cNd S]))
def gG {α : Type} (S : ZS) (x : Int) (T : Option α) : Option α := if x = 2 * ((nn S : Nat) : Int) ∧ 0 < nn S ∧ nn S ≤ 100000 then T else none
theorem gG_inv {α : Type} {S : ZS} {x : Int} {T : Option α} {w : α} (h : gG S x T = some w) : (x = 2 * ((nn S : Nat) : Int) ∧ 0 < nn S ∧ nn S ≤ 100000) ∧ T = some w := by
  unfold gG at h
  split at h
  · exact ⟨by assumption, h⟩
  · cases h
theorem gG_pos {α : Type} {S : ZS} {x : Int} {T : Option α} (h1 : x = 2 * ((nn S : Nat) : Int)) (h2 : 0 < nn S) (h3 : nn S ≤ 100000) : gG S x T = T := if_pos ⟨h1, h2, h3⟩
section S3
variable {o : eO} {k pc l : Nat} {L : eL} {st : List Value} {H : eH} {r : eP}
theorem s_newI {x : Int} (h : eAt k pc = some (.newarray .int, 2)) (hx : 0 ≤ x ∧ x ≤ 1000000) (g : eG o k (pc + 2) L (.ref H.length :: st) (H ++ [cI 0 x.toNat (fun _ => 0)]) r) : eG o k pc L (.int (zI x) :: st) H r := by
  have e : (zI x).toNatClampNeg = x.toNat := Int32.toNatClampNeg_ofInt_of_le (by omega) (by omega)
  have e2 : ¬ zI x < 0 := by
    rw [show (0 : Int32) = zI 0 from rfl, zI_lt ⟨by omega, by omega, by omega, by omega⟩]
    omega
  refine g_step h ?_ g
  show (if zI x < 0 ∨ 67108864 < (zI x).toNatClampNeg then none else (some (Sum.inl (pc + 2, L, Value.ref H.length :: st, H ++ [eNew 0 (zI x).toNatClampNeg])) : Option eR)) = _
  rw [e, if_neg (by rintro (q | q); exact e2 q; omega)]
  rfl
theorem g_reta {a : Nat} {ty : FieldType} (h : eAt k pc = some (.areturn, 1)) (ht : eRt.getD k none = some (.array ty)) (e : r (some (.ref a), H)) : eG o k pc L [.ref a] H r := by
  refine g_ret h ?_ e
  show eCall k (eOwn k) .areturn pc L [.ref a] H = _
  simp only [eCall, ht]
theorem s_alen' {a t n : Nat} {f : Int → Int} (h : eAt k pc = some (.arraylength, 1)) (hH : H[a]? = some (cI t n f)) (ht : Nat.blt t 5 = true) (g : eG o k (pc + 1) L (.int (zI (n : Int)) :: st) H r) : eG o k pc L (.ref a :: st) H r := s_alen h hH ht g
theorem g_virR {idx q pc' : Nat} {as st' : List Value} {H1 : eH} {v : Option Value} (h : eAt k pc = some (.invokevirtual idx, 3)) (hq : eFind (eLv (eOwn k)) idx = some q) (hp : ePop (eNa.getD q 0) [] st = some (as, .retAddr 2 :: st')) (ho : Nat.beq 11 (eOwn q) = true) (hw : Nat.ble (eWords st') 8 = true) (hle : Nat.ble (eArgs (.retAddr 2 :: as)).length (eMx.getD q 0) = true) (gq : eG o q 0 (eEnt q (.retAddr 2 :: as)) [] H (rv v H1)) (hpc : pc + 3 = pc') (g : eG o k pc' L (v.toList ++ st') H1 r) : eG o k pc L st H r := by
  subst hpc
  refine g_call h ?_ hle gq g
  show eCall k (eOwn k) (.invokevirtual idx) pc L st H = _
  simp only [eCall, hq, hp, ho, hw]
end S3
set_option maxRecDepth 100000 in
theorem t_copyOf (o : eO) (H : eH) {a n : Nat} {f : Int → Int} (hH : H[a]? = some (cI 0 n f)) (h0 : 0 < n) (h1 : n ≤ 100000) : eG o 68 0 (eEnt 68 [.ref a, .int (zI (2 * (n : Int)))]) [] H (rv (some (.ref H.length)) (H ++ [cI 0 (2 * n) (zc f (fun _ => 0) 0 0 (n : Int))])) := by
  have hl : a < H.length := (List.getElem?_eq_some_iff.mp hH).1
  show eG o 68 0 [some (.ref a), some (.int (zI (2 * (n : Int)))), none] [] H _
  refine g_run 2 2 [some (.ref a), some (.int (zI (2 * (n : Int)))), none] [.ref a, .int (zI (2 * (n : Int)))] H rfl ?_
  refine s_alen rfl hH rfl ?_
  refine s_icmp_ne (α := Unit) (w := ()) (A := some ()) (B := none) rfl (by rw [gC_pos (by omega) (by omega) (by omega) (by omega), if_neg (by omega)]) (fun _ => ?_) (fun h => by cases h)
  show eG _ 68 14 [some (.ref a), some (.int (zI (2 * (n : Int)))), none] [] H _
  refine g_run 1 15 [some (.ref a), some (.int (zI (2 * (n : Int)))), none] [.int (zI (2 * (n : Int)))] H rfl ?_
  refine s_newI rfl (by omega) ?_
  have e1 : (2 * (n : Int)).toNat = 2 * n := by omega
  rw [e1]
  have hA : (H ++ [cI 0 (2 * n) (fun _ => 0)])[a]? = some (cI 0 n f) := by rw [List.getElem?_append_left hl]; exact hH
  have hB : (H ++ [cI 0 (2 * n) (fun _ => 0)])[H.length]? = some (cI 0 (2 * n) (fun _ => 0)) := by rw [List.getElem?_append_right (Nat.le_refl _), Nat.sub_self]; rfl
  refine g_run 6 23 [some (.ref a), some (.int (zI (2 * (n : Int)))), some (.ref H.length)] [.ref a, .int (zI 0), .ref H.length, .int (zI 0), .ref a] (H ++ [cI 0 (2 * n) (fun _ => 0)]) rfl ?_
  refine s_alen rfl hA rfl ?_
  refine g_run 1 25 [some (.ref a), some (.int (zI (2 * (n : Int)))), some (.ref H.length)] [.int (zI (2 * (n : Int))), .int (zI (n : Int)), .int (zI 0), .ref H.length, .int (zI 0), .ref a] (H ++ [cI 0 (2 * n) (fun _ => 0)]) rfl ?_
  refine s_min (α := Unit) (w := ()) (T := some ()) rfl rfl rfl rfl (by rw [gC_pos (by omega) (by omega) (by omega) (by omega)]) (fun _ => ?_)
  rw [show min (n : Int) (2 * (n : Int)) = (n : Int) from Int.min_eq_left (by omega)]
  refine s_cpy (α := Unit) (w := ()) (T := some ()) (H' := H ++ [cI 0 (2 * n) (zc f (fun _ => 0) 0 0 (n : Int))]) rfl rfl hA hB rfl ?_ (by rw [gY_pos (by omega) (by omega) (by omega) (by omega) (by omega) (by omega) (by omega)]) (fun _ => ?_)
  · rw [List.set_append_right _ _ (Nat.le_refl _), Nat.sub_self]
    rfl
  · refine g_run 1 32 [some (.ref a), some (.int (zI (2 * (n : Int)))), some (.ref H.length)] [.ref H.length] (H ++ [cI 0 (2 * n) (zc f (fun _ => 0) 0 0 (n : Int))]) rfl ?_
    exact g_reta (ty := .int) rfl rfl rfl
theorem rw_regrow (S : ZS) : (rd S ++ [cI 0 (2 * nn S) (zc (S.1 31) (fun _ => 0) 0 0 ((nn S : Nat) : Int))]).set 24 (.inr (5, ([.ref 25, .ref 26, .ref 27, .ref 28, .ref 29, .ref 30, .ref (nd S), .ref 32, .int (zI (S.2.1 24 8)), .int (zI (S.2.1 24 9)), .int (zI (S.2.1 24 10)), .int (zI (S.2.1 24 11)), .int (zI (S.2.1 24 12)), .int (zI (S.2.1 24 13)), .int (zI (S.2.1 24 14)), .int (zI (S.2.1 24 15)), .int (zI (S.2.1 24 16))] : List Value).set 6 (.ref (rd S).length))) = rd (wN S) := by
  obtain ⟨A, F, k, x⟩ := S
  cases x with
  | none => rfl
  | some g =>
    obtain ⟨g, gs⟩ := g
    rw [rd_len]
    unfold rd
    rw [List.append_assoc, List.set_append_left _ _ (by show 24 < 74; omega)]
    rfl
set_option maxRecDepth 100000 in
theorem s_regrow {o : eO} {S : ZS} {x : Int} {L : eL} {st : List Value} {r : eP} {α : Type} {T : Option α} {w : α} (hst : Nat.ble (eWords (.ref 24 :: st)) 8 = true) (hh : gG S x T = some w) (g : T = some w → eG o 67 46 L st (rd (wN S)) r) : eG o 67 40 L (.int (zI x) :: .ref (nd S) :: .ref 24 :: st) (rd S) r := by
  obtain ⟨⟨rfl, h1, h2⟩, h3⟩ := gG_inv hh
  refine g_sta rfl rfl rfl rfl rfl hst rfl (t_copyOf o (rd S) (rd_nd S) h1 h2) rfl ?_
  show eG _ 67 43 L (.ref (rd S).length :: .ref 24 :: st) (rd S ++ [cI 0 (2 * nn S) (zc (S.1 31) (fun _ => 0) 0 0 ((nn S : Nat) : Int))]) _
  have h24 : (rd S ++ [cI 0 (2 * nn S) (zc (S.1 31) (fun _ => 0) 0 0 ((nn S : Nat) : Int))])[24]? = some (.inr (5, [.ref 25, .ref 26, .ref 27, .ref 28, .ref 29, .ref 30, .ref (nd S), .ref 32, .int (zI (S.2.1 24 8)), .int (zI (S.2.1 24 9)), .int (zI (S.2.1 24 10)), .int (zI (S.2.1 24 11)), .int (zI (S.2.1 24 12)), .int (zI (S.2.1 24 13)), .int (zI (S.2.1 24 14)), .int (zI (S.2.1 24 15)), .int (zI (S.2.1 24 16))])) := by
    rw [List.getElem?_append_left (by rw [rd_len]; omega)]
    exact rd_o24 S
  exact s_putf rfl rfl h24 rfl rfl rfl rfl rfl (rw_regrow S) (g h3)
/-- where a letter stands in hbcr -/
def kix (c : Int) : Int := if c = 104 then 0 else if c = 98 then 1 else if c = 99 then 2 else if c = 114 then 3 else -1
set_option maxRecDepth 100000 in
theorem t_ixc (o : eO) (H : eH) {c : Int} {b : Int32} (hb : b = (zI c).toInt8.toInt32) (h : 0 ≤ c ∧ c ≤ 255) : eG o 201 0 (eEnt 201 [.retAddr 3, .int (zI c), .int (zI 0), .int (zI 4)]) [] H (rv (some (.int (zI (kix c)))) H) := by
  have hb2 : b.toInt = c.bmod 256 := by
    rw [hb, Int8.toInt_toInt32, Int32.toInt_toInt8, zI_to (by omega) (by omega)]
  have hk : ∀ v : Int, 0 ≤ v ∧ v < 128 → (zI v = b ↔ c = v) := by
    intro v hv
    rw [← Int32.toInt_inj, zI_to (by omega) (by omega), hb2, Int.bmod_def]
    split <;> omega
  show eG o 201 0 [some (.retAddr 3), some (.int (zI c)), some (.int (zI 0)), some (.int (zI 4)), none, none] [] H _
  refine g_run 5 7 [some (.retAddr 3), some (.int (zI c)), some (.int (zI 0)), some (.int (zI 4)), some (.int b), some (.int (zI 0))] [] H (by rw [hb]; rfl) ?_
  refine g_run 7 19 [some (.retAddr 3), some (.int (zI c)), some (.int (zI 0)), some (.int (zI 4)), some (.int b), some (.int (zI 0))] [.int b, .int (zI 104)] H rfl ?_
  refine g_icmp_ne rfl (fun c0 => ?_) (fun c0 => ?_)
  rotate_left
  · refine g_run 1 24 [some (.retAddr 3), some (.int (zI c)), some (.int (zI 0)), some (.int (zI 4)), some (.int b), some (.int (zI 0))] [.int (zI 0)] H rfl ?_
    exact s_ret rfl rfl (by unfold kix; rw [if_pos ((hk 104 (by omega)).mp c0)])
  have n0 : ¬ c = 104 := fun q => c0 ((hk 104 (by omega)).mpr q)
  refine g_run 9 19 [some (.retAddr 3), some (.int (zI c)), some (.int (zI 0)), some (.int (zI 4)), some (.int b), some (.int (zI 1))] [.int b, .int (zI 98)] H rfl ?_
  refine g_icmp_ne rfl (fun c0 => ?_) (fun c0 => ?_)
  rotate_left
  · refine g_run 1 24 [some (.retAddr 3), some (.int (zI c)), some (.int (zI 0)), some (.int (zI 4)), some (.int b), some (.int (zI 1))] [.int (zI 1)] H rfl ?_
    exact s_ret rfl rfl (by unfold kix; rw [if_neg n0, if_pos ((hk 98 (by omega)).mp c0)])
  have n1 : ¬ c = 98 := fun q => c0 ((hk 98 (by omega)).mpr q)
  refine g_run 9 19 [some (.retAddr 3), some (.int (zI c)), some (.int (zI 0)), some (.int (zI 4)), some (.int b), some (.int (zI 2))] [.int b, .int (zI 99)] H rfl ?_
  refine g_icmp_ne rfl (fun c0 => ?_) (fun c0 => ?_)
  rotate_left
  · refine g_run 1 24 [some (.retAddr 3), some (.int (zI c)), some (.int (zI 0)), some (.int (zI 4)), some (.int b), some (.int (zI 2))] [.int (zI 2)] H rfl ?_
    exact s_ret rfl rfl (by unfold kix; rw [if_neg n0, if_neg n1, if_pos ((hk 99 (by omega)).mp c0)])
  have n2 : ¬ c = 99 := fun q => c0 ((hk 99 (by omega)).mpr q)
  refine g_run 9 19 [some (.retAddr 3), some (.int (zI c)), some (.int (zI 0)), some (.int (zI 4)), some (.int b), some (.int (zI 3))] [.int b, .int (zI 114)] H rfl ?_
  refine g_icmp_ne rfl (fun c0 => ?_) (fun c0 => ?_)
  rotate_left
  · refine g_run 1 24 [some (.retAddr 3), some (.int (zI c)), some (.int (zI 0)), some (.int (zI 4)), some (.int b), some (.int (zI 3))] [.int (zI 3)] H rfl ?_
    exact s_ret rfl rfl (by unfold kix; rw [if_neg n0, if_neg n1, if_neg n2, if_pos ((hk 114 (by omega)).mp c0)])
  have n3 : ¬ c = 114 := fun q => c0 ((hk 114 (by omega)).mpr q)
  refine g_run 6 32 [some (.retAddr 3), some (.int (zI c)), some (.int (zI 0)), some (.int (zI 4)), some (.int b), some (.int (zI 4))] [.int (zI (-1))] H rfl ?_
  exact s_ret rfl rfl (by unfold kix; rw [if_neg n0, if_neg n1, if_neg n2, if_neg n3])
set_option maxRecDepth 100000 in
theorem t_canEnc (o : eO) (H : eH) {c : Int} (h : 0 ≤ c ∧ c ≤ 65535) : eG o 200 0 (eEnt 200 [.int (zI c)]) [] H (rv (some (.int (zI (if 255 < c then 0 else 1)))) H) := by
  show eG o 200 0 [some (.int (zI c))] [] H _
  refine g_run 1 1 [some (.int (zI c))] [.int (zI c)] H rfl ?_
  refine s_if_lt (α := Unit) (w := ()) (A := none) (B := some ()) rfl (by rw [gC_pos (by omega) (by omega) (by omega) (by omega), if_neg (by omega)]) (fun h => by cases h) (fun _ => ?_)
  refine g_run 2 8 [some (.int (zI c))] [.int (zI 255), .int (zI c)] H rfl ?_
  by_cases hc : 255 < c
  · refine s_icmp_gt (α := Unit) (w := ()) (A := some ()) (B := none) rfl (by rw [gC_pos (by omega) (by omega) (by omega) (by omega), if_pos hc]) (fun _ => ?_) (fun h => by cases h)
    refine g_run 1 16 [some (.int (zI c))] [.int (zI 0)] H rfl ?_
    rw [if_pos hc]
    exact g_retiS rfl rfl rfl rfl
  · refine s_icmp_gt (α := Unit) (w := ()) (A := none) (B := some ()) rfl (by rw [gC_pos (by omega) (by omega) (by omega) (by omega), if_neg hc]) (fun h => by cases h) (fun _ => ?_)
    refine g_run 2 16 [some (.int (zI c))] [.int (zI 1)] H rfl ?_
    rw [if_neg hc]
    exact g_retiS rfl rfl rfl rfl
set_option maxRecDepth 100000 in
theorem t_ix1 (o : eO) (H : eH) {c : Int} (h : 0 ≤ c ∧ c ≤ 65535) : eG o 199 0 (eEnt 199 [.retAddr 3, .int (zI c), .int (zI 0), .int (zI 4)]) [] H (rv (some (.int (zI (kix c)))) H) := by
  show eG o 199 0 [some (.retAddr 3), some (.int (zI c)), some (.int (zI 0)), some (.int (zI 4))] [] H _
  refine g_run 1 1 [some (.retAddr 3), some (.int (zI c)), some (.int (zI 0)), some (.int (zI 4))] [.int (zI c)] H rfl ?_
  refine g_sta rfl rfl rfl rfl rfl rfl rfl (t_canEnc o H h) rfl ?_
  show eG _ 199 4 [some (.retAddr 3), some (.int (zI c)), some (.int (zI 0)), some (.int (zI 4))] [.int (zI (if 255 < c then 0 else 1))] H _
  by_cases hc : 255 < c
  · rw [if_pos hc]
    refine g_run 2 8 [some (.retAddr 3), some (.int (zI c)), some (.int (zI 0)), some (.int (zI 4))] [.int (zI (-1))] H rfl ?_
    exact s_ret rfl rfl (by unfold kix; rw [if_neg (by omega), if_neg (by omega), if_neg (by omega), if_neg (by omega)])
  · rw [if_neg hc]
    refine g_run 17 33 [some (.retAddr 3), some (.int (zI c)), some (.int (zI 0)), some (.int (zI 4))] [.int (zI 4), .int (zI 0), .int (zI c), .retAddr 3] H rfl ?_
    refine g_sta rfl rfl rfl rfl rfl rfl rfl (t_ixc o H rfl ⟨h.1, by omega⟩) rfl ?_
    exact s_ret rfl rfl rfl
set_option maxRecDepth 100000 in
theorem t_ix2 (o : eO) (H : eH) {c : Int} (h : 0 ≤ c ∧ c ≤ 65535) : eG o 195 0 (eEnt 195 [.retAddr 2, .int (zI c), .int (zI 0)]) [] H (rv (some (.int (zI (kix c)))) H) := by
  show eG o 195 0 [some (.retAddr 2), some (.int (zI c)), some (.int (zI 0))] [] H _
  refine g_run 1 1 [some (.retAddr 2), some (.int (zI c)), some (.int (zI 0))] [.retAddr 2] H rfl ?_
  refine g_virR (v := some (.int 1)) (H1 := H) rfl rfl rfl rfl rfl rfl ⟨20, _, rfl, rfl⟩ rfl ?_
  refine g_run 6 14 [some (.retAddr 2), some (.int (zI c)), some (.int (zI 0))] [.retAddr 2, .int (zI 0), .int (zI c), .retAddr 3] H rfl ?_
  refine g_virR (v := some (.int 4)) (H1 := H) rfl rfl rfl rfl rfl rfl ⟨30, _, rfl, rfl⟩ rfl ?_
  refine g_sta rfl rfl rfl rfl rfl rfl rfl (t_ix1 o H h) rfl ?_
  refine g_run 1 36 [some (.retAddr 2), some (.int (zI c)), some (.int (zI 0))] [.int (zI (kix c))] H rfl ?_
  exact s_ret rfl rfl rfl
set_option maxRecDepth 100000 in
theorem s_kix {o : eO} {L : eL} {st : List Value} {H : eH} {r : eP} {c : Int} {α : Type} {T : Option α} {w : α} (hst : Nat.ble (eWords st) 8 = true) (hh : gH c T = some w) (g : T = some w → eG o 34 9 L (.int (zI (kix c)) :: st) H r) : eG o 34 6 L (.int (zI c) :: .retAddr 2 :: st) H r := by
  obtain ⟨h1, h2⟩ := gH_inv hh
  refine g_virR (v := some (.int (zI (kix c)))) (H1 := H) rfl rfl rfl rfl hst rfl ?_ rfl (g h2)
  show eG o 194 0 [some (.retAddr 2), some (.int (zI c))] [] H _
  refine g_run 3 3 [some (.retAddr 2), some (.int (zI c))] [.int (zI 0), .int (zI c), .retAddr 2] H rfl ?_
  refine g_virR rfl rfl rfl rfl rfl rfl (t_ix2 o H h1) rfl ?_
  exact s_ret rfl rfl rfl
