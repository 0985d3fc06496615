theorem bm32 {z : Int} (h1 : -2147483648 ≤ z) (h2 : z < 2147483648) : z.bmod (2 ^ 32) = z := Int.bmod_eq_of_le (by omega) (by omega)
theorem nI_sub6 {zQ : Nat} (h : zQ ≤ 3072) : (nI zQ - 6).toInt = (zQ : Int) - 6 := by
  rw [Int32.toInt_sub, nI_toInt (by omega), show (6 : Int32).toInt = 6 from by decide]
  exact bm32 (by omega) (by omega)
theorem lw_out {zQ iQ : Nat} (hz : zQ ≤ 3072) (hi : iQ ≤ 4000) (h : zQ < iQ + 6) : nI zQ - 6 < nI iQ := by
  rw [Int32.lt_iff_toInt_lt, nI_sub6 hz, nI_toInt (by omega)]
  omega
theorem lw_in {zQ iQ : Nat} (hz : zQ ≤ 3072) (hi : iQ ≤ 4000) (h : iQ + 6 ≤ zQ) : ¬ nI zQ - 6 < nI iQ := by
  rw [Int32.lt_iff_toInt_lt, nI_sub6 hz, nI_toInt (by omega)]
  omega
/-- two methods, of the class and of the reference, called one behind the other: the same answer, and what holds of the heap holds again -/
def Pair (Inv : eH → Prop) (kx km : Nat) (as : List Value) : Prop := ∀ (o : eO) (H : eH), Inv H → eG o kx 0 (eEnt kx (.ref 0 :: as)) [] H (fun z => ∃ vQ : Int32, z.1 = some (.int vQ) ∧ (∃ fs, z.2[49]? = some (.inr (7, fs))) ∧ eG o km 0 (eEnt km (.ref 49 :: as)) [] z.2 (fun y => y.1 = some (.int vQ) ∧ Inv y.2))
def P_part (Inv : eH → Prop) : Prop := ∀ (x0Q : Int32) (x1Q : Int32) (x2Q : Int32) (x3Q : Int32) (x4Q : Int32), Pair Inv 7 129 [.int x0Q, .int x1Q, .int x2Q, .int x3Q, .int x4Q]
def P_told (Inv : eH → Prop) : Prop := ∀ (x0Q : Int32) (x1Q : Int32), Pair Inv 17 133 [.int x0Q, .int x1Q]
def P_stand (Inv : eH → Prop) : Prop := ∀ (x0Q : Int32), Pair Inv 19 134 [.int x0Q]
def P_person (Inv : eH → Prop) : Prop := ∀ (x0Q : Int32), Pair Inv 21 137 [.int x0Q]
def P_set (Inv : eH → Prop) : Prop := ∀ (x0Q : Int32) (x1Q : Int32), Pair Inv 24 138 [.int x0Q, .int x1Q]
def P_want (Inv : eH → Prop) : Prop := ∀ (x0Q : Int32), Pair Inv 25 139 [.int x0Q]
def P_type (Inv : eH → Prop) : Prop := ∀ (x0Q : Int64) (x1Q : Int32), Pair Inv 26 143 [.long x0Q, .int x1Q]
def P_town (Inv : eH → Prop) : Prop := Pair Inv 30 144 []
def P_people (Inv : eH → Prop) : Prop := Pair Inv 45 151 []
def P_count (Inv : eH → Prop) : Prop := ∀ (x0Q : Int32), Pair Inv 47 140 [.int x0Q]
def P_may (Inv : eH → Prop) : Prop := ∀ (x0Q : Int32) (x1Q : Int32), Pair Inv 50 152 [.int x0Q, .int x1Q]
def P_week (Inv : eH → Prop) : Prop := ∀ (x0Q : Int32) (x1Q : Int32), Pair Inv 57 159 [.int x0Q, .int x1Q]
def P_can (Inv : eH → Prop) : Prop := ∀ (x0Q : Int32), Pair Inv 59 162 [.int x0Q]
def P_more (Inv : eH → Prop) : Prop := Pair Inv 73 167 []
def P_carry (Inv : eH → Prop) : Prop := ∀ (x0Q : Int32) (x1Q : Int32), Pair Inv 74 168 [.int x0Q, .int x1Q]
def P_build (Inv : eH → Prop) : Prop := ∀ (x0Q : Int32) (x1Q : Int32), Pair Inv 88 174 [.int x0Q, .int x1Q]
def P_worth (Inv : eH → Prop) : Prop := ∀ (x0Q : Int32) (x1Q : Int32), Pair Inv 96 177 [.int x0Q, .int x1Q]
def P_image (Inv : eH → Prop) : Prop := Pair Inv 104 181 []
def P_restore (Inv : eH → Prop) : Prop := Pair Inv 105 182 []
def P_judged (Inv : eH → Prop) : Prop := ∀ (x0Q : Int32) (x1Q : Int32) (x2Q : Int32) (x3Q : Int32), Pair Inv 106 189 [.int x0Q, .int x1Q, .int x2Q, .int x3Q]
def P_wrong (Inv : eH → Prop) : Prop := ∀ (x0Q : Int32) (x1Q : Int32) (x2Q : Int32) (x3Q : Int32) (x4Q : Int32), Pair Inv 116 191 [.int x0Q, .int x1Q, .int x2Q, .int x3Q, .int x4Q]
def P_sheet (Inv : eH → Prop) : Prop := ∀ (x0Q : Int32) (x1Q : Int32) (x2Q : Int32), Pair Inv 117 183 [.int x0Q, .int x1Q, .int x2Q]
def P_drop (Inv : eH → Prop) : Prop := ∀ (x0Q : Int32), Pair Inv 120 185 [.int x0Q]
def P_item (Inv : eH → Prop) : Prop := ∀ (x0Q : Int32) (x1Q : Int32) (x2Q : Int32) (x3Q : Int64), Pair Inv 122 186 [.int x0Q, .int x1Q, .int x2Q, .long x3Q]
def P_film (Inv : eH → Prop) : Prop := ∀ (x0Q : Int32) (x1Q : Int32) (x2Q : Int32), Pair Inv 124 192 [.int x0Q, .int x1Q, .int x2Q]
def P_copy (Inv : eH → Prop) : Prop := ∀ (x0Q : Int32) (x1Q : Int32) (x2Q : Int32) (x3Q : Int32) (x4Q : Int32), Pair Inv 125 193 [.int x0Q, .int x1Q, .int x2Q, .int x3Q, .int x4Q]
set_option maxRecDepth 100000 in
set_option maxHeartbeats 4000000 in
theorem c_part (Inv : eH → Prop) (hO : ∀ H, Inv H → ∃ fs, H[0]? = some (.inr (6, fs))) (hP : P_part Inv) (o : eO) (iQ : Nat) (H : eH) (hz : o.1 ≤ 3072) (hi : iQ + 6 ≤ o.1) (hI : Inv H) {r : eP} (hk : ∀ H2, Inv H2 → eG o 202 1060 [some (.retAddr 0), some (.ref 0), some (.ref 49), some (.int (nI iQ))] [] H2 r) : eG o 202 152 [some (.retAddr 0), some (.ref 0), some (.ref 49), some (.int (nI iQ))] [] H r := by
  obtain ⟨fo, hob⟩ := hO H hI
  refine g_run 5 157 [some (.retAddr 0), some (.ref 0), some (.ref 49), some (.int (nI iQ))] [.int (nI iQ + nI 1), .retAddr 0, .ref 0] H rfl ?_
  refine g_top (nI_add iQ 1) ?_
  refine g_sld rfl (show iQ + 1 < _ by omega) (by omega) ?_
  refine g_run 4 162 [some (.retAddr 0), some (.ref 0), some (.ref 49), some (.int (nI iQ))] [.int (nI iQ + nI 2), .retAddr 0, .int (o.2 (iQ + 1)), .ref 0] H rfl ?_
  refine g_top (nI_add iQ 2) ?_
  refine g_sld rfl (show iQ + 2 < _ by omega) (by omega) ?_
  refine g_run 4 167 [some (.retAddr 0), some (.ref 0), some (.ref 49), some (.int (nI iQ))] [.int (nI iQ + nI 3), .retAddr 0, .int (o.2 (iQ + 2)), .int (o.2 (iQ + 1)), .ref 0] H rfl ?_
  refine g_top (nI_add iQ 3) ?_
  refine g_sld rfl (show iQ + 3 < _ by omega) (by omega) ?_
  refine g_run 4 172 [some (.retAddr 0), some (.ref 0), some (.ref 49), some (.int (nI iQ))] [.int (nI iQ + nI 4), .retAddr 0, .int (o.2 (iQ + 3)), .int (o.2 (iQ + 2)), .int (o.2 (iQ + 1)), .ref 0] H rfl ?_
  refine g_top (nI_add iQ 4) ?_
  refine g_sld rfl (show iQ + 4 < _ by omega) (by omega) ?_
  refine g_run 4 177 [some (.retAddr 0), some (.ref 0), some (.ref 49), some (.int (nI iQ))] [.int (nI iQ + nI 5), .retAddr 0, .int (o.2 (iQ + 4)), .int (o.2 (iQ + 3)), .int (o.2 (iQ + 2)), .int (o.2 (iQ + 1)), .ref 0] H rfl ?_
  refine g_top (nI_add iQ 5) ?_
  refine g_sld rfl (show iQ + 5 < _ by omega) (by omega) ?_
  refine g_virS rfl rfl rfl hob rfl rfl (hP _ _ _ _ _ o H hI) rfl (fun v1 H1 q1 => ?_)
  obtain ⟨vQ, rfl, ⟨fm, h49⟩, q1⟩ := q1
  show eG _ 202 181 [some (.retAddr 0), some (.ref 0), some (.ref 49), some (.int (nI iQ))] [.int vQ] H1 _
  refine g_run 5 186 [some (.retAddr 0), some (.ref 0), some (.ref 49), some (.int (nI iQ))] [.int (nI iQ + nI 1), .retAddr 0, .ref 49, .int vQ] H1 rfl ?_
  refine g_top (nI_add iQ 1) ?_
  refine g_sld rfl (show iQ + 1 < _ by omega) (by omega) ?_
  refine g_run 4 191 [some (.retAddr 0), some (.ref 0), some (.ref 49), some (.int (nI iQ))] [.int (nI iQ + nI 2), .retAddr 0, .int (o.2 (iQ + 1)), .ref 49, .int vQ] H1 rfl ?_
  refine g_top (nI_add iQ 2) ?_
  refine g_sld rfl (show iQ + 2 < _ by omega) (by omega) ?_
  refine g_run 4 196 [some (.retAddr 0), some (.ref 0), some (.ref 49), some (.int (nI iQ))] [.int (nI iQ + nI 3), .retAddr 0, .int (o.2 (iQ + 2)), .int (o.2 (iQ + 1)), .ref 49, .int vQ] H1 rfl ?_
  refine g_top (nI_add iQ 3) ?_
  refine g_sld rfl (show iQ + 3 < _ by omega) (by omega) ?_
  refine g_run 4 201 [some (.retAddr 0), some (.ref 0), some (.ref 49), some (.int (nI iQ))] [.int (nI iQ + nI 4), .retAddr 0, .int (o.2 (iQ + 3)), .int (o.2 (iQ + 2)), .int (o.2 (iQ + 1)), .ref 49, .int vQ] H1 rfl ?_
  refine g_top (nI_add iQ 4) ?_
  refine g_sld rfl (show iQ + 4 < _ by omega) (by omega) ?_
  refine g_run 4 206 [some (.retAddr 0), some (.ref 0), some (.ref 49), some (.int (nI iQ))] [.int (nI iQ + nI 5), .retAddr 0, .int (o.2 (iQ + 4)), .int (o.2 (iQ + 3)), .int (o.2 (iQ + 2)), .int (o.2 (iQ + 1)), .ref 49, .int vQ] H1 rfl ?_
  refine g_top (nI_add iQ 5) ?_
  refine g_sld rfl (show iQ + 5 < _ by omega) (by omega) ?_
  refine g_virS rfl rfl rfl h49 rfl rfl q1 rfl (fun v2 H2 q2 => ?_)
  obtain ⟨rfl, hI2⟩ := q2
  show eG _ 202 210 [some (.retAddr 0), some (.ref 0), some (.ref 49), some (.int (nI iQ))] [.int vQ, .int vQ] H2 _
  refine g_icmp_eq rfl (fun _ => ?_) (fun c1 => absurd (rfl) c1)
  show eG _ 202 1060 [some (.retAddr 0), some (.ref 0), some (.ref 49), some (.int (nI iQ))] [] H2 _
  exact hk H2 hI2
set_option maxRecDepth 100000 in
set_option maxHeartbeats 4000000 in
theorem c_told (Inv : eH → Prop) (hO : ∀ H, Inv H → ∃ fs, H[0]? = some (.inr (6, fs))) (hP : P_told Inv) (o : eO) (iQ : Nat) (H : eH) (hz : o.1 ≤ 3072) (hi : iQ + 6 ≤ o.1) (hI : Inv H) {r : eP} (hk : ∀ H2, Inv H2 → eG o 202 1060 [some (.retAddr 0), some (.ref 0), some (.ref 49), some (.int (nI iQ))] [] H2 r) : eG o 202 215 [some (.retAddr 0), some (.ref 0), some (.ref 49), some (.int (nI iQ))] [] H r := by
  obtain ⟨fo, hob⟩ := hO H hI
  refine g_run 5 220 [some (.retAddr 0), some (.ref 0), some (.ref 49), some (.int (nI iQ))] [.int (nI iQ + nI 1), .retAddr 0, .ref 0] H rfl ?_
  refine g_top (nI_add iQ 1) ?_
  refine g_sld rfl (show iQ + 1 < _ by omega) (by omega) ?_
  refine g_run 4 225 [some (.retAddr 0), some (.ref 0), some (.ref 49), some (.int (nI iQ))] [.int (nI iQ + nI 2), .retAddr 0, .int (o.2 (iQ + 1)), .ref 0] H rfl ?_
  refine g_top (nI_add iQ 2) ?_
  refine g_sld rfl (show iQ + 2 < _ by omega) (by omega) ?_
  refine g_virS rfl rfl rfl hob rfl rfl (hP _ _ o H hI) rfl (fun v1 H1 q1 => ?_)
  obtain ⟨vQ, rfl, ⟨fm, h49⟩, q1⟩ := q1
  show eG _ 202 229 [some (.retAddr 0), some (.ref 0), some (.ref 49), some (.int (nI iQ))] [.int vQ] H1 _
  refine g_run 5 234 [some (.retAddr 0), some (.ref 0), some (.ref 49), some (.int (nI iQ))] [.int (nI iQ + nI 1), .retAddr 0, .ref 49, .int vQ] H1 rfl ?_
  refine g_top (nI_add iQ 1) ?_
  refine g_sld rfl (show iQ + 1 < _ by omega) (by omega) ?_
  refine g_run 4 239 [some (.retAddr 0), some (.ref 0), some (.ref 49), some (.int (nI iQ))] [.int (nI iQ + nI 2), .retAddr 0, .int (o.2 (iQ + 1)), .ref 49, .int vQ] H1 rfl ?_
  refine g_top (nI_add iQ 2) ?_
  refine g_sld rfl (show iQ + 2 < _ by omega) (by omega) ?_
  refine g_virS rfl rfl rfl h49 rfl rfl q1 rfl (fun v2 H2 q2 => ?_)
  obtain ⟨rfl, hI2⟩ := q2
  show eG _ 202 243 [some (.retAddr 0), some (.ref 0), some (.ref 49), some (.int (nI iQ))] [.int vQ, .int vQ] H2 _
  refine g_icmp_eq rfl (fun _ => ?_) (fun c1 => absurd (rfl) c1)
  show eG _ 202 1060 [some (.retAddr 0), some (.ref 0), some (.ref 49), some (.int (nI iQ))] [] H2 _
  exact hk H2 hI2
set_option maxRecDepth 100000 in
set_option maxHeartbeats 4000000 in
theorem c_stand (Inv : eH → Prop) (hO : ∀ H, Inv H → ∃ fs, H[0]? = some (.inr (6, fs))) (hP : P_stand Inv) (o : eO) (iQ : Nat) (H : eH) (hz : o.1 ≤ 3072) (hi : iQ + 6 ≤ o.1) (hI : Inv H) {r : eP} (hk : ∀ H2, Inv H2 → eG o 202 1060 [some (.retAddr 0), some (.ref 0), some (.ref 49), some (.int (nI iQ))] [] H2 r) : eG o 202 248 [some (.retAddr 0), some (.ref 0), some (.ref 49), some (.int (nI iQ))] [] H r := by
  obtain ⟨fo, hob⟩ := hO H hI
  refine g_run 5 253 [some (.retAddr 0), some (.ref 0), some (.ref 49), some (.int (nI iQ))] [.int (nI iQ + nI 1), .retAddr 0, .ref 0] H rfl ?_
  refine g_top (nI_add iQ 1) ?_
  refine g_sld rfl (show iQ + 1 < _ by omega) (by omega) ?_
  refine g_virS rfl rfl rfl hob rfl rfl (hP _ o H hI) rfl (fun v1 H1 q1 => ?_)
  obtain ⟨vQ, rfl, ⟨fm, h49⟩, q1⟩ := q1
  show eG _ 202 257 [some (.retAddr 0), some (.ref 0), some (.ref 49), some (.int (nI iQ))] [.int vQ] H1 _
  refine g_run 5 262 [some (.retAddr 0), some (.ref 0), some (.ref 49), some (.int (nI iQ))] [.int (nI iQ + nI 1), .retAddr 0, .ref 49, .int vQ] H1 rfl ?_
  refine g_top (nI_add iQ 1) ?_
  refine g_sld rfl (show iQ + 1 < _ by omega) (by omega) ?_
  refine g_virS rfl rfl rfl h49 rfl rfl q1 rfl (fun v2 H2 q2 => ?_)
  obtain ⟨rfl, hI2⟩ := q2
  show eG _ 202 266 [some (.retAddr 0), some (.ref 0), some (.ref 49), some (.int (nI iQ))] [.int vQ, .int vQ] H2 _
  refine g_icmp_eq rfl (fun _ => ?_) (fun c1 => absurd (rfl) c1)
  show eG _ 202 1060 [some (.retAddr 0), some (.ref 0), some (.ref 49), some (.int (nI iQ))] [] H2 _
  exact hk H2 hI2
set_option maxRecDepth 100000 in
set_option maxHeartbeats 4000000 in
theorem c_person (Inv : eH → Prop) (hO : ∀ H, Inv H → ∃ fs, H[0]? = some (.inr (6, fs))) (hP : P_person Inv) (o : eO) (iQ : Nat) (H : eH) (hz : o.1 ≤ 3072) (hi : iQ + 6 ≤ o.1) (hI : Inv H) {r : eP} (hk : ∀ H2, Inv H2 → eG o 202 1060 [some (.retAddr 0), some (.ref 0), some (.ref 49), some (.int (nI iQ))] [] H2 r) : eG o 202 271 [some (.retAddr 0), some (.ref 0), some (.ref 49), some (.int (nI iQ))] [] H r := by
  obtain ⟨fo, hob⟩ := hO H hI
  refine g_run 5 276 [some (.retAddr 0), some (.ref 0), some (.ref 49), some (.int (nI iQ))] [.int (nI iQ + nI 1), .retAddr 0, .ref 0] H rfl ?_
  refine g_top (nI_add iQ 1) ?_
  refine g_sld rfl (show iQ + 1 < _ by omega) (by omega) ?_
  refine g_virS rfl rfl rfl hob rfl rfl (hP _ o H hI) rfl (fun v1 H1 q1 => ?_)
  obtain ⟨vQ, rfl, ⟨fm, h49⟩, q1⟩ := q1
  show eG _ 202 280 [some (.retAddr 0), some (.ref 0), some (.ref 49), some (.int (nI iQ))] [.int vQ] H1 _
  refine g_run 5 285 [some (.retAddr 0), some (.ref 0), some (.ref 49), some (.int (nI iQ))] [.int (nI iQ + nI 1), .retAddr 0, .ref 49, .int vQ] H1 rfl ?_
  refine g_top (nI_add iQ 1) ?_
  refine g_sld rfl (show iQ + 1 < _ by omega) (by omega) ?_
  refine g_virS rfl rfl rfl h49 rfl rfl q1 rfl (fun v2 H2 q2 => ?_)
  obtain ⟨rfl, hI2⟩ := q2
  show eG _ 202 289 [some (.retAddr 0), some (.ref 0), some (.ref 49), some (.int (nI iQ))] [.int vQ, .int vQ] H2 _
  refine g_icmp_eq rfl (fun _ => ?_) (fun c1 => absurd (rfl) c1)
  show eG _ 202 1060 [some (.retAddr 0), some (.ref 0), some (.ref 49), some (.int (nI iQ))] [] H2 _
  exact hk H2 hI2
set_option maxRecDepth 100000 in
set_option maxHeartbeats 4000000 in
theorem c_set (Inv : eH → Prop) (hO : ∀ H, Inv H → ∃ fs, H[0]? = some (.inr (6, fs))) (hP : P_set Inv) (o : eO) (iQ : Nat) (H : eH) (hz : o.1 ≤ 3072) (hi : iQ + 6 ≤ o.1) (hI : Inv H) {r : eP} (hk : ∀ H2, Inv H2 → eG o 202 1060 [some (.retAddr 0), some (.ref 0), some (.ref 49), some (.int (nI iQ))] [] H2 r) : eG o 202 294 [some (.retAddr 0), some (.ref 0), some (.ref 49), some (.int (nI iQ))] [] H r := by
  obtain ⟨fo, hob⟩ := hO H hI
  refine g_run 5 299 [some (.retAddr 0), some (.ref 0), some (.ref 49), some (.int (nI iQ))] [.int (nI iQ + nI 1), .retAddr 0, .ref 0] H rfl ?_
  refine g_top (nI_add iQ 1) ?_
  refine g_sld rfl (show iQ + 1 < _ by omega) (by omega) ?_
  refine g_run 4 304 [some (.retAddr 0), some (.ref 0), some (.ref 49), some (.int (nI iQ))] [.int (nI iQ + nI 2), .retAddr 0, .int (o.2 (iQ + 1)), .ref 0] H rfl ?_
  refine g_top (nI_add iQ 2) ?_
  refine g_sld rfl (show iQ + 2 < _ by omega) (by omega) ?_
  refine g_virS rfl rfl rfl hob rfl rfl (hP _ _ o H hI) rfl (fun v1 H1 q1 => ?_)
  obtain ⟨vQ, rfl, ⟨fm, h49⟩, q1⟩ := q1
  show eG _ 202 308 [some (.retAddr 0), some (.ref 0), some (.ref 49), some (.int (nI iQ))] [.int vQ] H1 _
  refine g_run 5 313 [some (.retAddr 0), some (.ref 0), some (.ref 49), some (.int (nI iQ))] [.int (nI iQ + nI 1), .retAddr 0, .ref 49, .int vQ] H1 rfl ?_
  refine g_top (nI_add iQ 1) ?_
  refine g_sld rfl (show iQ + 1 < _ by omega) (by omega) ?_
  refine g_run 4 318 [some (.retAddr 0), some (.ref 0), some (.ref 49), some (.int (nI iQ))] [.int (nI iQ + nI 2), .retAddr 0, .int (o.2 (iQ + 1)), .ref 49, .int vQ] H1 rfl ?_
  refine g_top (nI_add iQ 2) ?_
  refine g_sld rfl (show iQ + 2 < _ by omega) (by omega) ?_
  refine g_virS rfl rfl rfl h49 rfl rfl q1 rfl (fun v2 H2 q2 => ?_)
  obtain ⟨rfl, hI2⟩ := q2
  show eG _ 202 322 [some (.retAddr 0), some (.ref 0), some (.ref 49), some (.int (nI iQ))] [.int vQ, .int vQ] H2 _
  refine g_icmp_eq rfl (fun _ => ?_) (fun c1 => absurd (rfl) c1)
  show eG _ 202 1060 [some (.retAddr 0), some (.ref 0), some (.ref 49), some (.int (nI iQ))] [] H2 _
  exact hk H2 hI2
set_option maxRecDepth 100000 in
set_option maxHeartbeats 4000000 in
theorem c_want (Inv : eH → Prop) (hO : ∀ H, Inv H → ∃ fs, H[0]? = some (.inr (6, fs))) (hP : P_want Inv) (o : eO) (iQ : Nat) (H : eH) (hz : o.1 ≤ 3072) (hi : iQ + 6 ≤ o.1) (hI : Inv H) {r : eP} (hk : ∀ H2, Inv H2 → eG o 202 1060 [some (.retAddr 0), some (.ref 0), some (.ref 49), some (.int (nI iQ))] [] H2 r) : eG o 202 327 [some (.retAddr 0), some (.ref 0), some (.ref 49), some (.int (nI iQ))] [] H r := by
  obtain ⟨fo, hob⟩ := hO H hI
  refine g_run 5 332 [some (.retAddr 0), some (.ref 0), some (.ref 49), some (.int (nI iQ))] [.int (nI iQ + nI 1), .retAddr 0, .ref 0] H rfl ?_
  refine g_top (nI_add iQ 1) ?_
  refine g_sld rfl (show iQ + 1 < _ by omega) (by omega) ?_
  refine g_virS rfl rfl rfl hob rfl rfl (hP _ o H hI) rfl (fun v1 H1 q1 => ?_)
  obtain ⟨vQ, rfl, ⟨fm, h49⟩, q1⟩ := q1
  show eG _ 202 336 [some (.retAddr 0), some (.ref 0), some (.ref 49), some (.int (nI iQ))] [.int vQ] H1 _
  refine g_run 5 341 [some (.retAddr 0), some (.ref 0), some (.ref 49), some (.int (nI iQ))] [.int (nI iQ + nI 1), .retAddr 0, .ref 49, .int vQ] H1 rfl ?_
  refine g_top (nI_add iQ 1) ?_
  refine g_sld rfl (show iQ + 1 < _ by omega) (by omega) ?_
  refine g_virS rfl rfl rfl h49 rfl rfl q1 rfl (fun v2 H2 q2 => ?_)
  obtain ⟨rfl, hI2⟩ := q2
  show eG _ 202 345 [some (.retAddr 0), some (.ref 0), some (.ref 49), some (.int (nI iQ))] [.int vQ, .int vQ] H2 _
  refine g_icmp_eq rfl (fun _ => ?_) (fun c1 => absurd (rfl) c1)
  show eG _ 202 1060 [some (.retAddr 0), some (.ref 0), some (.ref 49), some (.int (nI iQ))] [] H2 _
  exact hk H2 hI2
set_option maxRecDepth 100000 in
set_option maxHeartbeats 4000000 in
theorem c_type (Inv : eH → Prop) (hO : ∀ H, Inv H → ∃ fs, H[0]? = some (.inr (6, fs))) (hP : P_type Inv) (o : eO) (iQ : Nat) (H : eH) (hz : o.1 ≤ 3072) (hi : iQ + 6 ≤ o.1) (hI : Inv H) {r : eP} (hk : ∀ H2, Inv H2 → eG o 202 1060 [some (.retAddr 0), some (.ref 0), some (.ref 49), some (.int (nI iQ))] [] H2 r) : eG o 202 350 [some (.retAddr 0), some (.ref 0), some (.ref 49), some (.int (nI iQ))] [] H r := by
  obtain ⟨fo, hob⟩ := hO H hI
  refine g_run 5 355 [some (.retAddr 0), some (.ref 0), some (.ref 49), some (.int (nI iQ))] [.int (nI iQ + nI 1), .retAddr 0, .ref 0] H rfl ?_
  refine g_top (nI_add iQ 1) ?_
  refine g_sld rfl (show iQ + 1 < _ by omega) (by omega) ?_
  refine g_run 7 364 [some (.retAddr 0), some (.ref 0), some (.ref 49), some (.int (nI iQ))] [.int (nI iQ + nI 2), .retAddr 0, .long (((o.2 (iQ + 1)).toInt64) <<< ((32 : Int32).toInt64 &&& 63)), .ref 0] H rfl ?_
  refine g_top (nI_add iQ 2) ?_
  refine g_sld rfl (show iQ + 2 < _ by omega) (by omega) ?_
  refine g_run 8 375 [some (.retAddr 0), some (.ref 0), some (.ref 49), some (.int (nI iQ))] [.int (nI iQ + nI 3), .retAddr 0, .long ((((o.2 (iQ + 1)).toInt64) <<< ((32 : Int32).toInt64 &&& 63)) ||| (((o.2 (iQ + 2)).toInt64) &&& 4294967295)), .ref 0] H rfl ?_
  refine g_top (nI_add iQ 3) ?_
  refine g_sld rfl (show iQ + 3 < _ by omega) (by omega) ?_
  refine g_virS rfl rfl rfl hob rfl rfl (hP _ _ o H hI) rfl (fun v1 H1 q1 => ?_)
  obtain ⟨vQ, rfl, ⟨fm, h49⟩, q1⟩ := q1
  show eG _ 202 379 [some (.retAddr 0), some (.ref 0), some (.ref 49), some (.int (nI iQ))] [.int vQ] H1 _
  refine g_run 5 384 [some (.retAddr 0), some (.ref 0), some (.ref 49), some (.int (nI iQ))] [.int (nI iQ + nI 1), .retAddr 0, .ref 49, .int vQ] H1 rfl ?_
  refine g_top (nI_add iQ 1) ?_
  refine g_sld rfl (show iQ + 1 < _ by omega) (by omega) ?_
  refine g_run 7 393 [some (.retAddr 0), some (.ref 0), some (.ref 49), some (.int (nI iQ))] [.int (nI iQ + nI 2), .retAddr 0, .long (((o.2 (iQ + 1)).toInt64) <<< ((32 : Int32).toInt64 &&& 63)), .ref 49, .int vQ] H1 rfl ?_
  refine g_top (nI_add iQ 2) ?_
  refine g_sld rfl (show iQ + 2 < _ by omega) (by omega) ?_
  refine g_run 8 404 [some (.retAddr 0), some (.ref 0), some (.ref 49), some (.int (nI iQ))] [.int (nI iQ + nI 3), .retAddr 0, .long ((((o.2 (iQ + 1)).toInt64) <<< ((32 : Int32).toInt64 &&& 63)) ||| (((o.2 (iQ + 2)).toInt64) &&& 4294967295)), .ref 49, .int vQ] H1 rfl ?_
  refine g_top (nI_add iQ 3) ?_
  refine g_sld rfl (show iQ + 3 < _ by omega) (by omega) ?_
  refine g_virS rfl rfl rfl h49 rfl rfl q1 rfl (fun v2 H2 q2 => ?_)
  obtain ⟨rfl, hI2⟩ := q2
  show eG _ 202 408 [some (.retAddr 0), some (.ref 0), some (.ref 49), some (.int (nI iQ))] [.int vQ, .int vQ] H2 _
  refine g_icmp_eq rfl (fun _ => ?_) (fun c1 => absurd (rfl) c1)
  show eG _ 202 1060 [some (.retAddr 0), some (.ref 0), some (.ref 49), some (.int (nI iQ))] [] H2 _
  exact hk H2 hI2
set_option maxRecDepth 100000 in
set_option maxHeartbeats 4000000 in
theorem c_town (Inv : eH → Prop) (hO : ∀ H, Inv H → ∃ fs, H[0]? = some (.inr (6, fs))) (hP : P_town Inv) (o : eO) (iQ : Nat) (H : eH) (hz : o.1 ≤ 3072) (hi : iQ + 6 ≤ o.1) (hI : Inv H) {r : eP} (hk : ∀ H2, Inv H2 → eG o 202 1060 [some (.retAddr 0), some (.ref 0), some (.ref 49), some (.int (nI iQ))] [] H2 r) : eG o 202 413 [some (.retAddr 0), some (.ref 0), some (.ref 49), some (.int (nI iQ))] [] H r := by
  obtain ⟨fo, hob⟩ := hO H hI
  refine g_run 1 414 [some (.retAddr 0), some (.ref 0), some (.ref 49), some (.int (nI iQ))] [.ref 0] H rfl ?_
  refine g_virS rfl rfl rfl hob rfl rfl (hP o H hI) rfl (fun v1 H1 q1 => ?_)
  obtain ⟨vQ, rfl, ⟨fm, h49⟩, q1⟩ := q1
  show eG _ 202 417 [some (.retAddr 0), some (.ref 0), some (.ref 49), some (.int (nI iQ))] [.int vQ] H1 _
  refine g_run 1 418 [some (.retAddr 0), some (.ref 0), some (.ref 49), some (.int (nI iQ))] [.ref 49, .int vQ] H1 rfl ?_
  refine g_virS rfl rfl rfl h49 rfl rfl q1 rfl (fun v2 H2 q2 => ?_)
  obtain ⟨rfl, hI2⟩ := q2
  show eG _ 202 421 [some (.retAddr 0), some (.ref 0), some (.ref 49), some (.int (nI iQ))] [.int vQ, .int vQ] H2 _
  refine g_icmp_eq rfl (fun _ => ?_) (fun c1 => absurd (rfl) c1)
  show eG _ 202 1060 [some (.retAddr 0), some (.ref 0), some (.ref 49), some (.int (nI iQ))] [] H2 _
  exact hk H2 hI2
set_option maxRecDepth 100000 in
set_option maxHeartbeats 4000000 in
theorem c_people (Inv : eH → Prop) (hO : ∀ H, Inv H → ∃ fs, H[0]? = some (.inr (6, fs))) (hP : P_people Inv) (o : eO) (iQ : Nat) (H : eH) (hz : o.1 ≤ 3072) (hi : iQ + 6 ≤ o.1) (hI : Inv H) {r : eP} (hk : ∀ H2, Inv H2 → eG o 202 1060 [some (.retAddr 0), some (.ref 0), some (.ref 49), some (.int (nI iQ))] [] H2 r) : eG o 202 426 [some (.retAddr 0), some (.ref 0), some (.ref 49), some (.int (nI iQ))] [] H r := by
  obtain ⟨fo, hob⟩ := hO H hI
  refine g_run 1 427 [some (.retAddr 0), some (.ref 0), some (.ref 49), some (.int (nI iQ))] [.ref 0] H rfl ?_
  refine g_virS rfl rfl rfl hob rfl rfl (hP o H hI) rfl (fun v1 H1 q1 => ?_)
  obtain ⟨vQ, rfl, ⟨fm, h49⟩, q1⟩ := q1
  show eG _ 202 430 [some (.retAddr 0), some (.ref 0), some (.ref 49), some (.int (nI iQ))] [.int vQ] H1 _
  refine g_run 1 431 [some (.retAddr 0), some (.ref 0), some (.ref 49), some (.int (nI iQ))] [.ref 49, .int vQ] H1 rfl ?_
  refine g_virS rfl rfl rfl h49 rfl rfl q1 rfl (fun v2 H2 q2 => ?_)
  obtain ⟨rfl, hI2⟩ := q2
  show eG _ 202 434 [some (.retAddr 0), some (.ref 0), some (.ref 49), some (.int (nI iQ))] [.int vQ, .int vQ] H2 _
  refine g_icmp_eq rfl (fun _ => ?_) (fun c1 => absurd (rfl) c1)
  show eG _ 202 1060 [some (.retAddr 0), some (.ref 0), some (.ref 49), some (.int (nI iQ))] [] H2 _
  exact hk H2 hI2
set_option maxRecDepth 100000 in
set_option maxHeartbeats 4000000 in
theorem c_count (Inv : eH → Prop) (hO : ∀ H, Inv H → ∃ fs, H[0]? = some (.inr (6, fs))) (hP : P_count Inv) (o : eO) (iQ : Nat) (H : eH) (hz : o.1 ≤ 3072) (hi : iQ + 6 ≤ o.1) (hI : Inv H) {r : eP} (hk : ∀ H2, Inv H2 → eG o 202 1060 [some (.retAddr 0), some (.ref 0), some (.ref 49), some (.int (nI iQ))] [] H2 r) : eG o 202 439 [some (.retAddr 0), some (.ref 0), some (.ref 49), some (.int (nI iQ))] [] H r := by
  obtain ⟨fo, hob⟩ := hO H hI
  refine g_run 5 444 [some (.retAddr 0), some (.ref 0), some (.ref 49), some (.int (nI iQ))] [.int (nI iQ + nI 1), .retAddr 0, .ref 0] H rfl ?_
  refine g_top (nI_add iQ 1) ?_
  refine g_sld rfl (show iQ + 1 < _ by omega) (by omega) ?_
  refine g_virS rfl rfl rfl hob rfl rfl (hP _ o H hI) rfl (fun v1 H1 q1 => ?_)
  obtain ⟨vQ, rfl, ⟨fm, h49⟩, q1⟩ := q1
  show eG _ 202 448 [some (.retAddr 0), some (.ref 0), some (.ref 49), some (.int (nI iQ))] [.int vQ] H1 _
  refine g_run 5 453 [some (.retAddr 0), some (.ref 0), some (.ref 49), some (.int (nI iQ))] [.int (nI iQ + nI 1), .retAddr 0, .ref 49, .int vQ] H1 rfl ?_
  refine g_top (nI_add iQ 1) ?_
  refine g_sld rfl (show iQ + 1 < _ by omega) (by omega) ?_
  refine g_virS rfl rfl rfl h49 rfl rfl q1 rfl (fun v2 H2 q2 => ?_)
  obtain ⟨rfl, hI2⟩ := q2
  show eG _ 202 457 [some (.retAddr 0), some (.ref 0), some (.ref 49), some (.int (nI iQ))] [.int vQ, .int vQ] H2 _
  refine g_icmp_eq rfl (fun _ => ?_) (fun c1 => absurd (rfl) c1)
  show eG _ 202 1060 [some (.retAddr 0), some (.ref 0), some (.ref 49), some (.int (nI iQ))] [] H2 _
  exact hk H2 hI2
set_option maxRecDepth 100000 in
set_option maxHeartbeats 4000000 in
theorem c_may (Inv : eH → Prop) (hO : ∀ H, Inv H → ∃ fs, H[0]? = some (.inr (6, fs))) (hP : P_may Inv) (o : eO) (iQ : Nat) (H : eH) (hz : o.1 ≤ 3072) (hi : iQ + 6 ≤ o.1) (hI : Inv H) {r : eP} (hk : ∀ H2, Inv H2 → eG o 202 1060 [some (.retAddr 0), some (.ref 0), some (.ref 49), some (.int (nI iQ))] [] H2 r) : eG o 202 462 [some (.retAddr 0), some (.ref 0), some (.ref 49), some (.int (nI iQ))] [] H r := by
  obtain ⟨fo, hob⟩ := hO H hI
  refine g_run 5 467 [some (.retAddr 0), some (.ref 0), some (.ref 49), some (.int (nI iQ))] [.int (nI iQ + nI 1), .retAddr 0, .ref 0] H rfl ?_
  refine g_top (nI_add iQ 1) ?_
  refine g_sld rfl (show iQ + 1 < _ by omega) (by omega) ?_
  refine g_run 4 472 [some (.retAddr 0), some (.ref 0), some (.ref 49), some (.int (nI iQ))] [.int (nI iQ + nI 2), .retAddr 0, .int (o.2 (iQ + 1)), .ref 0] H rfl ?_
  refine g_top (nI_add iQ 2) ?_
  refine g_sld rfl (show iQ + 2 < _ by omega) (by omega) ?_
  refine g_virS rfl rfl rfl hob rfl rfl (hP _ _ o H hI) rfl (fun v1 H1 q1 => ?_)
  obtain ⟨vQ, rfl, ⟨fm, h49⟩, q1⟩ := q1
  show eG _ 202 476 [some (.retAddr 0), some (.ref 0), some (.ref 49), some (.int (nI iQ))] [.int vQ] H1 _
  refine g_run 5 481 [some (.retAddr 0), some (.ref 0), some (.ref 49), some (.int (nI iQ))] [.int (nI iQ + nI 1), .retAddr 0, .ref 49, .int vQ] H1 rfl ?_
  refine g_top (nI_add iQ 1) ?_
  refine g_sld rfl (show iQ + 1 < _ by omega) (by omega) ?_
  refine g_run 4 486 [some (.retAddr 0), some (.ref 0), some (.ref 49), some (.int (nI iQ))] [.int (nI iQ + nI 2), .retAddr 0, .int (o.2 (iQ + 1)), .ref 49, .int vQ] H1 rfl ?_
  refine g_top (nI_add iQ 2) ?_
  refine g_sld rfl (show iQ + 2 < _ by omega) (by omega) ?_
  refine g_virS rfl rfl rfl h49 rfl rfl q1 rfl (fun v2 H2 q2 => ?_)
  obtain ⟨rfl, hI2⟩ := q2
  show eG _ 202 490 [some (.retAddr 0), some (.ref 0), some (.ref 49), some (.int (nI iQ))] [.int vQ, .int vQ] H2 _
  refine g_icmp_eq rfl (fun _ => ?_) (fun c1 => absurd (rfl) c1)
  show eG _ 202 1060 [some (.retAddr 0), some (.ref 0), some (.ref 49), some (.int (nI iQ))] [] H2 _
  exact hk H2 hI2
set_option maxRecDepth 100000 in
set_option maxHeartbeats 4000000 in
theorem c_week (Inv : eH → Prop) (hO : ∀ H, Inv H → ∃ fs, H[0]? = some (.inr (6, fs))) (hP : P_week Inv) (o : eO) (iQ : Nat) (H : eH) (hz : o.1 ≤ 3072) (hi : iQ + 6 ≤ o.1) (hI : Inv H) {r : eP} (hk : ∀ H2, Inv H2 → eG o 202 1060 [some (.retAddr 0), some (.ref 0), some (.ref 49), some (.int (nI iQ))] [] H2 r) : eG o 202 495 [some (.retAddr 0), some (.ref 0), some (.ref 49), some (.int (nI iQ))] [] H r := by
  obtain ⟨fo, hob⟩ := hO H hI
  refine g_run 5 500 [some (.retAddr 0), some (.ref 0), some (.ref 49), some (.int (nI iQ))] [.int (nI iQ + nI 1), .retAddr 0, .ref 0] H rfl ?_
  refine g_top (nI_add iQ 1) ?_
  refine g_sld rfl (show iQ + 1 < _ by omega) (by omega) ?_
  refine g_run 4 505 [some (.retAddr 0), some (.ref 0), some (.ref 49), some (.int (nI iQ))] [.int (nI iQ + nI 2), .retAddr 0, .int (o.2 (iQ + 1)), .ref 0] H rfl ?_
  refine g_top (nI_add iQ 2) ?_
  refine g_sld rfl (show iQ + 2 < _ by omega) (by omega) ?_
  refine g_virS rfl rfl rfl hob rfl rfl (hP _ _ o H hI) rfl (fun v1 H1 q1 => ?_)
  obtain ⟨vQ, rfl, ⟨fm, h49⟩, q1⟩ := q1
  show eG _ 202 509 [some (.retAddr 0), some (.ref 0), some (.ref 49), some (.int (nI iQ))] [.int vQ] H1 _
  refine g_run 5 514 [some (.retAddr 0), some (.ref 0), some (.ref 49), some (.int (nI iQ))] [.int (nI iQ + nI 1), .retAddr 0, .ref 49, .int vQ] H1 rfl ?_
  refine g_top (nI_add iQ 1) ?_
  refine g_sld rfl (show iQ + 1 < _ by omega) (by omega) ?_
  refine g_run 4 519 [some (.retAddr 0), some (.ref 0), some (.ref 49), some (.int (nI iQ))] [.int (nI iQ + nI 2), .retAddr 0, .int (o.2 (iQ + 1)), .ref 49, .int vQ] H1 rfl ?_
  refine g_top (nI_add iQ 2) ?_
  refine g_sld rfl (show iQ + 2 < _ by omega) (by omega) ?_
  refine g_virS rfl rfl rfl h49 rfl rfl q1 rfl (fun v2 H2 q2 => ?_)
  obtain ⟨rfl, hI2⟩ := q2
  show eG _ 202 523 [some (.retAddr 0), some (.ref 0), some (.ref 49), some (.int (nI iQ))] [.int vQ, .int vQ] H2 _
  refine g_icmp_eq rfl (fun _ => ?_) (fun c1 => absurd (rfl) c1)
  show eG _ 202 1060 [some (.retAddr 0), some (.ref 0), some (.ref 49), some (.int (nI iQ))] [] H2 _
  exact hk H2 hI2
set_option maxRecDepth 100000 in
set_option maxHeartbeats 4000000 in
theorem c_can (Inv : eH → Prop) (hO : ∀ H, Inv H → ∃ fs, H[0]? = some (.inr (6, fs))) (hP : P_can Inv) (o : eO) (iQ : Nat) (H : eH) (hz : o.1 ≤ 3072) (hi : iQ + 6 ≤ o.1) (hI : Inv H) {r : eP} (hk : ∀ H2, Inv H2 → eG o 202 1060 [some (.retAddr 0), some (.ref 0), some (.ref 49), some (.int (nI iQ))] [] H2 r) : eG o 202 528 [some (.retAddr 0), some (.ref 0), some (.ref 49), some (.int (nI iQ))] [] H r := by
  obtain ⟨fo, hob⟩ := hO H hI
  refine g_run 5 533 [some (.retAddr 0), some (.ref 0), some (.ref 49), some (.int (nI iQ))] [.int (nI iQ + nI 1), .retAddr 0, .ref 0] H rfl ?_
  refine g_top (nI_add iQ 1) ?_
  refine g_sld rfl (show iQ + 1 < _ by omega) (by omega) ?_
  refine g_virS rfl rfl rfl hob rfl rfl (hP _ o H hI) rfl (fun v1 H1 q1 => ?_)
  obtain ⟨vQ, rfl, ⟨fm, h49⟩, q1⟩ := q1
  show eG _ 202 537 [some (.retAddr 0), some (.ref 0), some (.ref 49), some (.int (nI iQ))] [.int vQ] H1 _
  refine g_run 5 542 [some (.retAddr 0), some (.ref 0), some (.ref 49), some (.int (nI iQ))] [.int (nI iQ + nI 1), .retAddr 0, .ref 49, .int vQ] H1 rfl ?_
  refine g_top (nI_add iQ 1) ?_
  refine g_sld rfl (show iQ + 1 < _ by omega) (by omega) ?_
  refine g_virS rfl rfl rfl h49 rfl rfl q1 rfl (fun v2 H2 q2 => ?_)
  obtain ⟨rfl, hI2⟩ := q2
  show eG _ 202 546 [some (.retAddr 0), some (.ref 0), some (.ref 49), some (.int (nI iQ))] [.int vQ, .int vQ] H2 _
  refine g_icmp_eq rfl (fun _ => ?_) (fun c1 => absurd (rfl) c1)
  show eG _ 202 1060 [some (.retAddr 0), some (.ref 0), some (.ref 49), some (.int (nI iQ))] [] H2 _
  exact hk H2 hI2
set_option maxRecDepth 100000 in
set_option maxHeartbeats 4000000 in
theorem c_more (Inv : eH → Prop) (hO : ∀ H, Inv H → ∃ fs, H[0]? = some (.inr (6, fs))) (hP : P_more Inv) (o : eO) (iQ : Nat) (H : eH) (hz : o.1 ≤ 3072) (hi : iQ + 6 ≤ o.1) (hI : Inv H) {r : eP} (hk : ∀ H2, Inv H2 → eG o 202 1060 [some (.retAddr 0), some (.ref 0), some (.ref 49), some (.int (nI iQ))] [] H2 r) : eG o 202 551 [some (.retAddr 0), some (.ref 0), some (.ref 49), some (.int (nI iQ))] [] H r := by
  obtain ⟨fo, hob⟩ := hO H hI
  refine g_run 1 552 [some (.retAddr 0), some (.ref 0), some (.ref 49), some (.int (nI iQ))] [.ref 0] H rfl ?_
  refine g_virS rfl rfl rfl hob rfl rfl (hP o H hI) rfl (fun v1 H1 q1 => ?_)
  obtain ⟨vQ, rfl, ⟨fm, h49⟩, q1⟩ := q1
  show eG _ 202 555 [some (.retAddr 0), some (.ref 0), some (.ref 49), some (.int (nI iQ))] [.int vQ] H1 _
  refine g_run 1 556 [some (.retAddr 0), some (.ref 0), some (.ref 49), some (.int (nI iQ))] [.ref 49, .int vQ] H1 rfl ?_
  refine g_virS rfl rfl rfl h49 rfl rfl q1 rfl (fun v2 H2 q2 => ?_)
  obtain ⟨rfl, hI2⟩ := q2
  show eG _ 202 559 [some (.retAddr 0), some (.ref 0), some (.ref 49), some (.int (nI iQ))] [.int vQ, .int vQ] H2 _
  refine g_icmp_eq rfl (fun _ => ?_) (fun c1 => absurd (rfl) c1)
  show eG _ 202 1060 [some (.retAddr 0), some (.ref 0), some (.ref 49), some (.int (nI iQ))] [] H2 _
  exact hk H2 hI2
set_option maxRecDepth 100000 in
set_option maxHeartbeats 4000000 in
theorem c_carry (Inv : eH → Prop) (hO : ∀ H, Inv H → ∃ fs, H[0]? = some (.inr (6, fs))) (hP : P_carry Inv) (o : eO) (iQ : Nat) (H : eH) (hz : o.1 ≤ 3072) (hi : iQ + 6 ≤ o.1) (hI : Inv H) {r : eP} (hk : ∀ H2, Inv H2 → eG o 202 1060 [some (.retAddr 0), some (.ref 0), some (.ref 49), some (.int (nI iQ))] [] H2 r) : eG o 202 564 [some (.retAddr 0), some (.ref 0), some (.ref 49), some (.int (nI iQ))] [] H r := by
  obtain ⟨fo, hob⟩ := hO H hI
  refine g_run 5 569 [some (.retAddr 0), some (.ref 0), some (.ref 49), some (.int (nI iQ))] [.int (nI iQ + nI 1), .retAddr 0, .ref 0] H rfl ?_
  refine g_top (nI_add iQ 1) ?_
  refine g_sld rfl (show iQ + 1 < _ by omega) (by omega) ?_
  refine g_run 4 574 [some (.retAddr 0), some (.ref 0), some (.ref 49), some (.int (nI iQ))] [.int (nI iQ + nI 2), .retAddr 0, .int (o.2 (iQ + 1)), .ref 0] H rfl ?_
  refine g_top (nI_add iQ 2) ?_
  refine g_sld rfl (show iQ + 2 < _ by omega) (by omega) ?_
  refine g_virS rfl rfl rfl hob rfl rfl (hP _ _ o H hI) rfl (fun v1 H1 q1 => ?_)
  obtain ⟨vQ, rfl, ⟨fm, h49⟩, q1⟩ := q1
  show eG _ 202 578 [some (.retAddr 0), some (.ref 0), some (.ref 49), some (.int (nI iQ))] [.int vQ] H1 _
  refine g_run 5 583 [some (.retAddr 0), some (.ref 0), some (.ref 49), some (.int (nI iQ))] [.int (nI iQ + nI 1), .retAddr 0, .ref 49, .int vQ] H1 rfl ?_
  refine g_top (nI_add iQ 1) ?_
  refine g_sld rfl (show iQ + 1 < _ by omega) (by omega) ?_
  refine g_run 4 588 [some (.retAddr 0), some (.ref 0), some (.ref 49), some (.int (nI iQ))] [.int (nI iQ + nI 2), .retAddr 0, .int (o.2 (iQ + 1)), .ref 49, .int vQ] H1 rfl ?_
  refine g_top (nI_add iQ 2) ?_
  refine g_sld rfl (show iQ + 2 < _ by omega) (by omega) ?_
  refine g_virS rfl rfl rfl h49 rfl rfl q1 rfl (fun v2 H2 q2 => ?_)
  obtain ⟨rfl, hI2⟩ := q2
  show eG _ 202 592 [some (.retAddr 0), some (.ref 0), some (.ref 49), some (.int (nI iQ))] [.int vQ, .int vQ] H2 _
  refine g_icmp_eq rfl (fun _ => ?_) (fun c1 => absurd (rfl) c1)
  show eG _ 202 1060 [some (.retAddr 0), some (.ref 0), some (.ref 49), some (.int (nI iQ))] [] H2 _
  exact hk H2 hI2
set_option maxRecDepth 100000 in
set_option maxHeartbeats 4000000 in
theorem c_build (Inv : eH → Prop) (hO : ∀ H, Inv H → ∃ fs, H[0]? = some (.inr (6, fs))) (hP : P_build Inv) (o : eO) (iQ : Nat) (H : eH) (hz : o.1 ≤ 3072) (hi : iQ + 6 ≤ o.1) (hI : Inv H) {r : eP} (hk : ∀ H2, Inv H2 → eG o 202 1060 [some (.retAddr 0), some (.ref 0), some (.ref 49), some (.int (nI iQ))] [] H2 r) : eG o 202 597 [some (.retAddr 0), some (.ref 0), some (.ref 49), some (.int (nI iQ))] [] H r := by
  obtain ⟨fo, hob⟩ := hO H hI
  refine g_run 5 602 [some (.retAddr 0), some (.ref 0), some (.ref 49), some (.int (nI iQ))] [.int (nI iQ + nI 1), .retAddr 0, .ref 0] H rfl ?_
  refine g_top (nI_add iQ 1) ?_
  refine g_sld rfl (show iQ + 1 < _ by omega) (by omega) ?_
  refine g_run 4 607 [some (.retAddr 0), some (.ref 0), some (.ref 49), some (.int (nI iQ))] [.int (nI iQ + nI 2), .retAddr 0, .int (o.2 (iQ + 1)), .ref 0] H rfl ?_
  refine g_top (nI_add iQ 2) ?_
  refine g_sld rfl (show iQ + 2 < _ by omega) (by omega) ?_
  refine g_virS rfl rfl rfl hob rfl rfl (hP _ _ o H hI) rfl (fun v1 H1 q1 => ?_)
  obtain ⟨vQ, rfl, ⟨fm, h49⟩, q1⟩ := q1
  show eG _ 202 611 [some (.retAddr 0), some (.ref 0), some (.ref 49), some (.int (nI iQ))] [.int vQ] H1 _
  refine g_run 5 616 [some (.retAddr 0), some (.ref 0), some (.ref 49), some (.int (nI iQ))] [.int (nI iQ + nI 1), .retAddr 0, .ref 49, .int vQ] H1 rfl ?_
  refine g_top (nI_add iQ 1) ?_
  refine g_sld rfl (show iQ + 1 < _ by omega) (by omega) ?_
  refine g_run 4 621 [some (.retAddr 0), some (.ref 0), some (.ref 49), some (.int (nI iQ))] [.int (nI iQ + nI 2), .retAddr 0, .int (o.2 (iQ + 1)), .ref 49, .int vQ] H1 rfl ?_
  refine g_top (nI_add iQ 2) ?_
  refine g_sld rfl (show iQ + 2 < _ by omega) (by omega) ?_
  refine g_virS rfl rfl rfl h49 rfl rfl q1 rfl (fun v2 H2 q2 => ?_)
  obtain ⟨rfl, hI2⟩ := q2
  show eG _ 202 625 [some (.retAddr 0), some (.ref 0), some (.ref 49), some (.int (nI iQ))] [.int vQ, .int vQ] H2 _
  refine g_icmp_eq rfl (fun _ => ?_) (fun c1 => absurd (rfl) c1)
  show eG _ 202 1060 [some (.retAddr 0), some (.ref 0), some (.ref 49), some (.int (nI iQ))] [] H2 _
  exact hk H2 hI2
set_option maxRecDepth 100000 in
set_option maxHeartbeats 4000000 in
theorem c_worth (Inv : eH → Prop) (hO : ∀ H, Inv H → ∃ fs, H[0]? = some (.inr (6, fs))) (hP : P_worth Inv) (o : eO) (iQ : Nat) (H : eH) (hz : o.1 ≤ 3072) (hi : iQ + 6 ≤ o.1) (hI : Inv H) {r : eP} (hk : ∀ H2, Inv H2 → eG o 202 1060 [some (.retAddr 0), some (.ref 0), some (.ref 49), some (.int (nI iQ))] [] H2 r) : eG o 202 630 [some (.retAddr 0), some (.ref 0), some (.ref 49), some (.int (nI iQ))] [] H r := by
  obtain ⟨fo, hob⟩ := hO H hI
  refine g_run 5 635 [some (.retAddr 0), some (.ref 0), some (.ref 49), some (.int (nI iQ))] [.int (nI iQ + nI 1), .retAddr 0, .ref 0] H rfl ?_
  refine g_top (nI_add iQ 1) ?_
  refine g_sld rfl (show iQ + 1 < _ by omega) (by omega) ?_
  refine g_run 4 640 [some (.retAddr 0), some (.ref 0), some (.ref 49), some (.int (nI iQ))] [.int (nI iQ + nI 2), .retAddr 0, .int (o.2 (iQ + 1)), .ref 0] H rfl ?_
  refine g_top (nI_add iQ 2) ?_
  refine g_sld rfl (show iQ + 2 < _ by omega) (by omega) ?_
  refine g_virS rfl rfl rfl hob rfl rfl (hP _ _ o H hI) rfl (fun v1 H1 q1 => ?_)
  obtain ⟨vQ, rfl, ⟨fm, h49⟩, q1⟩ := q1
  show eG _ 202 644 [some (.retAddr 0), some (.ref 0), some (.ref 49), some (.int (nI iQ))] [.int vQ] H1 _
  refine g_run 5 649 [some (.retAddr 0), some (.ref 0), some (.ref 49), some (.int (nI iQ))] [.int (nI iQ + nI 1), .retAddr 0, .ref 49, .int vQ] H1 rfl ?_
  refine g_top (nI_add iQ 1) ?_
  refine g_sld rfl (show iQ + 1 < _ by omega) (by omega) ?_
  refine g_run 4 654 [some (.retAddr 0), some (.ref 0), some (.ref 49), some (.int (nI iQ))] [.int (nI iQ + nI 2), .retAddr 0, .int (o.2 (iQ + 1)), .ref 49, .int vQ] H1 rfl ?_
  refine g_top (nI_add iQ 2) ?_
  refine g_sld rfl (show iQ + 2 < _ by omega) (by omega) ?_
  refine g_virS rfl rfl rfl h49 rfl rfl q1 rfl (fun v2 H2 q2 => ?_)
  obtain ⟨rfl, hI2⟩ := q2
  show eG _ 202 658 [some (.retAddr 0), some (.ref 0), some (.ref 49), some (.int (nI iQ))] [.int vQ, .int vQ] H2 _
  refine g_icmp_eq rfl (fun _ => ?_) (fun c1 => absurd (rfl) c1)
  show eG _ 202 1060 [some (.retAddr 0), some (.ref 0), some (.ref 49), some (.int (nI iQ))] [] H2 _
  exact hk H2 hI2
set_option maxRecDepth 100000 in
set_option maxHeartbeats 4000000 in
theorem c_image (Inv : eH → Prop) (hO : ∀ H, Inv H → ∃ fs, H[0]? = some (.inr (6, fs))) (hP : P_image Inv) (o : eO) (iQ : Nat) (H : eH) (hz : o.1 ≤ 3072) (hi : iQ + 6 ≤ o.1) (hI : Inv H) {r : eP} (hk : ∀ H2, Inv H2 → eG o 202 1060 [some (.retAddr 0), some (.ref 0), some (.ref 49), some (.int (nI iQ))] [] H2 r) : eG o 202 663 [some (.retAddr 0), some (.ref 0), some (.ref 49), some (.int (nI iQ))] [] H r := by
  obtain ⟨fo, hob⟩ := hO H hI
  refine g_run 1 664 [some (.retAddr 0), some (.ref 0), some (.ref 49), some (.int (nI iQ))] [.ref 0] H rfl ?_
  refine g_virS rfl rfl rfl hob rfl rfl (hP o H hI) rfl (fun v1 H1 q1 => ?_)
  obtain ⟨vQ, rfl, ⟨fm, h49⟩, q1⟩ := q1
  show eG _ 202 667 [some (.retAddr 0), some (.ref 0), some (.ref 49), some (.int (nI iQ))] [.int vQ] H1 _
  refine g_run 1 668 [some (.retAddr 0), some (.ref 0), some (.ref 49), some (.int (nI iQ))] [.ref 49, .int vQ] H1 rfl ?_
  refine g_virS rfl rfl rfl h49 rfl rfl q1 rfl (fun v2 H2 q2 => ?_)
  obtain ⟨rfl, hI2⟩ := q2
  show eG _ 202 671 [some (.retAddr 0), some (.ref 0), some (.ref 49), some (.int (nI iQ))] [.int vQ, .int vQ] H2 _
  refine g_icmp_eq rfl (fun _ => ?_) (fun c1 => absurd (rfl) c1)
  show eG _ 202 1060 [some (.retAddr 0), some (.ref 0), some (.ref 49), some (.int (nI iQ))] [] H2 _
  exact hk H2 hI2
set_option maxRecDepth 100000 in
set_option maxHeartbeats 4000000 in
theorem c_restore (Inv : eH → Prop) (hO : ∀ H, Inv H → ∃ fs, H[0]? = some (.inr (6, fs))) (hP : P_restore Inv) (o : eO) (iQ : Nat) (H : eH) (hz : o.1 ≤ 3072) (hi : iQ + 6 ≤ o.1) (hI : Inv H) {r : eP} (hk : ∀ H2, Inv H2 → eG o 202 1060 [some (.retAddr 0), some (.ref 0), some (.ref 49), some (.int (nI iQ))] [] H2 r) : eG o 202 676 [some (.retAddr 0), some (.ref 0), some (.ref 49), some (.int (nI iQ))] [] H r := by
  obtain ⟨fo, hob⟩ := hO H hI
  refine g_run 1 677 [some (.retAddr 0), some (.ref 0), some (.ref 49), some (.int (nI iQ))] [.ref 0] H rfl ?_
  refine g_virS rfl rfl rfl hob rfl rfl (hP o H hI) rfl (fun v1 H1 q1 => ?_)
  obtain ⟨vQ, rfl, ⟨fm, h49⟩, q1⟩ := q1
  show eG _ 202 680 [some (.retAddr 0), some (.ref 0), some (.ref 49), some (.int (nI iQ))] [.int vQ] H1 _
  refine g_run 1 681 [some (.retAddr 0), some (.ref 0), some (.ref 49), some (.int (nI iQ))] [.ref 49, .int vQ] H1 rfl ?_
  refine g_virS rfl rfl rfl h49 rfl rfl q1 rfl (fun v2 H2 q2 => ?_)
  obtain ⟨rfl, hI2⟩ := q2
  show eG _ 202 684 [some (.retAddr 0), some (.ref 0), some (.ref 49), some (.int (nI iQ))] [.int vQ, .int vQ] H2 _
  refine g_icmp_eq rfl (fun _ => ?_) (fun c1 => absurd (rfl) c1)
  show eG _ 202 1060 [some (.retAddr 0), some (.ref 0), some (.ref 49), some (.int (nI iQ))] [] H2 _
  exact hk H2 hI2
set_option maxRecDepth 100000 in
set_option maxHeartbeats 4000000 in
theorem c_judged (Inv : eH → Prop) (hO : ∀ H, Inv H → ∃ fs, H[0]? = some (.inr (6, fs))) (hP : P_judged Inv) (o : eO) (iQ : Nat) (H : eH) (hz : o.1 ≤ 3072) (hi : iQ + 6 ≤ o.1) (hI : Inv H) {r : eP} (hk : ∀ H2, Inv H2 → eG o 202 1060 [some (.retAddr 0), some (.ref 0), some (.ref 49), some (.int (nI iQ))] [] H2 r) : eG o 202 689 [some (.retAddr 0), some (.ref 0), some (.ref 49), some (.int (nI iQ))] [] H r := by
  obtain ⟨fo, hob⟩ := hO H hI
  refine g_run 5 694 [some (.retAddr 0), some (.ref 0), some (.ref 49), some (.int (nI iQ))] [.int (nI iQ + nI 1), .retAddr 0, .ref 0] H rfl ?_
  refine g_top (nI_add iQ 1) ?_
  refine g_sld rfl (show iQ + 1 < _ by omega) (by omega) ?_
  refine g_run 4 699 [some (.retAddr 0), some (.ref 0), some (.ref 49), some (.int (nI iQ))] [.int (nI iQ + nI 2), .retAddr 0, .int (o.2 (iQ + 1)), .ref 0] H rfl ?_
  refine g_top (nI_add iQ 2) ?_
  refine g_sld rfl (show iQ + 2 < _ by omega) (by omega) ?_
  refine g_run 4 704 [some (.retAddr 0), some (.ref 0), some (.ref 49), some (.int (nI iQ))] [.int (nI iQ + nI 3), .retAddr 0, .int (o.2 (iQ + 2)), .int (o.2 (iQ + 1)), .ref 0] H rfl ?_
  refine g_top (nI_add iQ 3) ?_
  refine g_sld rfl (show iQ + 3 < _ by omega) (by omega) ?_
  refine g_run 4 709 [some (.retAddr 0), some (.ref 0), some (.ref 49), some (.int (nI iQ))] [.int (nI iQ + nI 4), .retAddr 0, .int (o.2 (iQ + 3)), .int (o.2 (iQ + 2)), .int (o.2 (iQ + 1)), .ref 0] H rfl ?_
  refine g_top (nI_add iQ 4) ?_
  refine g_sld rfl (show iQ + 4 < _ by omega) (by omega) ?_
  refine g_virS rfl rfl rfl hob rfl rfl (hP _ _ _ _ o H hI) rfl (fun v1 H1 q1 => ?_)
  obtain ⟨vQ, rfl, ⟨fm, h49⟩, q1⟩ := q1
  show eG _ 202 713 [some (.retAddr 0), some (.ref 0), some (.ref 49), some (.int (nI iQ))] [.int vQ] H1 _
  refine g_run 5 718 [some (.retAddr 0), some (.ref 0), some (.ref 49), some (.int (nI iQ))] [.int (nI iQ + nI 1), .retAddr 0, .ref 49, .int vQ] H1 rfl ?_
  refine g_top (nI_add iQ 1) ?_
  refine g_sld rfl (show iQ + 1 < _ by omega) (by omega) ?_
  refine g_run 4 723 [some (.retAddr 0), some (.ref 0), some (.ref 49), some (.int (nI iQ))] [.int (nI iQ + nI 2), .retAddr 0, .int (o.2 (iQ + 1)), .ref 49, .int vQ] H1 rfl ?_
  refine g_top (nI_add iQ 2) ?_
  refine g_sld rfl (show iQ + 2 < _ by omega) (by omega) ?_
  refine g_run 4 728 [some (.retAddr 0), some (.ref 0), some (.ref 49), some (.int (nI iQ))] [.int (nI iQ + nI 3), .retAddr 0, .int (o.2 (iQ + 2)), .int (o.2 (iQ + 1)), .ref 49, .int vQ] H1 rfl ?_
  refine g_top (nI_add iQ 3) ?_
  refine g_sld rfl (show iQ + 3 < _ by omega) (by omega) ?_
  refine g_run 4 733 [some (.retAddr 0), some (.ref 0), some (.ref 49), some (.int (nI iQ))] [.int (nI iQ + nI 4), .retAddr 0, .int (o.2 (iQ + 3)), .int (o.2 (iQ + 2)), .int (o.2 (iQ + 1)), .ref 49, .int vQ] H1 rfl ?_
  refine g_top (nI_add iQ 4) ?_
  refine g_sld rfl (show iQ + 4 < _ by omega) (by omega) ?_
  refine g_virS rfl rfl rfl h49 rfl rfl q1 rfl (fun v2 H2 q2 => ?_)
  obtain ⟨rfl, hI2⟩ := q2
  show eG _ 202 737 [some (.retAddr 0), some (.ref 0), some (.ref 49), some (.int (nI iQ))] [.int vQ, .int vQ] H2 _
  refine g_icmp_eq rfl (fun _ => ?_) (fun c1 => absurd (rfl) c1)
  show eG _ 202 1060 [some (.retAddr 0), some (.ref 0), some (.ref 49), some (.int (nI iQ))] [] H2 _
  exact hk H2 hI2
set_option maxRecDepth 100000 in
set_option maxHeartbeats 4000000 in
theorem c_wrong (Inv : eH → Prop) (hO : ∀ H, Inv H → ∃ fs, H[0]? = some (.inr (6, fs))) (hP : P_wrong Inv) (o : eO) (iQ : Nat) (H : eH) (hz : o.1 ≤ 3072) (hi : iQ + 6 ≤ o.1) (hI : Inv H) {r : eP} (hk : ∀ H2, Inv H2 → eG o 202 1060 [some (.retAddr 0), some (.ref 0), some (.ref 49), some (.int (nI iQ))] [] H2 r) : eG o 202 742 [some (.retAddr 0), some (.ref 0), some (.ref 49), some (.int (nI iQ))] [] H r := by
  obtain ⟨fo, hob⟩ := hO H hI
  refine g_run 5 747 [some (.retAddr 0), some (.ref 0), some (.ref 49), some (.int (nI iQ))] [.int (nI iQ + nI 1), .retAddr 0, .ref 0] H rfl ?_
  refine g_top (nI_add iQ 1) ?_
  refine g_sld rfl (show iQ + 1 < _ by omega) (by omega) ?_
  refine g_run 4 752 [some (.retAddr 0), some (.ref 0), some (.ref 49), some (.int (nI iQ))] [.int (nI iQ + nI 2), .retAddr 0, .int (o.2 (iQ + 1)), .ref 0] H rfl ?_
  refine g_top (nI_add iQ 2) ?_
  refine g_sld rfl (show iQ + 2 < _ by omega) (by omega) ?_
  refine g_run 4 757 [some (.retAddr 0), some (.ref 0), some (.ref 49), some (.int (nI iQ))] [.int (nI iQ + nI 3), .retAddr 0, .int (o.2 (iQ + 2)), .int (o.2 (iQ + 1)), .ref 0] H rfl ?_
  refine g_top (nI_add iQ 3) ?_
  refine g_sld rfl (show iQ + 3 < _ by omega) (by omega) ?_
  refine g_run 4 762 [some (.retAddr 0), some (.ref 0), some (.ref 49), some (.int (nI iQ))] [.int (nI iQ + nI 4), .retAddr 0, .int (o.2 (iQ + 3)), .int (o.2 (iQ + 2)), .int (o.2 (iQ + 1)), .ref 0] H rfl ?_
  refine g_top (nI_add iQ 4) ?_
  refine g_sld rfl (show iQ + 4 < _ by omega) (by omega) ?_
  refine g_run 4 767 [some (.retAddr 0), some (.ref 0), some (.ref 49), some (.int (nI iQ))] [.int (nI iQ + nI 5), .retAddr 0, .int (o.2 (iQ + 4)), .int (o.2 (iQ + 3)), .int (o.2 (iQ + 2)), .int (o.2 (iQ + 1)), .ref 0] H rfl ?_
  refine g_top (nI_add iQ 5) ?_
  refine g_sld rfl (show iQ + 5 < _ by omega) (by omega) ?_
  refine g_virS rfl rfl rfl hob rfl rfl (hP _ _ _ _ _ o H hI) rfl (fun v1 H1 q1 => ?_)
  obtain ⟨vQ, rfl, ⟨fm, h49⟩, q1⟩ := q1
  show eG _ 202 771 [some (.retAddr 0), some (.ref 0), some (.ref 49), some (.int (nI iQ))] [.int vQ] H1 _
  refine g_run 5 776 [some (.retAddr 0), some (.ref 0), some (.ref 49), some (.int (nI iQ))] [.int (nI iQ + nI 1), .retAddr 0, .ref 49, .int vQ] H1 rfl ?_
  refine g_top (nI_add iQ 1) ?_
  refine g_sld rfl (show iQ + 1 < _ by omega) (by omega) ?_
  refine g_run 4 781 [some (.retAddr 0), some (.ref 0), some (.ref 49), some (.int (nI iQ))] [.int (nI iQ + nI 2), .retAddr 0, .int (o.2 (iQ + 1)), .ref 49, .int vQ] H1 rfl ?_
  refine g_top (nI_add iQ 2) ?_
  refine g_sld rfl (show iQ + 2 < _ by omega) (by omega) ?_
  refine g_run 4 786 [some (.retAddr 0), some (.ref 0), some (.ref 49), some (.int (nI iQ))] [.int (nI iQ + nI 3), .retAddr 0, .int (o.2 (iQ + 2)), .int (o.2 (iQ + 1)), .ref 49, .int vQ] H1 rfl ?_
  refine g_top (nI_add iQ 3) ?_
  refine g_sld rfl (show iQ + 3 < _ by omega) (by omega) ?_
  refine g_run 4 791 [some (.retAddr 0), some (.ref 0), some (.ref 49), some (.int (nI iQ))] [.int (nI iQ + nI 4), .retAddr 0, .int (o.2 (iQ + 3)), .int (o.2 (iQ + 2)), .int (o.2 (iQ + 1)), .ref 49, .int vQ] H1 rfl ?_
  refine g_top (nI_add iQ 4) ?_
  refine g_sld rfl (show iQ + 4 < _ by omega) (by omega) ?_
  refine g_run 4 796 [some (.retAddr 0), some (.ref 0), some (.ref 49), some (.int (nI iQ))] [.int (nI iQ + nI 5), .retAddr 0, .int (o.2 (iQ + 4)), .int (o.2 (iQ + 3)), .int (o.2 (iQ + 2)), .int (o.2 (iQ + 1)), .ref 49, .int vQ] H1 rfl ?_
  refine g_top (nI_add iQ 5) ?_
  refine g_sld rfl (show iQ + 5 < _ by omega) (by omega) ?_
  refine g_virS rfl rfl rfl h49 rfl rfl q1 rfl (fun v2 H2 q2 => ?_)
  obtain ⟨rfl, hI2⟩ := q2
  show eG _ 202 800 [some (.retAddr 0), some (.ref 0), some (.ref 49), some (.int (nI iQ))] [.int vQ, .int vQ] H2 _
  refine g_icmp_eq rfl (fun _ => ?_) (fun c1 => absurd (rfl) c1)
  show eG _ 202 1060 [some (.retAddr 0), some (.ref 0), some (.ref 49), some (.int (nI iQ))] [] H2 _
  exact hk H2 hI2
set_option maxRecDepth 100000 in
set_option maxHeartbeats 4000000 in
theorem c_sheet (Inv : eH → Prop) (hO : ∀ H, Inv H → ∃ fs, H[0]? = some (.inr (6, fs))) (hP : P_sheet Inv) (o : eO) (iQ : Nat) (H : eH) (hz : o.1 ≤ 3072) (hi : iQ + 6 ≤ o.1) (hI : Inv H) {r : eP} (hk : ∀ H2, Inv H2 → eG o 202 1060 [some (.retAddr 0), some (.ref 0), some (.ref 49), some (.int (nI iQ))] [] H2 r) : eG o 202 805 [some (.retAddr 0), some (.ref 0), some (.ref 49), some (.int (nI iQ))] [] H r := by
  obtain ⟨fo, hob⟩ := hO H hI
  refine g_run 5 810 [some (.retAddr 0), some (.ref 0), some (.ref 49), some (.int (nI iQ))] [.int (nI iQ + nI 1), .retAddr 0, .ref 0] H rfl ?_
  refine g_top (nI_add iQ 1) ?_
  refine g_sld rfl (show iQ + 1 < _ by omega) (by omega) ?_
  refine g_run 4 815 [some (.retAddr 0), some (.ref 0), some (.ref 49), some (.int (nI iQ))] [.int (nI iQ + nI 2), .retAddr 0, .int (o.2 (iQ + 1)), .ref 0] H rfl ?_
  refine g_top (nI_add iQ 2) ?_
  refine g_sld rfl (show iQ + 2 < _ by omega) (by omega) ?_
  refine g_run 4 820 [some (.retAddr 0), some (.ref 0), some (.ref 49), some (.int (nI iQ))] [.int (nI iQ + nI 3), .retAddr 0, .int (o.2 (iQ + 2)), .int (o.2 (iQ + 1)), .ref 0] H rfl ?_
  refine g_top (nI_add iQ 3) ?_
  refine g_sld rfl (show iQ + 3 < _ by omega) (by omega) ?_
  refine g_virS rfl rfl rfl hob rfl rfl (hP _ _ _ o H hI) rfl (fun v1 H1 q1 => ?_)
  obtain ⟨vQ, rfl, ⟨fm, h49⟩, q1⟩ := q1
  show eG _ 202 824 [some (.retAddr 0), some (.ref 0), some (.ref 49), some (.int (nI iQ))] [.int vQ] H1 _
  refine g_run 5 829 [some (.retAddr 0), some (.ref 0), some (.ref 49), some (.int (nI iQ))] [.int (nI iQ + nI 1), .retAddr 0, .ref 49, .int vQ] H1 rfl ?_
  refine g_top (nI_add iQ 1) ?_
  refine g_sld rfl (show iQ + 1 < _ by omega) (by omega) ?_
  refine g_run 4 834 [some (.retAddr 0), some (.ref 0), some (.ref 49), some (.int (nI iQ))] [.int (nI iQ + nI 2), .retAddr 0, .int (o.2 (iQ + 1)), .ref 49, .int vQ] H1 rfl ?_
  refine g_top (nI_add iQ 2) ?_
  refine g_sld rfl (show iQ + 2 < _ by omega) (by omega) ?_
  refine g_run 4 839 [some (.retAddr 0), some (.ref 0), some (.ref 49), some (.int (nI iQ))] [.int (nI iQ + nI 3), .retAddr 0, .int (o.2 (iQ + 2)), .int (o.2 (iQ + 1)), .ref 49, .int vQ] H1 rfl ?_
  refine g_top (nI_add iQ 3) ?_
  refine g_sld rfl (show iQ + 3 < _ by omega) (by omega) ?_
  refine g_virS rfl rfl rfl h49 rfl rfl q1 rfl (fun v2 H2 q2 => ?_)
  obtain ⟨rfl, hI2⟩ := q2
  show eG _ 202 843 [some (.retAddr 0), some (.ref 0), some (.ref 49), some (.int (nI iQ))] [.int vQ, .int vQ] H2 _
  refine g_icmp_eq rfl (fun _ => ?_) (fun c1 => absurd (rfl) c1)
  show eG _ 202 1060 [some (.retAddr 0), some (.ref 0), some (.ref 49), some (.int (nI iQ))] [] H2 _
  exact hk H2 hI2
set_option maxRecDepth 100000 in
set_option maxHeartbeats 4000000 in
theorem c_drop (Inv : eH → Prop) (hO : ∀ H, Inv H → ∃ fs, H[0]? = some (.inr (6, fs))) (hP : P_drop Inv) (o : eO) (iQ : Nat) (H : eH) (hz : o.1 ≤ 3072) (hi : iQ + 6 ≤ o.1) (hI : Inv H) {r : eP} (hk : ∀ H2, Inv H2 → eG o 202 1060 [some (.retAddr 0), some (.ref 0), some (.ref 49), some (.int (nI iQ))] [] H2 r) : eG o 202 848 [some (.retAddr 0), some (.ref 0), some (.ref 49), some (.int (nI iQ))] [] H r := by
  obtain ⟨fo, hob⟩ := hO H hI
  refine g_run 5 853 [some (.retAddr 0), some (.ref 0), some (.ref 49), some (.int (nI iQ))] [.int (nI iQ + nI 1), .retAddr 0, .ref 0] H rfl ?_
  refine g_top (nI_add iQ 1) ?_
  refine g_sld rfl (show iQ + 1 < _ by omega) (by omega) ?_
  refine g_virS rfl rfl rfl hob rfl rfl (hP _ o H hI) rfl (fun v1 H1 q1 => ?_)
  obtain ⟨vQ, rfl, ⟨fm, h49⟩, q1⟩ := q1
  show eG _ 202 857 [some (.retAddr 0), some (.ref 0), some (.ref 49), some (.int (nI iQ))] [.int vQ] H1 _
  refine g_run 5 862 [some (.retAddr 0), some (.ref 0), some (.ref 49), some (.int (nI iQ))] [.int (nI iQ + nI 1), .retAddr 0, .ref 49, .int vQ] H1 rfl ?_
  refine g_top (nI_add iQ 1) ?_
  refine g_sld rfl (show iQ + 1 < _ by omega) (by omega) ?_
  refine g_virS rfl rfl rfl h49 rfl rfl q1 rfl (fun v2 H2 q2 => ?_)
  obtain ⟨rfl, hI2⟩ := q2
  show eG _ 202 866 [some (.retAddr 0), some (.ref 0), some (.ref 49), some (.int (nI iQ))] [.int vQ, .int vQ] H2 _
  refine g_icmp_eq rfl (fun _ => ?_) (fun c1 => absurd (rfl) c1)
  show eG _ 202 1060 [some (.retAddr 0), some (.ref 0), some (.ref 49), some (.int (nI iQ))] [] H2 _
  exact hk H2 hI2
set_option maxRecDepth 100000 in
set_option maxHeartbeats 4000000 in
theorem c_item (Inv : eH → Prop) (hO : ∀ H, Inv H → ∃ fs, H[0]? = some (.inr (6, fs))) (hP : P_item Inv) (o : eO) (iQ : Nat) (H : eH) (hz : o.1 ≤ 3072) (hi : iQ + 6 ≤ o.1) (hI : Inv H) {r : eP} (hk : ∀ H2, Inv H2 → eG o 202 1060 [some (.retAddr 0), some (.ref 0), some (.ref 49), some (.int (nI iQ))] [] H2 r) : eG o 202 871 [some (.retAddr 0), some (.ref 0), some (.ref 49), some (.int (nI iQ))] [] H r := by
  obtain ⟨fo, hob⟩ := hO H hI
  refine g_run 5 876 [some (.retAddr 0), some (.ref 0), some (.ref 49), some (.int (nI iQ))] [.int (nI iQ + nI 1), .retAddr 0, .ref 0] H rfl ?_
  refine g_top (nI_add iQ 1) ?_
  refine g_sld rfl (show iQ + 1 < _ by omega) (by omega) ?_
  refine g_run 4 881 [some (.retAddr 0), some (.ref 0), some (.ref 49), some (.int (nI iQ))] [.int (nI iQ + nI 2), .retAddr 0, .int (o.2 (iQ + 1)), .ref 0] H rfl ?_
  refine g_top (nI_add iQ 2) ?_
  refine g_sld rfl (show iQ + 2 < _ by omega) (by omega) ?_
  refine g_run 4 886 [some (.retAddr 0), some (.ref 0), some (.ref 49), some (.int (nI iQ))] [.int (nI iQ + nI 3), .retAddr 0, .int (o.2 (iQ + 2)), .int (o.2 (iQ + 1)), .ref 0] H rfl ?_
  refine g_top (nI_add iQ 3) ?_
  refine g_sld rfl (show iQ + 3 < _ by omega) (by omega) ?_
  refine g_run 4 891 [some (.retAddr 0), some (.ref 0), some (.ref 49), some (.int (nI iQ))] [.int (nI iQ + nI 4), .retAddr 0, .int (o.2 (iQ + 3)), .int (o.2 (iQ + 2)), .int (o.2 (iQ + 1)), .ref 0] H rfl ?_
  refine g_top (nI_add iQ 4) ?_
  refine g_sld rfl (show iQ + 4 < _ by omega) (by omega) ?_
  refine g_run 7 900 [some (.retAddr 0), some (.ref 0), some (.ref 49), some (.int (nI iQ))] [.int (nI iQ + nI 5), .retAddr 0, .long (((o.2 (iQ + 4)).toInt64) <<< ((32 : Int32).toInt64 &&& 63)), .int (o.2 (iQ + 3)), .int (o.2 (iQ + 2)), .int (o.2 (iQ + 1)), .ref 0] H rfl ?_
  refine g_top (nI_add iQ 5) ?_
  refine g_sld rfl (show iQ + 5 < _ by omega) (by omega) ?_
  refine g_run 4 907 [some (.retAddr 0), some (.ref 0), some (.ref 49), some (.int (nI iQ))] [.long ((((o.2 (iQ + 4)).toInt64) <<< ((32 : Int32).toInt64 &&& 63)) ||| (((o.2 (iQ + 5)).toInt64) &&& 4294967295)), .int (o.2 (iQ + 3)), .int (o.2 (iQ + 2)), .int (o.2 (iQ + 1)), .ref 0] H rfl ?_
  refine g_virS rfl rfl rfl hob rfl rfl (hP _ _ _ _ o H hI) rfl (fun v1 H1 q1 => ?_)
  obtain ⟨vQ, rfl, ⟨fm, h49⟩, q1⟩ := q1
  show eG _ 202 910 [some (.retAddr 0), some (.ref 0), some (.ref 49), some (.int (nI iQ))] [.int vQ] H1 _
  refine g_run 5 915 [some (.retAddr 0), some (.ref 0), some (.ref 49), some (.int (nI iQ))] [.int (nI iQ + nI 1), .retAddr 0, .ref 49, .int vQ] H1 rfl ?_
  refine g_top (nI_add iQ 1) ?_
  refine g_sld rfl (show iQ + 1 < _ by omega) (by omega) ?_
  refine g_run 4 920 [some (.retAddr 0), some (.ref 0), some (.ref 49), some (.int (nI iQ))] [.int (nI iQ + nI 2), .retAddr 0, .int (o.2 (iQ + 1)), .ref 49, .int vQ] H1 rfl ?_
  refine g_top (nI_add iQ 2) ?_
  refine g_sld rfl (show iQ + 2 < _ by omega) (by omega) ?_
  refine g_run 4 925 [some (.retAddr 0), some (.ref 0), some (.ref 49), some (.int (nI iQ))] [.int (nI iQ + nI 3), .retAddr 0, .int (o.2 (iQ + 2)), .int (o.2 (iQ + 1)), .ref 49, .int vQ] H1 rfl ?_
  refine g_top (nI_add iQ 3) ?_
  refine g_sld rfl (show iQ + 3 < _ by omega) (by omega) ?_
  refine g_run 4 930 [some (.retAddr 0), some (.ref 0), some (.ref 49), some (.int (nI iQ))] [.int (nI iQ + nI 4), .retAddr 0, .int (o.2 (iQ + 3)), .int (o.2 (iQ + 2)), .int (o.2 (iQ + 1)), .ref 49, .int vQ] H1 rfl ?_
  refine g_top (nI_add iQ 4) ?_
  refine g_sld rfl (show iQ + 4 < _ by omega) (by omega) ?_
  refine g_run 7 939 [some (.retAddr 0), some (.ref 0), some (.ref 49), some (.int (nI iQ))] [.int (nI iQ + nI 5), .retAddr 0, .long (((o.2 (iQ + 4)).toInt64) <<< ((32 : Int32).toInt64 &&& 63)), .int (o.2 (iQ + 3)), .int (o.2 (iQ + 2)), .int (o.2 (iQ + 1)), .ref 49, .int vQ] H1 rfl ?_
  refine g_top (nI_add iQ 5) ?_
  refine g_sld rfl (show iQ + 5 < _ by omega) (by omega) ?_
  refine g_run 4 946 [some (.retAddr 0), some (.ref 0), some (.ref 49), some (.int (nI iQ))] [.long ((((o.2 (iQ + 4)).toInt64) <<< ((32 : Int32).toInt64 &&& 63)) ||| (((o.2 (iQ + 5)).toInt64) &&& 4294967295)), .int (o.2 (iQ + 3)), .int (o.2 (iQ + 2)), .int (o.2 (iQ + 1)), .ref 49, .int vQ] H1 rfl ?_
  refine g_virS rfl rfl rfl h49 rfl rfl q1 rfl (fun v2 H2 q2 => ?_)
  obtain ⟨rfl, hI2⟩ := q2
  show eG _ 202 949 [some (.retAddr 0), some (.ref 0), some (.ref 49), some (.int (nI iQ))] [.int vQ, .int vQ] H2 _
  refine g_icmp_eq rfl (fun _ => ?_) (fun c1 => absurd (rfl) c1)
  show eG _ 202 1060 [some (.retAddr 0), some (.ref 0), some (.ref 49), some (.int (nI iQ))] [] H2 _
  exact hk H2 hI2
set_option maxRecDepth 100000 in
set_option maxHeartbeats 4000000 in
theorem c_film (Inv : eH → Prop) (hO : ∀ H, Inv H → ∃ fs, H[0]? = some (.inr (6, fs))) (hP : P_film Inv) (o : eO) (iQ : Nat) (H : eH) (hz : o.1 ≤ 3072) (hi : iQ + 6 ≤ o.1) (hI : Inv H) {r : eP} (hk : ∀ H2, Inv H2 → eG o 202 1060 [some (.retAddr 0), some (.ref 0), some (.ref 49), some (.int (nI iQ))] [] H2 r) : eG o 202 954 [some (.retAddr 0), some (.ref 0), some (.ref 49), some (.int (nI iQ))] [] H r := by
  obtain ⟨fo, hob⟩ := hO H hI
  refine g_run 5 959 [some (.retAddr 0), some (.ref 0), some (.ref 49), some (.int (nI iQ))] [.int (nI iQ + nI 1), .retAddr 0, .ref 0] H rfl ?_
  refine g_top (nI_add iQ 1) ?_
  refine g_sld rfl (show iQ + 1 < _ by omega) (by omega) ?_
  refine g_run 4 964 [some (.retAddr 0), some (.ref 0), some (.ref 49), some (.int (nI iQ))] [.int (nI iQ + nI 2), .retAddr 0, .int (o.2 (iQ + 1)), .ref 0] H rfl ?_
  refine g_top (nI_add iQ 2) ?_
  refine g_sld rfl (show iQ + 2 < _ by omega) (by omega) ?_
  refine g_run 4 969 [some (.retAddr 0), some (.ref 0), some (.ref 49), some (.int (nI iQ))] [.int (nI iQ + nI 3), .retAddr 0, .int (o.2 (iQ + 2)), .int (o.2 (iQ + 1)), .ref 0] H rfl ?_
  refine g_top (nI_add iQ 3) ?_
  refine g_sld rfl (show iQ + 3 < _ by omega) (by omega) ?_
  refine g_virS rfl rfl rfl hob rfl rfl (hP _ _ _ o H hI) rfl (fun v1 H1 q1 => ?_)
  obtain ⟨vQ, rfl, ⟨fm, h49⟩, q1⟩ := q1
  show eG _ 202 973 [some (.retAddr 0), some (.ref 0), some (.ref 49), some (.int (nI iQ))] [.int vQ] H1 _
  refine g_run 5 978 [some (.retAddr 0), some (.ref 0), some (.ref 49), some (.int (nI iQ))] [.int (nI iQ + nI 1), .retAddr 0, .ref 49, .int vQ] H1 rfl ?_
  refine g_top (nI_add iQ 1) ?_
  refine g_sld rfl (show iQ + 1 < _ by omega) (by omega) ?_
  refine g_run 4 983 [some (.retAddr 0), some (.ref 0), some (.ref 49), some (.int (nI iQ))] [.int (nI iQ + nI 2), .retAddr 0, .int (o.2 (iQ + 1)), .ref 49, .int vQ] H1 rfl ?_
  refine g_top (nI_add iQ 2) ?_
  refine g_sld rfl (show iQ + 2 < _ by omega) (by omega) ?_
  refine g_run 4 988 [some (.retAddr 0), some (.ref 0), some (.ref 49), some (.int (nI iQ))] [.int (nI iQ + nI 3), .retAddr 0, .int (o.2 (iQ + 2)), .int (o.2 (iQ + 1)), .ref 49, .int vQ] H1 rfl ?_
  refine g_top (nI_add iQ 3) ?_
  refine g_sld rfl (show iQ + 3 < _ by omega) (by omega) ?_
  refine g_virS rfl rfl rfl h49 rfl rfl q1 rfl (fun v2 H2 q2 => ?_)
  obtain ⟨rfl, hI2⟩ := q2
  show eG _ 202 992 [some (.retAddr 0), some (.ref 0), some (.ref 49), some (.int (nI iQ))] [.int vQ, .int vQ] H2 _
  refine g_icmp_eq rfl (fun _ => ?_) (fun c1 => absurd (rfl) c1)
  show eG _ 202 1060 [some (.retAddr 0), some (.ref 0), some (.ref 49), some (.int (nI iQ))] [] H2 _
  exact hk H2 hI2
set_option maxRecDepth 100000 in
set_option maxHeartbeats 4000000 in
theorem c_copy (Inv : eH → Prop) (hO : ∀ H, Inv H → ∃ fs, H[0]? = some (.inr (6, fs))) (hP : P_copy Inv) (o : eO) (iQ : Nat) (H : eH) (hz : o.1 ≤ 3072) (hi : iQ + 6 ≤ o.1) (hI : Inv H) {r : eP} (hk : ∀ H2, Inv H2 → eG o 202 1060 [some (.retAddr 0), some (.ref 0), some (.ref 49), some (.int (nI iQ))] [] H2 r) : eG o 202 997 [some (.retAddr 0), some (.ref 0), some (.ref 49), some (.int (nI iQ))] [] H r := by
  obtain ⟨fo, hob⟩ := hO H hI
  refine g_run 5 1002 [some (.retAddr 0), some (.ref 0), some (.ref 49), some (.int (nI iQ))] [.int (nI iQ + nI 1), .retAddr 0, .ref 0] H rfl ?_
  refine g_top (nI_add iQ 1) ?_
  refine g_sld rfl (show iQ + 1 < _ by omega) (by omega) ?_
  refine g_run 4 1007 [some (.retAddr 0), some (.ref 0), some (.ref 49), some (.int (nI iQ))] [.int (nI iQ + nI 2), .retAddr 0, .int (o.2 (iQ + 1)), .ref 0] H rfl ?_
  refine g_top (nI_add iQ 2) ?_
  refine g_sld rfl (show iQ + 2 < _ by omega) (by omega) ?_
  refine g_run 4 1012 [some (.retAddr 0), some (.ref 0), some (.ref 49), some (.int (nI iQ))] [.int (nI iQ + nI 3), .retAddr 0, .int (o.2 (iQ + 2)), .int (o.2 (iQ + 1)), .ref 0] H rfl ?_
  refine g_top (nI_add iQ 3) ?_
  refine g_sld rfl (show iQ + 3 < _ by omega) (by omega) ?_
  refine g_run 4 1017 [some (.retAddr 0), some (.ref 0), some (.ref 49), some (.int (nI iQ))] [.int (nI iQ + nI 4), .retAddr 0, .int (o.2 (iQ + 3)), .int (o.2 (iQ + 2)), .int (o.2 (iQ + 1)), .ref 0] H rfl ?_
  refine g_top (nI_add iQ 4) ?_
  refine g_sld rfl (show iQ + 4 < _ by omega) (by omega) ?_
  refine g_run 4 1022 [some (.retAddr 0), some (.ref 0), some (.ref 49), some (.int (nI iQ))] [.int (nI iQ + nI 5), .retAddr 0, .int (o.2 (iQ + 4)), .int (o.2 (iQ + 3)), .int (o.2 (iQ + 2)), .int (o.2 (iQ + 1)), .ref 0] H rfl ?_
  refine g_top (nI_add iQ 5) ?_
  refine g_sld rfl (show iQ + 5 < _ by omega) (by omega) ?_
  refine g_virS rfl rfl rfl hob rfl rfl (hP _ _ _ _ _ o H hI) rfl (fun v1 H1 q1 => ?_)
  obtain ⟨vQ, rfl, ⟨fm, h49⟩, q1⟩ := q1
  show eG _ 202 1026 [some (.retAddr 0), some (.ref 0), some (.ref 49), some (.int (nI iQ))] [.int vQ] H1 _
  refine g_run 5 1031 [some (.retAddr 0), some (.ref 0), some (.ref 49), some (.int (nI iQ))] [.int (nI iQ + nI 1), .retAddr 0, .ref 49, .int vQ] H1 rfl ?_
  refine g_top (nI_add iQ 1) ?_
  refine g_sld rfl (show iQ + 1 < _ by omega) (by omega) ?_
  refine g_run 4 1036 [some (.retAddr 0), some (.ref 0), some (.ref 49), some (.int (nI iQ))] [.int (nI iQ + nI 2), .retAddr 0, .int (o.2 (iQ + 1)), .ref 49, .int vQ] H1 rfl ?_
  refine g_top (nI_add iQ 2) ?_
  refine g_sld rfl (show iQ + 2 < _ by omega) (by omega) ?_
  refine g_run 4 1041 [some (.retAddr 0), some (.ref 0), some (.ref 49), some (.int (nI iQ))] [.int (nI iQ + nI 3), .retAddr 0, .int (o.2 (iQ + 2)), .int (o.2 (iQ + 1)), .ref 49, .int vQ] H1 rfl ?_
  refine g_top (nI_add iQ 3) ?_
  refine g_sld rfl (show iQ + 3 < _ by omega) (by omega) ?_
  refine g_run 4 1046 [some (.retAddr 0), some (.ref 0), some (.ref 49), some (.int (nI iQ))] [.int (nI iQ + nI 4), .retAddr 0, .int (o.2 (iQ + 3)), .int (o.2 (iQ + 2)), .int (o.2 (iQ + 1)), .ref 49, .int vQ] H1 rfl ?_
  refine g_top (nI_add iQ 4) ?_
  refine g_sld rfl (show iQ + 4 < _ by omega) (by omega) ?_
  refine g_run 4 1051 [some (.retAddr 0), some (.ref 0), some (.ref 49), some (.int (nI iQ))] [.int (nI iQ + nI 5), .retAddr 0, .int (o.2 (iQ + 4)), .int (o.2 (iQ + 3)), .int (o.2 (iQ + 2)), .int (o.2 (iQ + 1)), .ref 49, .int vQ] H1 rfl ?_
  refine g_top (nI_add iQ 5) ?_
  refine g_sld rfl (show iQ + 5 < _ by omega) (by omega) ?_
  refine g_virS rfl rfl rfl h49 rfl rfl q1 rfl (fun v2 H2 q2 => ?_)
  obtain ⟨rfl, hI2⟩ := q2
  show eG _ 202 1055 [some (.retAddr 0), some (.ref 0), some (.ref 49), some (.int (nI iQ))] [.int vQ, .int vQ] H2 _
  refine g_icmp_eq rfl (fun _ => ?_) (fun c1 => absurd (rfl) c1)
  show eG _ 202 1060 [some (.retAddr 0), some (.ref 0), some (.ref 49), some (.int (nI iQ))] [] H2 _
  exact hk H2 hI2
