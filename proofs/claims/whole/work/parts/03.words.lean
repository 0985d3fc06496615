-- written by wip/whole/gen03.py: the tables' words, by their places
def eWs : List Cond := lw_tbl.filter goodWord
theorem eWs_in {w : Cond} {p : Nat} (h : lw_tbl[p]? = some w) (hg : goodWord w = true) : w ∈ eWs := List.mem_filter.mpr ⟨List.mem_of_getElem? h, hg⟩
theorem eIn_of {α : Type} (w : α → Cond) (ps : List Nat) (qs : List α) (hg : ∀ q, goodWord (w q) = true) (h : ps.map (fun p => lw_tbl[p]?) = qs.map (fun q => some (w q))) : ∀ q ∈ qs, w q ∈ eWs := by
  intro q hq
  have h1 : some (w q) ∈ qs.map (fun q => some (w q)) := List.mem_map.mpr ⟨q, hq, rfl⟩
  rw [← h] at h1
  obtain ⟨p, -, hp⟩ := List.mem_map.mp h1
  exact eWs_in hp (hg q)
def eN (own : Nat) : String := eCN.getD own ""
def eM (k : Nat) : MethodName := eY.getD k ⟨"", "", ""⟩
set_option maxRecDepth 100000 in
theorem eLf_w0 : (eLfp 0).map (fun p => lw_tbl[p]?) = (eLf 0).map (fun q => some (Cond.fieldLink (eN 0) q.1 (eU q.2.1 q.2.2).1 (eU q.2.1 q.2.2).2.1 (eU q.2.1 q.2.2).2.2.1)) := by decide +kernel
set_option maxRecDepth 100000 in
theorem eLf_w1 : (eLfp 1).map (fun p => lw_tbl[p]?) = (eLf 1).map (fun q => some (Cond.fieldLink (eN 1) q.1 (eU q.2.1 q.2.2).1 (eU q.2.1 q.2.2).2.1 (eU q.2.1 q.2.2).2.2.1)) := by decide +kernel
set_option maxRecDepth 100000 in
theorem eLf_w2 : (eLfp 2).map (fun p => lw_tbl[p]?) = (eLf 2).map (fun q => some (Cond.fieldLink (eN 2) q.1 (eU q.2.1 q.2.2).1 (eU q.2.1 q.2.2).2.1 (eU q.2.1 q.2.2).2.2.1)) := by decide +kernel
set_option maxRecDepth 100000 in
theorem eLf_w3 : (eLfp 3).map (fun p => lw_tbl[p]?) = (eLf 3).map (fun q => some (Cond.fieldLink (eN 3) q.1 (eU q.2.1 q.2.2).1 (eU q.2.1 q.2.2).2.1 (eU q.2.1 q.2.2).2.2.1)) := by decide +kernel
set_option maxRecDepth 100000 in
theorem eLf_w4 : (eLfp 4).map (fun p => lw_tbl[p]?) = (eLf 4).map (fun q => some (Cond.fieldLink (eN 4) q.1 (eU q.2.1 q.2.2).1 (eU q.2.1 q.2.2).2.1 (eU q.2.1 q.2.2).2.2.1)) := by decide +kernel
set_option maxRecDepth 100000 in
theorem eLf_w5 : (eLfp 5).map (fun p => lw_tbl[p]?) = (eLf 5).map (fun q => some (Cond.fieldLink (eN 5) q.1 (eU q.2.1 q.2.2).1 (eU q.2.1 q.2.2).2.1 (eU q.2.1 q.2.2).2.2.1)) := by decide +kernel
set_option maxRecDepth 100000 in
theorem eLf_w6 : (eLfp 6).map (fun p => lw_tbl[p]?) = (eLf 6).map (fun q => some (Cond.fieldLink (eN 6) q.1 (eU q.2.1 q.2.2).1 (eU q.2.1 q.2.2).2.1 (eU q.2.1 q.2.2).2.2.1)) := by decide +kernel
set_option maxRecDepth 100000 in
theorem eLf_w7 : (eLfp 7).map (fun p => lw_tbl[p]?) = (eLf 7).map (fun q => some (Cond.fieldLink (eN 7) q.1 (eU q.2.1 q.2.2).1 (eU q.2.1 q.2.2).2.1 (eU q.2.1 q.2.2).2.2.1)) := by decide +kernel
theorem eLf_in (own : Nat) : ∀ q ∈ eLf own, Cond.fieldLink (eN own) q.1 (eU q.2.1 q.2.2).1 (eU q.2.1 q.2.2).2.1 (eU q.2.1 q.2.2).2.2.1 ∈ eWs := by
  match own with
  | 0 => exact eIn_of (fun q : Nat × Nat × Nat => Cond.fieldLink (eN 0) q.1 (eU q.2.1 q.2.2).1 (eU q.2.1 q.2.2).2.1 (eU q.2.1 q.2.2).2.2.1) (eLfp 0) _ (fun _ => rfl) eLf_w0
  | 1 => exact eIn_of (fun q : Nat × Nat × Nat => Cond.fieldLink (eN 1) q.1 (eU q.2.1 q.2.2).1 (eU q.2.1 q.2.2).2.1 (eU q.2.1 q.2.2).2.2.1) (eLfp 1) _ (fun _ => rfl) eLf_w1
  | 2 => exact eIn_of (fun q : Nat × Nat × Nat => Cond.fieldLink (eN 2) q.1 (eU q.2.1 q.2.2).1 (eU q.2.1 q.2.2).2.1 (eU q.2.1 q.2.2).2.2.1) (eLfp 2) _ (fun _ => rfl) eLf_w2
  | 3 => exact eIn_of (fun q : Nat × Nat × Nat => Cond.fieldLink (eN 3) q.1 (eU q.2.1 q.2.2).1 (eU q.2.1 q.2.2).2.1 (eU q.2.1 q.2.2).2.2.1) (eLfp 3) _ (fun _ => rfl) eLf_w3
  | 4 => exact eIn_of (fun q : Nat × Nat × Nat => Cond.fieldLink (eN 4) q.1 (eU q.2.1 q.2.2).1 (eU q.2.1 q.2.2).2.1 (eU q.2.1 q.2.2).2.2.1) (eLfp 4) _ (fun _ => rfl) eLf_w4
  | 5 => exact eIn_of (fun q : Nat × Nat × Nat => Cond.fieldLink (eN 5) q.1 (eU q.2.1 q.2.2).1 (eU q.2.1 q.2.2).2.1 (eU q.2.1 q.2.2).2.2.1) (eLfp 5) _ (fun _ => rfl) eLf_w5
  | 6 => exact eIn_of (fun q : Nat × Nat × Nat => Cond.fieldLink (eN 6) q.1 (eU q.2.1 q.2.2).1 (eU q.2.1 q.2.2).2.1 (eU q.2.1 q.2.2).2.2.1) (eLfp 6) _ (fun _ => rfl) eLf_w6
  | 7 => exact eIn_of (fun q : Nat × Nat × Nat => Cond.fieldLink (eN 7) q.1 (eU q.2.1 q.2.2).1 (eU q.2.1 q.2.2).2.1 (eU q.2.1 q.2.2).2.2.1) (eLfp 7) _ (fun _ => rfl) eLf_w7
  | 8 => exact fun q h => absurd h List.not_mem_nil
  | 9 => exact fun q h => absurd h List.not_mem_nil
  | 10 => exact fun q h => absurd h List.not_mem_nil
  | 11 => exact fun q h => absurd h List.not_mem_nil
  | 12 => exact fun q h => absurd h List.not_mem_nil
  | 13 => exact fun q h => absurd h List.not_mem_nil
  | n + 14 => exact fun q h => absurd h List.not_mem_nil
set_option maxRecDepth 100000 in
theorem eLn_w6 : (eLnp 6).map (fun p => lw_tbl[p]?) = (eLn 6).map (fun q => some (Cond.classLink (eN 6) q.1 (eN q.2))) := by decide +kernel
set_option maxRecDepth 100000 in
theorem eLn_w13 : (eLnp 13).map (fun p => lw_tbl[p]?) = (eLn 13).map (fun q => some (Cond.classLink (eN 13) q.1 (eN q.2))) := by decide +kernel
theorem eLn_in (own : Nat) : ∀ q ∈ eLn own, Cond.classLink (eN own) q.1 (eN q.2) ∈ eWs := by
  match own with
  | 0 => exact fun q h => absurd h List.not_mem_nil
  | 1 => exact fun q h => absurd h List.not_mem_nil
  | 2 => exact fun q h => absurd h List.not_mem_nil
  | 3 => exact fun q h => absurd h List.not_mem_nil
  | 4 => exact fun q h => absurd h List.not_mem_nil
  | 5 => exact fun q h => absurd h List.not_mem_nil
  | 6 => exact eIn_of (fun q : Nat × Nat => Cond.classLink (eN 6) q.1 (eN q.2)) ((eLnp 6).map (fun p => p)) _ (fun _ => rfl) (by rw [List.map_map]; exact eLn_w6)
  | 7 => exact fun q h => absurd h List.not_mem_nil
  | 8 => exact fun q h => absurd h List.not_mem_nil
  | 9 => exact fun q h => absurd h List.not_mem_nil
  | 10 => exact fun q h => absurd h List.not_mem_nil
  | 11 => exact fun q h => absurd h List.not_mem_nil
  | 12 => exact fun q h => absurd h List.not_mem_nil
  | 13 => exact eIn_of (fun q : Nat × Nat => Cond.classLink (eN 13) q.1 (eN q.2)) ((eLnp 13).map (fun p => p)) _ (fun _ => rfl) (by rw [List.map_map]; exact eLn_w13)
  | n + 14 => exact fun q h => absurd h List.not_mem_nil
set_option maxRecDepth 100000 in
theorem eLk_w1 : (eLkp 1).map (fun p => lw_tbl[p]?) = (eLk 1).map (fun q => some (Cond.constant (eN 1) q.1 q.2)) := by decide +kernel
set_option maxRecDepth 100000 in
theorem eLk_w7 : (eLkp 7).map (fun p => lw_tbl[p]?) = (eLk 7).map (fun q => some (Cond.constant (eN 7) q.1 q.2)) := by decide +kernel
set_option maxRecDepth 100000 in
theorem eLk_w9 : (eLkp 9).map (fun p => lw_tbl[p]?) = (eLk 9).map (fun q => some (Cond.constant (eN 9) q.1 q.2)) := by decide +kernel
theorem eLk_in (own : Nat) : ∀ q ∈ eLk own, Cond.constant (eN own) q.1 q.2 ∈ eWs := by
  match own with
  | 0 => exact fun q h => absurd h List.not_mem_nil
  | 1 => exact eIn_of (fun q : Nat × Int32 => Cond.constant (eN 1) q.1 q.2) ((eLkp 1).map (fun p => p)) _ (fun _ => rfl) (by rw [List.map_map]; exact eLk_w1)
  | 2 => exact fun q h => absurd h List.not_mem_nil
  | 3 => exact fun q h => absurd h List.not_mem_nil
  | 4 => exact fun q h => absurd h List.not_mem_nil
  | 5 => exact fun q h => absurd h List.not_mem_nil
  | 6 => exact fun q h => absurd h List.not_mem_nil
  | 7 => exact eIn_of (fun q : Nat × Int32 => Cond.constant (eN 7) q.1 q.2) ((eLkp 7).map (fun p => p)) _ (fun _ => rfl) (by rw [List.map_map]; exact eLk_w7)
  | 8 => exact fun q h => absurd h List.not_mem_nil
  | 9 => exact eIn_of (fun q : Nat × Int32 => Cond.constant (eN 9) q.1 q.2) ((eLkp 9).map (fun p => p)) _ (fun _ => rfl) (by rw [List.map_map]; exact eLk_w9)
  | 10 => exact fun q h => absurd h List.not_mem_nil
  | 11 => exact fun q h => absurd h List.not_mem_nil
  | 12 => exact fun q h => absurd h List.not_mem_nil
  | 13 => exact fun q h => absurd h List.not_mem_nil
  | n + 14 => exact fun q h => absurd h List.not_mem_nil
set_option maxRecDepth 100000 in
theorem eLl_w3 : (eLlp 3).map (fun p => lw_tbl[p]?) = (eLl 3).map (fun q => some (Cond.constantLong (eN 3) q.1 q.2)) := by decide +kernel
set_option maxRecDepth 100000 in
theorem eLl_w7 : (eLlp 7).map (fun p => lw_tbl[p]?) = (eLl 7).map (fun q => some (Cond.constantLong (eN 7) q.1 q.2)) := by decide +kernel
set_option maxRecDepth 100000 in
theorem eLl_w13 : (eLlp 13).map (fun p => lw_tbl[p]?) = (eLl 13).map (fun q => some (Cond.constantLong (eN 13) q.1 q.2)) := by decide +kernel
theorem eLl_in (own : Nat) : ∀ q ∈ eLl own, Cond.constantLong (eN own) q.1 q.2 ∈ eWs := by
  match own with
  | 0 => exact fun q h => absurd h List.not_mem_nil
  | 1 => exact fun q h => absurd h List.not_mem_nil
  | 2 => exact fun q h => absurd h List.not_mem_nil
  | 3 => exact eIn_of (fun q : Nat × Int64 => Cond.constantLong (eN 3) q.1 q.2) ((eLlp 3).map (fun p => p)) _ (fun _ => rfl) (by rw [List.map_map]; exact eLl_w3)
  | 4 => exact fun q h => absurd h List.not_mem_nil
  | 5 => exact fun q h => absurd h List.not_mem_nil
  | 6 => exact fun q h => absurd h List.not_mem_nil
  | 7 => exact eIn_of (fun q : Nat × Int64 => Cond.constantLong (eN 7) q.1 q.2) ((eLlp 7).map (fun p => p)) _ (fun _ => rfl) (by rw [List.map_map]; exact eLl_w7)
  | 8 => exact fun q h => absurd h List.not_mem_nil
  | 9 => exact fun q h => absurd h List.not_mem_nil
  | 10 => exact fun q h => absurd h List.not_mem_nil
  | 11 => exact fun q h => absurd h List.not_mem_nil
  | 12 => exact fun q h => absurd h List.not_mem_nil
  | 13 => exact eIn_of (fun q : Nat × Int64 => Cond.constantLong (eN 13) q.1 q.2) ((eLlp 13).map (fun p => p)) _ (fun _ => rfl) (by rw [List.map_map]; exact eLl_w13)
  | n + 14 => exact fun q h => absurd h List.not_mem_nil
set_option maxRecDepth 100000 in
theorem eLs_w1 : (eLsp 1).map (fun p => lw_tbl[p.1]?) = (eLs 1).map (fun q => some (Cond.methodLink (eN 1) q.1 (eM q.2))) := by decide +kernel
set_option maxRecDepth 100000 in
theorem eLs_w2 : (eLsp 2).map (fun p => lw_tbl[p.1]?) = (eLs 2).map (fun q => some (Cond.methodLink (eN 2) q.1 (eM q.2))) := by decide +kernel
set_option maxRecDepth 100000 in
theorem eLs_w3 : (eLsp 3).map (fun p => lw_tbl[p.1]?) = (eLs 3).map (fun q => some (Cond.methodLink (eN 3) q.1 (eM q.2))) := by decide +kernel
set_option maxRecDepth 100000 in
theorem eLs_w4 : (eLsp 4).map (fun p => lw_tbl[p.1]?) = (eLs 4).map (fun q => some (Cond.methodLink (eN 4) q.1 (eM q.2))) := by decide +kernel
set_option maxRecDepth 100000 in
theorem eLs_w5 : (eLsp 5).map (fun p => lw_tbl[p.1]?) = (eLs 5).map (fun q => some (Cond.methodLink (eN 5) q.1 (eM q.2))) := by decide +kernel
set_option maxRecDepth 100000 in
theorem eLs_w6 : (eLsp 6).map (fun p => lw_tbl[p.1]?) = (eLs 6).map (fun q => some (Cond.methodLink (eN 6) q.1 (eM q.2))) := by decide +kernel
set_option maxRecDepth 100000 in
theorem eLs_w7 : (eLsp 7).map (fun p => lw_tbl[p.1]?) = (eLs 7).map (fun q => some (Cond.methodLink (eN 7) q.1 (eM q.2))) := by decide +kernel
set_option maxRecDepth 100000 in
theorem eLs_w10 : (eLsp 10).map (fun p => lw_tbl[p.1]?) = (eLs 10).map (fun q => some (Cond.methodLink (eN 10) q.1 (eM q.2))) := by decide +kernel
set_option maxRecDepth 100000 in
theorem eLs_w11 : (eLsp 11).map (fun p => lw_tbl[p.1]?) = (eLs 11).map (fun q => some (Cond.methodLink (eN 11) q.1 (eM q.2))) := by decide +kernel
set_option maxRecDepth 100000 in
theorem eLs_w12 : (eLsp 12).map (fun p => lw_tbl[p.1]?) = (eLs 12).map (fun q => some (Cond.methodLink (eN 12) q.1 (eM q.2))) := by decide +kernel
theorem eLs_in (own : Nat) : ∀ q ∈ eLs own, Cond.methodLink (eN own) q.1 (eM q.2) ∈ eWs := by
  match own with
  | 0 => exact fun q h => absurd h List.not_mem_nil
  | 1 => exact eIn_of (fun q : Nat × Nat => Cond.methodLink (eN 1) q.1 (eM q.2)) ((eLsp 1).map (fun p => p.1)) _ (fun _ => rfl) (by rw [List.map_map]; exact eLs_w1)
  | 2 => exact eIn_of (fun q : Nat × Nat => Cond.methodLink (eN 2) q.1 (eM q.2)) ((eLsp 2).map (fun p => p.1)) _ (fun _ => rfl) (by rw [List.map_map]; exact eLs_w2)
  | 3 => exact eIn_of (fun q : Nat × Nat => Cond.methodLink (eN 3) q.1 (eM q.2)) ((eLsp 3).map (fun p => p.1)) _ (fun _ => rfl) (by rw [List.map_map]; exact eLs_w3)
  | 4 => exact eIn_of (fun q : Nat × Nat => Cond.methodLink (eN 4) q.1 (eM q.2)) ((eLsp 4).map (fun p => p.1)) _ (fun _ => rfl) (by rw [List.map_map]; exact eLs_w4)
  | 5 => exact eIn_of (fun q : Nat × Nat => Cond.methodLink (eN 5) q.1 (eM q.2)) ((eLsp 5).map (fun p => p.1)) _ (fun _ => rfl) (by rw [List.map_map]; exact eLs_w5)
  | 6 => exact eIn_of (fun q : Nat × Nat => Cond.methodLink (eN 6) q.1 (eM q.2)) ((eLsp 6).map (fun p => p.1)) _ (fun _ => rfl) (by rw [List.map_map]; exact eLs_w6)
  | 7 => exact eIn_of (fun q : Nat × Nat => Cond.methodLink (eN 7) q.1 (eM q.2)) ((eLsp 7).map (fun p => p.1)) _ (fun _ => rfl) (by rw [List.map_map]; exact eLs_w7)
  | 8 => exact fun q h => absurd h List.not_mem_nil
  | 9 => exact fun q h => absurd h List.not_mem_nil
  | 10 => exact eIn_of (fun q : Nat × Nat => Cond.methodLink (eN 10) q.1 (eM q.2)) ((eLsp 10).map (fun p => p.1)) _ (fun _ => rfl) (by rw [List.map_map]; exact eLs_w10)
  | 11 => exact eIn_of (fun q : Nat × Nat => Cond.methodLink (eN 11) q.1 (eM q.2)) ((eLsp 11).map (fun p => p.1)) _ (fun _ => rfl) (by rw [List.map_map]; exact eLs_w11)
  | 12 => exact eIn_of (fun q : Nat × Nat => Cond.methodLink (eN 12) q.1 (eM q.2)) ((eLsp 12).map (fun p => p.1)) _ (fun _ => rfl) (by rw [List.map_map]; exact eLs_w12)
  | 13 => exact fun q h => absurd h List.not_mem_nil
  | n + 14 => exact fun q h => absurd h List.not_mem_nil
set_option maxRecDepth 100000 in
theorem eLsS_w1 : (eLsp 1).map (fun p => lw_tbl[p.2.1]?) = (eLs 1).map (fun q => some (Cond.static (eM q.2))) := by decide +kernel
set_option maxRecDepth 100000 in
theorem eLsS_w2 : (eLsp 2).map (fun p => lw_tbl[p.2.1]?) = (eLs 2).map (fun q => some (Cond.static (eM q.2))) := by decide +kernel
set_option maxRecDepth 100000 in
theorem eLsS_w3 : (eLsp 3).map (fun p => lw_tbl[p.2.1]?) = (eLs 3).map (fun q => some (Cond.static (eM q.2))) := by decide +kernel
set_option maxRecDepth 100000 in
theorem eLsS_w4 : (eLsp 4).map (fun p => lw_tbl[p.2.1]?) = (eLs 4).map (fun q => some (Cond.static (eM q.2))) := by decide +kernel
set_option maxRecDepth 100000 in
theorem eLsS_w5 : (eLsp 5).map (fun p => lw_tbl[p.2.1]?) = (eLs 5).map (fun q => some (Cond.static (eM q.2))) := by decide +kernel
set_option maxRecDepth 100000 in
theorem eLsS_w6 : (eLsp 6).map (fun p => lw_tbl[p.2.1]?) = (eLs 6).map (fun q => some (Cond.static (eM q.2))) := by decide +kernel
set_option maxRecDepth 100000 in
theorem eLsS_w7 : (eLsp 7).map (fun p => lw_tbl[p.2.1]?) = (eLs 7).map (fun q => some (Cond.static (eM q.2))) := by decide +kernel
set_option maxRecDepth 100000 in
theorem eLsS_w10 : (eLsp 10).map (fun p => lw_tbl[p.2.1]?) = (eLs 10).map (fun q => some (Cond.static (eM q.2))) := by decide +kernel
set_option maxRecDepth 100000 in
theorem eLsS_w11 : (eLsp 11).map (fun p => lw_tbl[p.2.1]?) = (eLs 11).map (fun q => some (Cond.static (eM q.2))) := by decide +kernel
set_option maxRecDepth 100000 in
theorem eLsS_w12 : (eLsp 12).map (fun p => lw_tbl[p.2.1]?) = (eLs 12).map (fun q => some (Cond.static (eM q.2))) := by decide +kernel
theorem eLsS_in (own : Nat) : ∀ q ∈ eLs own, Cond.static (eM q.2) ∈ eWs := by
  match own with
  | 0 => exact fun q h => absurd h List.not_mem_nil
  | 1 => exact eIn_of (fun q : Nat × Nat => Cond.static (eM q.2)) ((eLsp 1).map (fun p => p.2.1)) _ (fun _ => rfl) (by rw [List.map_map]; exact eLsS_w1)
  | 2 => exact eIn_of (fun q : Nat × Nat => Cond.static (eM q.2)) ((eLsp 2).map (fun p => p.2.1)) _ (fun _ => rfl) (by rw [List.map_map]; exact eLsS_w2)
  | 3 => exact eIn_of (fun q : Nat × Nat => Cond.static (eM q.2)) ((eLsp 3).map (fun p => p.2.1)) _ (fun _ => rfl) (by rw [List.map_map]; exact eLsS_w3)
  | 4 => exact eIn_of (fun q : Nat × Nat => Cond.static (eM q.2)) ((eLsp 4).map (fun p => p.2.1)) _ (fun _ => rfl) (by rw [List.map_map]; exact eLsS_w4)
  | 5 => exact eIn_of (fun q : Nat × Nat => Cond.static (eM q.2)) ((eLsp 5).map (fun p => p.2.1)) _ (fun _ => rfl) (by rw [List.map_map]; exact eLsS_w5)
  | 6 => exact eIn_of (fun q : Nat × Nat => Cond.static (eM q.2)) ((eLsp 6).map (fun p => p.2.1)) _ (fun _ => rfl) (by rw [List.map_map]; exact eLsS_w6)
  | 7 => exact eIn_of (fun q : Nat × Nat => Cond.static (eM q.2)) ((eLsp 7).map (fun p => p.2.1)) _ (fun _ => rfl) (by rw [List.map_map]; exact eLsS_w7)
  | 8 => exact fun q h => absurd h List.not_mem_nil
  | 9 => exact fun q h => absurd h List.not_mem_nil
  | 10 => exact eIn_of (fun q : Nat × Nat => Cond.static (eM q.2)) ((eLsp 10).map (fun p => p.2.1)) _ (fun _ => rfl) (by rw [List.map_map]; exact eLsS_w10)
  | 11 => exact eIn_of (fun q : Nat × Nat => Cond.static (eM q.2)) ((eLsp 11).map (fun p => p.2.1)) _ (fun _ => rfl) (by rw [List.map_map]; exact eLsS_w11)
  | 12 => exact eIn_of (fun q : Nat × Nat => Cond.static (eM q.2)) ((eLsp 12).map (fun p => p.2.1)) _ (fun _ => rfl) (by rw [List.map_map]; exact eLsS_w12)
  | 13 => exact fun q h => absurd h List.not_mem_nil
  | n + 14 => exact fun q h => absurd h List.not_mem_nil
set_option maxRecDepth 100000 in
theorem eLsI_w1 : (eLsp 1).map (fun p => lw_tbl[p.2.2]?) = (eLs 1).map (fun q => some (Cond.initialized (eM q.2).cls)) := by decide +kernel
set_option maxRecDepth 100000 in
theorem eLsI_w2 : (eLsp 2).map (fun p => lw_tbl[p.2.2]?) = (eLs 2).map (fun q => some (Cond.initialized (eM q.2).cls)) := by decide +kernel
set_option maxRecDepth 100000 in
theorem eLsI_w3 : (eLsp 3).map (fun p => lw_tbl[p.2.2]?) = (eLs 3).map (fun q => some (Cond.initialized (eM q.2).cls)) := by decide +kernel
set_option maxRecDepth 100000 in
theorem eLsI_w4 : (eLsp 4).map (fun p => lw_tbl[p.2.2]?) = (eLs 4).map (fun q => some (Cond.initialized (eM q.2).cls)) := by decide +kernel
set_option maxRecDepth 100000 in
theorem eLsI_w5 : (eLsp 5).map (fun p => lw_tbl[p.2.2]?) = (eLs 5).map (fun q => some (Cond.initialized (eM q.2).cls)) := by decide +kernel
set_option maxRecDepth 100000 in
theorem eLsI_w6 : (eLsp 6).map (fun p => lw_tbl[p.2.2]?) = (eLs 6).map (fun q => some (Cond.initialized (eM q.2).cls)) := by decide +kernel
set_option maxRecDepth 100000 in
theorem eLsI_w7 : (eLsp 7).map (fun p => lw_tbl[p.2.2]?) = (eLs 7).map (fun q => some (Cond.initialized (eM q.2).cls)) := by decide +kernel
set_option maxRecDepth 100000 in
theorem eLsI_w10 : (eLsp 10).map (fun p => lw_tbl[p.2.2]?) = (eLs 10).map (fun q => some (Cond.initialized (eM q.2).cls)) := by decide +kernel
set_option maxRecDepth 100000 in
theorem eLsI_w11 : (eLsp 11).map (fun p => lw_tbl[p.2.2]?) = (eLs 11).map (fun q => some (Cond.initialized (eM q.2).cls)) := by decide +kernel
set_option maxRecDepth 100000 in
theorem eLsI_w12 : (eLsp 12).map (fun p => lw_tbl[p.2.2]?) = (eLs 12).map (fun q => some (Cond.initialized (eM q.2).cls)) := by decide +kernel
theorem eLsI_in (own : Nat) : ∀ q ∈ eLs own, Cond.initialized (eM q.2).cls ∈ eWs := by
  match own with
  | 0 => exact fun q h => absurd h List.not_mem_nil
  | 1 => exact eIn_of (fun q : Nat × Nat => Cond.initialized (eM q.2).cls) ((eLsp 1).map (fun p => p.2.2)) _ (fun _ => rfl) (by rw [List.map_map]; exact eLsI_w1)
  | 2 => exact eIn_of (fun q : Nat × Nat => Cond.initialized (eM q.2).cls) ((eLsp 2).map (fun p => p.2.2)) _ (fun _ => rfl) (by rw [List.map_map]; exact eLsI_w2)
  | 3 => exact eIn_of (fun q : Nat × Nat => Cond.initialized (eM q.2).cls) ((eLsp 3).map (fun p => p.2.2)) _ (fun _ => rfl) (by rw [List.map_map]; exact eLsI_w3)
  | 4 => exact eIn_of (fun q : Nat × Nat => Cond.initialized (eM q.2).cls) ((eLsp 4).map (fun p => p.2.2)) _ (fun _ => rfl) (by rw [List.map_map]; exact eLsI_w4)
  | 5 => exact eIn_of (fun q : Nat × Nat => Cond.initialized (eM q.2).cls) ((eLsp 5).map (fun p => p.2.2)) _ (fun _ => rfl) (by rw [List.map_map]; exact eLsI_w5)
  | 6 => exact eIn_of (fun q : Nat × Nat => Cond.initialized (eM q.2).cls) ((eLsp 6).map (fun p => p.2.2)) _ (fun _ => rfl) (by rw [List.map_map]; exact eLsI_w6)
  | 7 => exact eIn_of (fun q : Nat × Nat => Cond.initialized (eM q.2).cls) ((eLsp 7).map (fun p => p.2.2)) _ (fun _ => rfl) (by rw [List.map_map]; exact eLsI_w7)
  | 8 => exact fun q h => absurd h List.not_mem_nil
  | 9 => exact fun q h => absurd h List.not_mem_nil
  | 10 => exact eIn_of (fun q : Nat × Nat => Cond.initialized (eM q.2).cls) ((eLsp 10).map (fun p => p.2.2)) _ (fun _ => rfl) (by rw [List.map_map]; exact eLsI_w10)
  | 11 => exact eIn_of (fun q : Nat × Nat => Cond.initialized (eM q.2).cls) ((eLsp 11).map (fun p => p.2.2)) _ (fun _ => rfl) (by rw [List.map_map]; exact eLsI_w11)
  | 12 => exact eIn_of (fun q : Nat × Nat => Cond.initialized (eM q.2).cls) ((eLsp 12).map (fun p => p.2.2)) _ (fun _ => rfl) (by rw [List.map_map]; exact eLsI_w12)
  | 13 => exact fun q h => absurd h List.not_mem_nil
  | n + 14 => exact fun q h => absurd h List.not_mem_nil
set_option maxRecDepth 100000 in
theorem eLv_w0 : (eLvp 0).map (fun p => lw_tbl[p.1]?) = (eLv 0).map (fun q => some (Cond.methodLink (eN 0) q.1 (eM q.2))) := by decide +kernel
set_option maxRecDepth 100000 in
theorem eLv_w1 : (eLvp 1).map (fun p => lw_tbl[p.1]?) = (eLv 1).map (fun q => some (Cond.methodLink (eN 1) q.1 (eM q.2))) := by decide +kernel
set_option maxRecDepth 100000 in
theorem eLv_w2 : (eLvp 2).map (fun p => lw_tbl[p.1]?) = (eLv 2).map (fun q => some (Cond.methodLink (eN 2) q.1 (eM q.2))) := by decide +kernel
set_option maxRecDepth 100000 in
theorem eLv_w3 : (eLvp 3).map (fun p => lw_tbl[p.1]?) = (eLv 3).map (fun q => some (Cond.methodLink (eN 3) q.1 (eM q.2))) := by decide +kernel
set_option maxRecDepth 100000 in
theorem eLv_w4 : (eLvp 4).map (fun p => lw_tbl[p.1]?) = (eLv 4).map (fun q => some (Cond.methodLink (eN 4) q.1 (eM q.2))) := by decide +kernel
set_option maxRecDepth 100000 in
theorem eLv_w5 : (eLvp 5).map (fun p => lw_tbl[p.1]?) = (eLv 5).map (fun q => some (Cond.methodLink (eN 5) q.1 (eM q.2))) := by decide +kernel
set_option maxRecDepth 100000 in
theorem eLv_w6 : (eLvp 6).map (fun p => lw_tbl[p.1]?) = (eLv 6).map (fun q => some (Cond.methodLink (eN 6) q.1 (eM q.2))) := by decide +kernel
set_option maxRecDepth 100000 in
theorem eLv_w7 : (eLvp 7).map (fun p => lw_tbl[p.1]?) = (eLv 7).map (fun q => some (Cond.methodLink (eN 7) q.1 (eM q.2))) := by decide +kernel
set_option maxRecDepth 100000 in
theorem eLv_w11 : (eLvp 11).map (fun p => lw_tbl[p.1]?) = (eLv 11).map (fun q => some (Cond.methodLink (eN 11) q.1 (eM q.2))) := by decide +kernel
set_option maxRecDepth 100000 in
theorem eLv_w13 : (eLvp 13).map (fun p => lw_tbl[p.1]?) = (eLv 13).map (fun q => some (Cond.methodLink (eN 13) q.1 (eM q.2))) := by decide +kernel
theorem eLv_in (own : Nat) : ∀ q ∈ eLv own, Cond.methodLink (eN own) q.1 (eM q.2) ∈ eWs := by
  match own with
  | 0 => exact eIn_of (fun q : Nat × Nat => Cond.methodLink (eN 0) q.1 (eM q.2)) ((eLvp 0).map (fun p => p.1)) _ (fun _ => rfl) (by rw [List.map_map]; exact eLv_w0)
  | 1 => exact eIn_of (fun q : Nat × Nat => Cond.methodLink (eN 1) q.1 (eM q.2)) ((eLvp 1).map (fun p => p.1)) _ (fun _ => rfl) (by rw [List.map_map]; exact eLv_w1)
  | 2 => exact eIn_of (fun q : Nat × Nat => Cond.methodLink (eN 2) q.1 (eM q.2)) ((eLvp 2).map (fun p => p.1)) _ (fun _ => rfl) (by rw [List.map_map]; exact eLv_w2)
  | 3 => exact eIn_of (fun q : Nat × Nat => Cond.methodLink (eN 3) q.1 (eM q.2)) ((eLvp 3).map (fun p => p.1)) _ (fun _ => rfl) (by rw [List.map_map]; exact eLv_w3)
  | 4 => exact eIn_of (fun q : Nat × Nat => Cond.methodLink (eN 4) q.1 (eM q.2)) ((eLvp 4).map (fun p => p.1)) _ (fun _ => rfl) (by rw [List.map_map]; exact eLv_w4)
  | 5 => exact eIn_of (fun q : Nat × Nat => Cond.methodLink (eN 5) q.1 (eM q.2)) ((eLvp 5).map (fun p => p.1)) _ (fun _ => rfl) (by rw [List.map_map]; exact eLv_w5)
  | 6 => exact eIn_of (fun q : Nat × Nat => Cond.methodLink (eN 6) q.1 (eM q.2)) ((eLvp 6).map (fun p => p.1)) _ (fun _ => rfl) (by rw [List.map_map]; exact eLv_w6)
  | 7 => exact eIn_of (fun q : Nat × Nat => Cond.methodLink (eN 7) q.1 (eM q.2)) ((eLvp 7).map (fun p => p.1)) _ (fun _ => rfl) (by rw [List.map_map]; exact eLv_w7)
  | 8 => exact fun q h => absurd h List.not_mem_nil
  | 9 => exact fun q h => absurd h List.not_mem_nil
  | 10 => exact fun q h => absurd h List.not_mem_nil
  | 11 => exact eIn_of (fun q : Nat × Nat => Cond.methodLink (eN 11) q.1 (eM q.2)) ((eLvp 11).map (fun p => p.1)) _ (fun _ => rfl) (by rw [List.map_map]; exact eLv_w11)
  | 12 => exact fun q h => absurd h List.not_mem_nil
  | 13 => exact eIn_of (fun q : Nat × Nat => Cond.methodLink (eN 13) q.1 (eM q.2)) ((eLvp 13).map (fun p => p.1)) _ (fun _ => rfl) (by rw [List.map_map]; exact eLv_w13)
  | n + 14 => exact fun q h => absurd h List.not_mem_nil
set_option maxRecDepth 100000 in
theorem eLvM_w0 : (eLvp 0).map (fun p => lw_tbl[p.2.1]?) = (eLv 0).map (fun q => some (Cond.instanceMethod (eM q.2))) := by decide +kernel
set_option maxRecDepth 100000 in
theorem eLvM_w1 : (eLvp 1).map (fun p => lw_tbl[p.2.1]?) = (eLv 1).map (fun q => some (Cond.instanceMethod (eM q.2))) := by decide +kernel
set_option maxRecDepth 100000 in
theorem eLvM_w2 : (eLvp 2).map (fun p => lw_tbl[p.2.1]?) = (eLv 2).map (fun q => some (Cond.instanceMethod (eM q.2))) := by decide +kernel
set_option maxRecDepth 100000 in
theorem eLvM_w3 : (eLvp 3).map (fun p => lw_tbl[p.2.1]?) = (eLv 3).map (fun q => some (Cond.instanceMethod (eM q.2))) := by decide +kernel
set_option maxRecDepth 100000 in
theorem eLvM_w4 : (eLvp 4).map (fun p => lw_tbl[p.2.1]?) = (eLv 4).map (fun q => some (Cond.instanceMethod (eM q.2))) := by decide +kernel
set_option maxRecDepth 100000 in
theorem eLvM_w5 : (eLvp 5).map (fun p => lw_tbl[p.2.1]?) = (eLv 5).map (fun q => some (Cond.instanceMethod (eM q.2))) := by decide +kernel
set_option maxRecDepth 100000 in
theorem eLvM_w6 : (eLvp 6).map (fun p => lw_tbl[p.2.1]?) = (eLv 6).map (fun q => some (Cond.instanceMethod (eM q.2))) := by decide +kernel
set_option maxRecDepth 100000 in
theorem eLvM_w7 : (eLvp 7).map (fun p => lw_tbl[p.2.1]?) = (eLv 7).map (fun q => some (Cond.instanceMethod (eM q.2))) := by decide +kernel
set_option maxRecDepth 100000 in
theorem eLvM_w11 : (eLvp 11).map (fun p => lw_tbl[p.2.1]?) = (eLv 11).map (fun q => some (Cond.instanceMethod (eM q.2))) := by decide +kernel
set_option maxRecDepth 100000 in
theorem eLvM_w13 : (eLvp 13).map (fun p => lw_tbl[p.2.1]?) = (eLv 13).map (fun q => some (Cond.instanceMethod (eM q.2))) := by decide +kernel
theorem eLvM_in (own : Nat) : ∀ q ∈ eLv own, Cond.instanceMethod (eM q.2) ∈ eWs := by
  match own with
  | 0 => exact eIn_of (fun q : Nat × Nat => Cond.instanceMethod (eM q.2)) ((eLvp 0).map (fun p => p.2.1)) _ (fun _ => rfl) (by rw [List.map_map]; exact eLvM_w0)
  | 1 => exact eIn_of (fun q : Nat × Nat => Cond.instanceMethod (eM q.2)) ((eLvp 1).map (fun p => p.2.1)) _ (fun _ => rfl) (by rw [List.map_map]; exact eLvM_w1)
  | 2 => exact eIn_of (fun q : Nat × Nat => Cond.instanceMethod (eM q.2)) ((eLvp 2).map (fun p => p.2.1)) _ (fun _ => rfl) (by rw [List.map_map]; exact eLvM_w2)
  | 3 => exact eIn_of (fun q : Nat × Nat => Cond.instanceMethod (eM q.2)) ((eLvp 3).map (fun p => p.2.1)) _ (fun _ => rfl) (by rw [List.map_map]; exact eLvM_w3)
  | 4 => exact eIn_of (fun q : Nat × Nat => Cond.instanceMethod (eM q.2)) ((eLvp 4).map (fun p => p.2.1)) _ (fun _ => rfl) (by rw [List.map_map]; exact eLvM_w4)
  | 5 => exact eIn_of (fun q : Nat × Nat => Cond.instanceMethod (eM q.2)) ((eLvp 5).map (fun p => p.2.1)) _ (fun _ => rfl) (by rw [List.map_map]; exact eLvM_w5)
  | 6 => exact eIn_of (fun q : Nat × Nat => Cond.instanceMethod (eM q.2)) ((eLvp 6).map (fun p => p.2.1)) _ (fun _ => rfl) (by rw [List.map_map]; exact eLvM_w6)
  | 7 => exact eIn_of (fun q : Nat × Nat => Cond.instanceMethod (eM q.2)) ((eLvp 7).map (fun p => p.2.1)) _ (fun _ => rfl) (by rw [List.map_map]; exact eLvM_w7)
  | 8 => exact fun q h => absurd h List.not_mem_nil
  | 9 => exact fun q h => absurd h List.not_mem_nil
  | 10 => exact fun q h => absurd h List.not_mem_nil
  | 11 => exact eIn_of (fun q : Nat × Nat => Cond.instanceMethod (eM q.2)) ((eLvp 11).map (fun p => p.2.1)) _ (fun _ => rfl) (by rw [List.map_map]; exact eLvM_w11)
  | 12 => exact fun q h => absurd h List.not_mem_nil
  | 13 => exact eIn_of (fun q : Nat × Nat => Cond.instanceMethod (eM q.2)) ((eLvp 13).map (fun p => p.2.1)) _ (fun _ => rfl) (by rw [List.map_map]; exact eLvM_w13)
  | n + 14 => exact fun q h => absurd h List.not_mem_nil
set_option maxRecDepth 100000 in
theorem eLvS_w0 : (eLvp 0).map (fun p => lw_tbl[p.2.2.1]?) = (eLv 0).map (fun q => some (Cond.selects (eM q.2).cls (eM q.2) (eM q.2))) := by decide +kernel
set_option maxRecDepth 100000 in
theorem eLvS_w1 : (eLvp 1).map (fun p => lw_tbl[p.2.2.1]?) = (eLv 1).map (fun q => some (Cond.selects (eM q.2).cls (eM q.2) (eM q.2))) := by decide +kernel
set_option maxRecDepth 100000 in
theorem eLvS_w2 : (eLvp 2).map (fun p => lw_tbl[p.2.2.1]?) = (eLv 2).map (fun q => some (Cond.selects (eM q.2).cls (eM q.2) (eM q.2))) := by decide +kernel
set_option maxRecDepth 100000 in
theorem eLvS_w3 : (eLvp 3).map (fun p => lw_tbl[p.2.2.1]?) = (eLv 3).map (fun q => some (Cond.selects (eM q.2).cls (eM q.2) (eM q.2))) := by decide +kernel
set_option maxRecDepth 100000 in
theorem eLvS_w4 : (eLvp 4).map (fun p => lw_tbl[p.2.2.1]?) = (eLv 4).map (fun q => some (Cond.selects (eM q.2).cls (eM q.2) (eM q.2))) := by decide +kernel
set_option maxRecDepth 100000 in
theorem eLvS_w5 : (eLvp 5).map (fun p => lw_tbl[p.2.2.1]?) = (eLv 5).map (fun q => some (Cond.selects (eM q.2).cls (eM q.2) (eM q.2))) := by decide +kernel
set_option maxRecDepth 100000 in
theorem eLvS_w6 : (eLvp 6).map (fun p => lw_tbl[p.2.2.1]?) = (eLv 6).map (fun q => some (Cond.selects (eM q.2).cls (eM q.2) (eM q.2))) := by decide +kernel
set_option maxRecDepth 100000 in
theorem eLvS_w7 : (eLvp 7).map (fun p => lw_tbl[p.2.2.1]?) = (eLv 7).map (fun q => some (Cond.selects (eM q.2).cls (eM q.2) (eM q.2))) := by decide +kernel
set_option maxRecDepth 100000 in
theorem eLvS_w11 : (eLvp 11).map (fun p => lw_tbl[p.2.2.1]?) = (eLv 11).map (fun q => some (Cond.selects (eM q.2).cls (eM q.2) (eM q.2))) := by decide +kernel
set_option maxRecDepth 100000 in
theorem eLvS_w13 : (eLvp 13).map (fun p => lw_tbl[p.2.2.1]?) = (eLv 13).map (fun q => some (Cond.selects (eM q.2).cls (eM q.2) (eM q.2))) := by decide +kernel
theorem eLvS_in (own : Nat) : ∀ q ∈ eLv own, Cond.selects (eM q.2).cls (eM q.2) (eM q.2) ∈ eWs := by
  match own with
  | 0 => exact eIn_of (fun q : Nat × Nat => Cond.selects (eM q.2).cls (eM q.2) (eM q.2)) ((eLvp 0).map (fun p => p.2.2.1)) _ (fun _ => rfl) (by rw [List.map_map]; exact eLvS_w0)
  | 1 => exact eIn_of (fun q : Nat × Nat => Cond.selects (eM q.2).cls (eM q.2) (eM q.2)) ((eLvp 1).map (fun p => p.2.2.1)) _ (fun _ => rfl) (by rw [List.map_map]; exact eLvS_w1)
  | 2 => exact eIn_of (fun q : Nat × Nat => Cond.selects (eM q.2).cls (eM q.2) (eM q.2)) ((eLvp 2).map (fun p => p.2.2.1)) _ (fun _ => rfl) (by rw [List.map_map]; exact eLvS_w2)
  | 3 => exact eIn_of (fun q : Nat × Nat => Cond.selects (eM q.2).cls (eM q.2) (eM q.2)) ((eLvp 3).map (fun p => p.2.2.1)) _ (fun _ => rfl) (by rw [List.map_map]; exact eLvS_w3)
  | 4 => exact eIn_of (fun q : Nat × Nat => Cond.selects (eM q.2).cls (eM q.2) (eM q.2)) ((eLvp 4).map (fun p => p.2.2.1)) _ (fun _ => rfl) (by rw [List.map_map]; exact eLvS_w4)
  | 5 => exact eIn_of (fun q : Nat × Nat => Cond.selects (eM q.2).cls (eM q.2) (eM q.2)) ((eLvp 5).map (fun p => p.2.2.1)) _ (fun _ => rfl) (by rw [List.map_map]; exact eLvS_w5)
  | 6 => exact eIn_of (fun q : Nat × Nat => Cond.selects (eM q.2).cls (eM q.2) (eM q.2)) ((eLvp 6).map (fun p => p.2.2.1)) _ (fun _ => rfl) (by rw [List.map_map]; exact eLvS_w6)
  | 7 => exact eIn_of (fun q : Nat × Nat => Cond.selects (eM q.2).cls (eM q.2) (eM q.2)) ((eLvp 7).map (fun p => p.2.2.1)) _ (fun _ => rfl) (by rw [List.map_map]; exact eLvS_w7)
  | 8 => exact fun q h => absurd h List.not_mem_nil
  | 9 => exact fun q h => absurd h List.not_mem_nil
  | 10 => exact fun q h => absurd h List.not_mem_nil
  | 11 => exact eIn_of (fun q : Nat × Nat => Cond.selects (eM q.2).cls (eM q.2) (eM q.2)) ((eLvp 11).map (fun p => p.2.2.1)) _ (fun _ => rfl) (by rw [List.map_map]; exact eLvS_w11)
  | 12 => exact fun q h => absurd h List.not_mem_nil
  | 13 => exact eIn_of (fun q : Nat × Nat => Cond.selects (eM q.2).cls (eM q.2) (eM q.2)) ((eLvp 13).map (fun p => p.2.2.1)) _ (fun _ => rfl) (by rw [List.map_map]; exact eLvS_w13)
  | n + 14 => exact fun q h => absurd h List.not_mem_nil
set_option maxRecDepth 100000 in
theorem eLvI_w0 : (eLvp 0).map (fun p => lw_tbl[p.2.2.2]?) = (eLv 0).map (fun q => some (Cond.initialized (eM q.2).cls)) := by decide +kernel
set_option maxRecDepth 100000 in
theorem eLvI_w1 : (eLvp 1).map (fun p => lw_tbl[p.2.2.2]?) = (eLv 1).map (fun q => some (Cond.initialized (eM q.2).cls)) := by decide +kernel
set_option maxRecDepth 100000 in
theorem eLvI_w2 : (eLvp 2).map (fun p => lw_tbl[p.2.2.2]?) = (eLv 2).map (fun q => some (Cond.initialized (eM q.2).cls)) := by decide +kernel
set_option maxRecDepth 100000 in
theorem eLvI_w3 : (eLvp 3).map (fun p => lw_tbl[p.2.2.2]?) = (eLv 3).map (fun q => some (Cond.initialized (eM q.2).cls)) := by decide +kernel
set_option maxRecDepth 100000 in
theorem eLvI_w4 : (eLvp 4).map (fun p => lw_tbl[p.2.2.2]?) = (eLv 4).map (fun q => some (Cond.initialized (eM q.2).cls)) := by decide +kernel
set_option maxRecDepth 100000 in
theorem eLvI_w5 : (eLvp 5).map (fun p => lw_tbl[p.2.2.2]?) = (eLv 5).map (fun q => some (Cond.initialized (eM q.2).cls)) := by decide +kernel
set_option maxRecDepth 100000 in
theorem eLvI_w6 : (eLvp 6).map (fun p => lw_tbl[p.2.2.2]?) = (eLv 6).map (fun q => some (Cond.initialized (eM q.2).cls)) := by decide +kernel
set_option maxRecDepth 100000 in
theorem eLvI_w7 : (eLvp 7).map (fun p => lw_tbl[p.2.2.2]?) = (eLv 7).map (fun q => some (Cond.initialized (eM q.2).cls)) := by decide +kernel
set_option maxRecDepth 100000 in
theorem eLvI_w11 : (eLvp 11).map (fun p => lw_tbl[p.2.2.2]?) = (eLv 11).map (fun q => some (Cond.initialized (eM q.2).cls)) := by decide +kernel
set_option maxRecDepth 100000 in
theorem eLvI_w13 : (eLvp 13).map (fun p => lw_tbl[p.2.2.2]?) = (eLv 13).map (fun q => some (Cond.initialized (eM q.2).cls)) := by decide +kernel
theorem eLvI_in (own : Nat) : ∀ q ∈ eLv own, Cond.initialized (eM q.2).cls ∈ eWs := by
  match own with
  | 0 => exact eIn_of (fun q : Nat × Nat => Cond.initialized (eM q.2).cls) ((eLvp 0).map (fun p => p.2.2.2)) _ (fun _ => rfl) (by rw [List.map_map]; exact eLvI_w0)
  | 1 => exact eIn_of (fun q : Nat × Nat => Cond.initialized (eM q.2).cls) ((eLvp 1).map (fun p => p.2.2.2)) _ (fun _ => rfl) (by rw [List.map_map]; exact eLvI_w1)
  | 2 => exact eIn_of (fun q : Nat × Nat => Cond.initialized (eM q.2).cls) ((eLvp 2).map (fun p => p.2.2.2)) _ (fun _ => rfl) (by rw [List.map_map]; exact eLvI_w2)
  | 3 => exact eIn_of (fun q : Nat × Nat => Cond.initialized (eM q.2).cls) ((eLvp 3).map (fun p => p.2.2.2)) _ (fun _ => rfl) (by rw [List.map_map]; exact eLvI_w3)
  | 4 => exact eIn_of (fun q : Nat × Nat => Cond.initialized (eM q.2).cls) ((eLvp 4).map (fun p => p.2.2.2)) _ (fun _ => rfl) (by rw [List.map_map]; exact eLvI_w4)
  | 5 => exact eIn_of (fun q : Nat × Nat => Cond.initialized (eM q.2).cls) ((eLvp 5).map (fun p => p.2.2.2)) _ (fun _ => rfl) (by rw [List.map_map]; exact eLvI_w5)
  | 6 => exact eIn_of (fun q : Nat × Nat => Cond.initialized (eM q.2).cls) ((eLvp 6).map (fun p => p.2.2.2)) _ (fun _ => rfl) (by rw [List.map_map]; exact eLvI_w6)
  | 7 => exact eIn_of (fun q : Nat × Nat => Cond.initialized (eM q.2).cls) ((eLvp 7).map (fun p => p.2.2.2)) _ (fun _ => rfl) (by rw [List.map_map]; exact eLvI_w7)
  | 8 => exact fun q h => absurd h List.not_mem_nil
  | 9 => exact fun q h => absurd h List.not_mem_nil
  | 10 => exact fun q h => absurd h List.not_mem_nil
  | 11 => exact eIn_of (fun q : Nat × Nat => Cond.initialized (eM q.2).cls) ((eLvp 11).map (fun p => p.2.2.2)) _ (fun _ => rfl) (by rw [List.map_map]; exact eLvI_w11)
  | 12 => exact fun q h => absurd h List.not_mem_nil
  | 13 => exact eIn_of (fun q : Nat × Nat => Cond.initialized (eM q.2).cls) ((eLvp 13).map (fun p => p.2.2.2)) _ (fun _ => rfl) (by rw [List.map_map]; exact eLvI_w13)
  | n + 14 => exact fun q h => absurd h List.not_mem_nil
set_option maxRecDepth 100000 in
theorem eLi_w13 : (eLip 13).map (fun p => lw_tbl[p.1]?) = (eLi 13).map (fun q => some (Cond.methodLink (eN 13) q.1 (eM q.2))) := by decide +kernel
theorem eLi_in (own : Nat) : ∀ q ∈ eLi own, Cond.methodLink (eN own) q.1 (eM q.2) ∈ eWs := by
  match own with
  | 0 => exact fun q h => absurd h List.not_mem_nil
  | 1 => exact fun q h => absurd h List.not_mem_nil
  | 2 => exact fun q h => absurd h List.not_mem_nil
  | 3 => exact fun q h => absurd h List.not_mem_nil
  | 4 => exact fun q h => absurd h List.not_mem_nil
  | 5 => exact fun q h => absurd h List.not_mem_nil
  | 6 => exact fun q h => absurd h List.not_mem_nil
  | 7 => exact fun q h => absurd h List.not_mem_nil
  | 8 => exact fun q h => absurd h List.not_mem_nil
  | 9 => exact fun q h => absurd h List.not_mem_nil
  | 10 => exact fun q h => absurd h List.not_mem_nil
  | 11 => exact fun q h => absurd h List.not_mem_nil
  | 12 => exact fun q h => absurd h List.not_mem_nil
  | 13 => exact eIn_of (fun q : Nat × Nat => Cond.methodLink (eN 13) q.1 (eM q.2)) ((eLip 13).map (fun p => p.1)) _ (fun _ => rfl) (by rw [List.map_map]; exact eLi_w13)
  | n + 14 => exact fun q h => absurd h List.not_mem_nil
set_option maxRecDepth 100000 in
theorem eLiM_w13 : (eLip 13).map (fun p => lw_tbl[p.2.1]?) = (eLi 13).map (fun q => some (Cond.instanceMethod (eM q.2))) := by decide +kernel
theorem eLiM_in (own : Nat) : ∀ q ∈ eLi own, Cond.instanceMethod (eM q.2) ∈ eWs := by
  match own with
  | 0 => exact fun q h => absurd h List.not_mem_nil
  | 1 => exact fun q h => absurd h List.not_mem_nil
  | 2 => exact fun q h => absurd h List.not_mem_nil
  | 3 => exact fun q h => absurd h List.not_mem_nil
  | 4 => exact fun q h => absurd h List.not_mem_nil
  | 5 => exact fun q h => absurd h List.not_mem_nil
  | 6 => exact fun q h => absurd h List.not_mem_nil
  | 7 => exact fun q h => absurd h List.not_mem_nil
  | 8 => exact fun q h => absurd h List.not_mem_nil
  | 9 => exact fun q h => absurd h List.not_mem_nil
  | 10 => exact fun q h => absurd h List.not_mem_nil
  | 11 => exact fun q h => absurd h List.not_mem_nil
  | 12 => exact fun q h => absurd h List.not_mem_nil
  | 13 => exact eIn_of (fun q : Nat × Nat => Cond.instanceMethod (eM q.2)) ((eLip 13).map (fun p => p.2.1)) _ (fun _ => rfl) (by rw [List.map_map]; exact eLiM_w13)
  | n + 14 => exact fun q h => absurd h List.not_mem_nil
set_option maxRecDepth 100000 in
theorem eLiI_w13 : (eLip 13).map (fun p => lw_tbl[p.2.2]?) = (eLi 13).map (fun q => some (Cond.initialized (eM q.2).cls)) := by decide +kernel
theorem eLiI_in (own : Nat) : ∀ q ∈ eLi own, Cond.initialized (eM q.2).cls ∈ eWs := by
  match own with
  | 0 => exact fun q h => absurd h List.not_mem_nil
  | 1 => exact fun q h => absurd h List.not_mem_nil
  | 2 => exact fun q h => absurd h List.not_mem_nil
  | 3 => exact fun q h => absurd h List.not_mem_nil
  | 4 => exact fun q h => absurd h List.not_mem_nil
  | 5 => exact fun q h => absurd h List.not_mem_nil
  | 6 => exact fun q h => absurd h List.not_mem_nil
  | 7 => exact fun q h => absurd h List.not_mem_nil
  | 8 => exact fun q h => absurd h List.not_mem_nil
  | 9 => exact fun q h => absurd h List.not_mem_nil
  | 10 => exact fun q h => absurd h List.not_mem_nil
  | 11 => exact fun q h => absurd h List.not_mem_nil
  | 12 => exact fun q h => absurd h List.not_mem_nil
  | 13 => exact eIn_of (fun q : Nat × Nat => Cond.initialized (eM q.2).cls) ((eLip 13).map (fun p => p.2.2)) _ (fun _ => rfl) (by rw [List.map_map]; exact eLiI_w13)
  | n + 14 => exact fun q h => absurd h List.not_mem_nil
set_option maxRecDepth 100000 in
theorem eLmM_w6 : (eLmp 6).map (fun p => lw_tbl[p.2.1]?) = (eLm 6).map (fun q => some (Cond.instanceMethod (eM q.2))) := by decide +kernel
theorem eLmM_in (own : Nat) : ∀ q ∈ eLm own, Cond.instanceMethod (eM q.2) ∈ eWs := by
  match own with
  | 0 => exact fun q h => absurd h List.not_mem_nil
  | 1 => exact fun q h => absurd h List.not_mem_nil
  | 2 => exact fun q h => absurd h List.not_mem_nil
  | 3 => exact fun q h => absurd h List.not_mem_nil
  | 4 => exact fun q h => absurd h List.not_mem_nil
  | 5 => exact fun q h => absurd h List.not_mem_nil
  | 6 => exact eIn_of (fun q : Nat × Nat => Cond.instanceMethod (eM q.2)) ((eLmp 6).map (fun p => p.2.1)) _ (fun _ => rfl) (by rw [List.map_map]; exact eLmM_w6)
  | 7 => exact fun q h => absurd h List.not_mem_nil
  | 8 => exact fun q h => absurd h List.not_mem_nil
  | 9 => exact fun q h => absurd h List.not_mem_nil
  | 10 => exact fun q h => absurd h List.not_mem_nil
  | 11 => exact fun q h => absurd h List.not_mem_nil
  | 12 => exact fun q h => absurd h List.not_mem_nil
  | 13 => exact fun q h => absurd h List.not_mem_nil
  | n + 14 => exact fun q h => absurd h List.not_mem_nil
set_option maxRecDepth 100000 in
theorem eLmI_w6 : (eLmp 6).map (fun p => lw_tbl[p.2.2]?) = (eLm 6).map (fun q => some (Cond.initialized (eM q.2).cls)) := by decide +kernel
theorem eLmI_in (own : Nat) : ∀ q ∈ eLm own, Cond.initialized (eM q.2).cls ∈ eWs := by
  match own with
  | 0 => exact fun q h => absurd h List.not_mem_nil
  | 1 => exact fun q h => absurd h List.not_mem_nil
  | 2 => exact fun q h => absurd h List.not_mem_nil
  | 3 => exact fun q h => absurd h List.not_mem_nil
  | 4 => exact fun q h => absurd h List.not_mem_nil
  | 5 => exact fun q h => absurd h List.not_mem_nil
  | 6 => exact eIn_of (fun q : Nat × Nat => Cond.initialized (eM q.2).cls) ((eLmp 6).map (fun p => p.2.2)) _ (fun _ => rfl) (by rw [List.map_map]; exact eLmI_w6)
  | 7 => exact fun q h => absurd h List.not_mem_nil
  | 8 => exact fun q h => absurd h List.not_mem_nil
  | 9 => exact fun q h => absurd h List.not_mem_nil
  | 10 => exact fun q h => absurd h List.not_mem_nil
  | 11 => exact fun q h => absurd h List.not_mem_nil
  | 12 => exact fun q h => absurd h List.not_mem_nil
  | 13 => exact fun q h => absurd h List.not_mem_nil
  | n + 14 => exact fun q h => absurd h List.not_mem_nil
set_option maxRecDepth 100000 in
theorem eOi_w : eOip.map (fun p => lw_tbl[p]?) = eOi.map (fun q => some (Cond.methodLink (eN q.1) q.2 Lib.objectInit)) := by decide +kernel
set_option maxRecDepth 100000 in
theorem eAc_w : eAcp.map (fun p => lw_tbl[p]?) = eAc.map (fun q => some (Cond.methodLink (eN q.1) q.2 arraycopyName)) := by decide +kernel
set_option maxRecDepth 100000 in
theorem eFp_w0 : (eFp 0).map (fun p => lw_tbl[p]?) = (List.range 1).map (fun k => some (u_lay (eN 0) (eU 0) k)) := by decide +kernel
set_option maxRecDepth 100000 in
theorem eFt_w0 : ∀ k, k < 1 → parseFieldDescriptor ((eU 0) k).2.2.1 = some ((eFt 0).getD k .int) := by decide +kernel
set_option maxRecDepth 100000 in
theorem eFn_w0 : ∀ a, a < 1 → ∀ b, b < 1 → a ≠ b → ((eU 0) a).2.1 ≠ ((eU 0) b).2.1 := by decide +kernel
set_option maxRecDepth 100000 in
theorem eIn_w0 : lw_tbl[292]? = some (Cond.instantiable (eN 0) 1) ∧ lw_tbl[70]? = some (Cond.initialized (eN 0)) := by decide +kernel
set_option maxRecDepth 100000 in
theorem eFp_w1 : (eFp 1).map (fun p => lw_tbl[p]?) = (List.range 13).map (fun k => some (u_lay (eN 1) (eU 1) k)) := by decide +kernel
set_option maxRecDepth 100000 in
theorem eFt_w1 : ∀ k, k < 13 → parseFieldDescriptor ((eU 1) k).2.2.1 = some ((eFt 1).getD k .int) := by decide +kernel
set_option maxRecDepth 100000 in
theorem eFn_w1 : ∀ a, a < 13 → ∀ b, b < 13 → a ≠ b → ((eU 1) a).2.1 ≠ ((eU 1) b).2.1 := by decide +kernel
set_option maxRecDepth 100000 in
theorem eIn_w1 : lw_tbl[246]? = some (Cond.instantiable (eN 1) 13) ∧ lw_tbl[69]? = some (Cond.initialized (eN 1)) := by decide +kernel
set_option maxRecDepth 100000 in
theorem eFp_w2 : (eFp 2).map (fun p => lw_tbl[p]?) = (List.range 3).map (fun k => some (u_lay (eN 2) (eU 2) k)) := by decide +kernel
set_option maxRecDepth 100000 in
theorem eFt_w2 : ∀ k, k < 3 → parseFieldDescriptor ((eU 2) k).2.2.1 = some ((eFt 2).getD k .int) := by decide +kernel
set_option maxRecDepth 100000 in
theorem eFn_w2 : ∀ a, a < 3 → ∀ b, b < 3 → a ≠ b → ((eU 2) a).2.1 ≠ ((eU 2) b).2.1 := by decide +kernel
set_option maxRecDepth 100000 in
theorem eIn_w2 : lw_tbl[302]? = some (Cond.instantiable (eN 2) 3) ∧ lw_tbl[71]? = some (Cond.initialized (eN 2)) := by decide +kernel
set_option maxRecDepth 100000 in
theorem eFp_w3 : (eFp 3).map (fun p => lw_tbl[p]?) = (List.range 3).map (fun k => some (u_lay (eN 3) (eU 3) k)) := by decide +kernel
set_option maxRecDepth 100000 in
theorem eFt_w3 : ∀ k, k < 3 → parseFieldDescriptor ((eU 3) k).2.2.1 = some ((eFt 3).getD k .int) := by decide +kernel
set_option maxRecDepth 100000 in
theorem eFn_w3 : ∀ a, a < 3 → ∀ b, b < 3 → a ≠ b → ((eU 3) a).2.1 ≠ ((eU 3) b).2.1 := by decide +kernel
set_option maxRecDepth 100000 in
theorem eIn_w3 : lw_tbl[164]? = some (Cond.instantiable (eN 3) 3) ∧ lw_tbl[67]? = some (Cond.initialized (eN 3)) := by decide +kernel
set_option maxRecDepth 100000 in
theorem eFp_w4 : (eFp 4).map (fun p => lw_tbl[p]?) = (List.range 12).map (fun k => some (u_lay (eN 4) (eU 4) k)) := by decide +kernel
set_option maxRecDepth 100000 in
theorem eFt_w4 : ∀ k, k < 12 → parseFieldDescriptor ((eU 4) k).2.2.1 = some ((eFt 4).getD k .int) := by decide +kernel
set_option maxRecDepth 100000 in
theorem eFn_w4 : ∀ a, a < 12 → ∀ b, b < 12 → a ≠ b → ((eU 4) a).2.1 ≠ ((eU 4) b).2.1 := by decide +kernel
set_option maxRecDepth 100000 in
theorem eIn_w4 : lw_tbl[91]? = some (Cond.instantiable (eN 4) 12) ∧ lw_tbl[66]? = some (Cond.initialized (eN 4)) := by decide +kernel
set_option maxRecDepth 100000 in
theorem eFp_w5 : (eFp 5).map (fun p => lw_tbl[p]?) = (List.range 17).map (fun k => some (u_lay (eN 5) (eU 5) k)) := by decide +kernel
set_option maxRecDepth 100000 in
theorem eFt_w5 : ∀ k, k < 17 → parseFieldDescriptor ((eU 5) k).2.2.1 = some ((eFt 5).getD k .int) := by decide +kernel
set_option maxRecDepth 100000 in
theorem eFn_w5 : ∀ a, a < 17 → ∀ b, b < 17 → a ≠ b → ((eU 5) a).2.1 ≠ ((eU 5) b).2.1 := by decide +kernel
set_option maxRecDepth 100000 in
theorem eIn_w5 : lw_tbl[183]? = some (Cond.instantiable (eN 5) 17) ∧ lw_tbl[68]? = some (Cond.initialized (eN 5)) := by decide +kernel
set_option maxRecDepth 100000 in
theorem eFp_w6 : (eFp 6).map (fun p => lw_tbl[p]?) = (List.range 9).map (fun k => some (u_lay (eN 6) (eU 6) k)) := by decide +kernel
set_option maxRecDepth 100000 in
theorem eFt_w6 : ∀ k, k < 9 → parseFieldDescriptor ((eU 6) k).2.2.1 = some ((eFt 6).getD k .int) := by decide +kernel
set_option maxRecDepth 100000 in
theorem eFn_w6 : ∀ a, a < 9 → ∀ b, b < 9 → a ≠ b → ((eU 6) a).2.1 ≠ ((eU 6) b).2.1 := by decide +kernel
set_option maxRecDepth 100000 in
theorem eIn_w6 : lw_tbl[83]? = some (Cond.instantiable (eN 6) 9) ∧ lw_tbl[65]? = some (Cond.initialized (eN 6)) := by decide +kernel
set_option maxRecDepth 100000 in
theorem eFp_w7 : (eFp 7).map (fun p => lw_tbl[p]?) = (List.range 36).map (fun k => some (u_lay (eN 7) (eU 7) k)) := by decide +kernel
set_option maxRecDepth 100000 in
theorem eFt_w7 : ∀ k, k < 36 → parseFieldDescriptor ((eU 7) k).2.2.1 = some ((eFt 7).getD k .int) := by decide +kernel
set_option maxRecDepth 100000 in
theorem eFn_w7 : ∀ a, a < 36 → ∀ b, b < 36 → a ≠ b → ((eU 7) a).2.1 ≠ ((eU 7) b).2.1 := by decide +kernel
set_option maxRecDepth 100000 in
theorem eIn_w7 : lw_tbl[938]? = some (Cond.instantiable (eN 7) 36) ∧ lw_tbl[72]? = some (Cond.initialized (eN 7)) := by decide +kernel
/-- what the tables say of a class by its number -/
theorem eCl_ok (ci : Nat) (hci : ci < 8) : ∃ N, eCl[ci]? = some (eN ci, eU ci, N) ∧ (eFt ci).length = N ∧ (eFd ci).length = N ∧ (∀ w ∈ u_ws (eN ci) (eU ci) N, w ∈ eWs) ∧ (∀ k, k < N → parseFieldDescriptor ((eU ci) k).2.2.1 = some ((eFt ci).getD k .int)) ∧ (∀ a, a < N → ∀ b, b < N → a ≠ b → ((eU ci) a).2.1 ≠ ((eU ci) b).2.1) ∧ Cond.instantiable (eN ci) N ∈ eWs ∧ Cond.initialized (eN ci) ∈ eWs := by
  match ci, hci with
  | 0, _ => exact ⟨1, rfl, rfl, rfl, fun w hw => by obtain ⟨k, hk, rfl⟩ := List.mem_map.mp hw; exact eIn_of (fun k => u_lay (eN 0) (eU 0) k) (eFp 0) _ (fun k => by unfold u_lay; split <;> rfl) eFp_w0 k hk, eFt_w0, eFn_w0, eWs_in eIn_w0.1 rfl, eWs_in eIn_w0.2 rfl⟩
  | 1, _ => exact ⟨13, rfl, rfl, rfl, fun w hw => by obtain ⟨k, hk, rfl⟩ := List.mem_map.mp hw; exact eIn_of (fun k => u_lay (eN 1) (eU 1) k) (eFp 1) _ (fun k => by unfold u_lay; split <;> rfl) eFp_w1 k hk, eFt_w1, eFn_w1, eWs_in eIn_w1.1 rfl, eWs_in eIn_w1.2 rfl⟩
  | 2, _ => exact ⟨3, rfl, rfl, rfl, fun w hw => by obtain ⟨k, hk, rfl⟩ := List.mem_map.mp hw; exact eIn_of (fun k => u_lay (eN 2) (eU 2) k) (eFp 2) _ (fun k => by unfold u_lay; split <;> rfl) eFp_w2 k hk, eFt_w2, eFn_w2, eWs_in eIn_w2.1 rfl, eWs_in eIn_w2.2 rfl⟩
  | 3, _ => exact ⟨3, rfl, rfl, rfl, fun w hw => by obtain ⟨k, hk, rfl⟩ := List.mem_map.mp hw; exact eIn_of (fun k => u_lay (eN 3) (eU 3) k) (eFp 3) _ (fun k => by unfold u_lay; split <;> rfl) eFp_w3 k hk, eFt_w3, eFn_w3, eWs_in eIn_w3.1 rfl, eWs_in eIn_w3.2 rfl⟩
  | 4, _ => exact ⟨12, rfl, rfl, rfl, fun w hw => by obtain ⟨k, hk, rfl⟩ := List.mem_map.mp hw; exact eIn_of (fun k => u_lay (eN 4) (eU 4) k) (eFp 4) _ (fun k => by unfold u_lay; split <;> rfl) eFp_w4 k hk, eFt_w4, eFn_w4, eWs_in eIn_w4.1 rfl, eWs_in eIn_w4.2 rfl⟩
  | 5, _ => exact ⟨17, rfl, rfl, rfl, fun w hw => by obtain ⟨k, hk, rfl⟩ := List.mem_map.mp hw; exact eIn_of (fun k => u_lay (eN 5) (eU 5) k) (eFp 5) _ (fun k => by unfold u_lay; split <;> rfl) eFp_w5 k hk, eFt_w5, eFn_w5, eWs_in eIn_w5.1 rfl, eWs_in eIn_w5.2 rfl⟩
  | 6, _ => exact ⟨9, rfl, rfl, rfl, fun w hw => by obtain ⟨k, hk, rfl⟩ := List.mem_map.mp hw; exact eIn_of (fun k => u_lay (eN 6) (eU 6) k) (eFp 6) _ (fun k => by unfold u_lay; split <;> rfl) eFp_w6 k hk, eFt_w6, eFn_w6, eWs_in eIn_w6.1 rfl, eWs_in eIn_w6.2 rfl⟩
  | 7, _ => exact ⟨36, rfl, rfl, rfl, fun w hw => by obtain ⟨k, hk, rfl⟩ := List.mem_map.mp hw; exact eIn_of (fun k => u_lay (eN 7) (eU 7) k) (eFp 7) _ (fun k => by unfold u_lay; split <;> rfl) eFp_w7 k hk, eFt_w7, eFn_w7, eWs_in eIn_w7.1 rfl, eWs_in eIn_w7.2 rfl⟩
set_option maxRecDepth 100000 in
theorem eAr_int : lw_tbl[162]? = some (Cond.arrayClass .int) := by decide +kernel
set_option maxRecDepth 100000 in
theorem eAr_long : lw_tbl[317]? = some (Cond.arrayClass .long) := by decide +kernel
set_option maxRecDepth 100000 in
theorem eAr_boolean : lw_tbl[244]? = some (Cond.arrayClass .boolean) := by decide +kernel
set_option maxRecDepth 100000 in
theorem eAr_char : lw_tbl[181]? = some (Cond.arrayClass .char) := by decide +kernel
set_option maxRecDepth 100000 in
theorem eAr_byte : lw_tbl[579]? = some (Cond.arrayClass .byte) := by decide +kernel
set_option maxRecDepth 100000 in
theorem eOb_m : lw_tbl[88]? = some (Cond.instanceMethod Lib.objectInit) ∧ lw_tbl[89]? = some (Cond.code Lib.objectInit ⟨#[0xb1]⟩ 1 none) := by decide +kernel
set_option maxRecDepth 100000 in
theorem eAcm : lw_tbl[446]? = some (Cond.native arraycopyName) ∧ lw_tbl[445]? = some (Cond.static arraycopyName) ∧ lw_tbl[73]? = some (Cond.initialized "java/lang/System") := by decide +kernel
