/-! ===== PROGRAMS OVER Int: the state as a pure thing ===== -/
def zI (x : Int) : Int32 := Int32.ofInt x
def zL (x : Int) : Int64 := Int64.ofInt x
/-- rows by handle, fields by handle and number, how long the row of needs is, what lies behind the first 74 cells -/
abbrev ZX : Type := Option (eC × List eC)
abbrev ZS : Type := (Nat → Int → Int) × (Nat → Nat → Int) × Nat × ZX
def cI (tag n : Nat) (f : Int → Int) : eC := .inl (tag, n, .inl (fun i => zI (f (i : Int))))
def cL (n : Nat) (f : Int → Int) : eC := .inl (1, n, .inr (fun i => zL (f (i : Int))))
def zA (S : ZS) (h : Nat) (i : Int) : Int := S.1 h i
def zF (S : ZS) (h j : Nat) : Int := S.2.1 h j
def nn (S : ZS) : Nat := S.2.2.1
def nd (S : ZS) : Nat := match S.2.2.2 with
  | none => 31
  | some (_, gs) => 74 + gs.length
def zu (f : Int → Int) (x v : Int) : Int → Int := fun y => if y = x then v else f y
def zc (f g : Int → Int) (sp dp m : Int) : Int → Int := fun y => if dp ≤ y ∧ y < dp + m then f (sp + (y - dp)) else g y
def wR (S : ZS) (h : Nat) (f : Int → Int) : ZS := (fun h' => if h' = h then f else S.1 h', S.2)
def wA (S : ZS) (h : Nat) (x v : Int) : ZS := wR S h (zu (S.1 h) x v)
def wF (S : ZS) (h j : Nat) (x : Int) : ZS := (S.1, fun h' j' => if j' = j then (if h' = h then x else S.2.1 h' j') else S.2.1 h' j', S.2.2)
def cNd (S : ZS) : eC := cI 0 S.2.2.1 (S.1 31)
def cN31 (S : ZS) : eC := match S.2.2.2 with
  | none => cNd S
  | some (g, _) => g
def cTl (S : ZS) : List eC := match S.2.2.2 with
  | none => []
  | some (_, gs) => gs ++ [cNd S]
def rd (S : ZS) : eH := [
    .inr (6, [.ref 1, .ref 8, .ref 15, .ref 22, .ref 24, .ref 33, .ref 43, .ref 45, .int (zI (S.2.1 0 8))]),
    .inr (4, [.ref 2, .ref 3, .ref 4, .ref 5, .ref 6, .ref 7, .int (zI (S.2.1 1 6)), .int (zI (S.2.1 1 7)), .int (zI (S.2.1 1 8)), .int (zI (S.2.1 1 9)), .int (zI (S.2.1 1 10)), .int (zI (S.2.1 1 11))]),
    cI 0 8 (S.1 2),
    cI 0 8 (S.1 3),
    cI 0 8 (S.1 4),
    cI 0 8 (S.1 5),
    cI 0 8 (S.1 6),
    cI 0 4 (S.1 7),
    .inr (4, [.ref 9, .ref 10, .ref 11, .ref 12, .ref 13, .ref 14, .int (zI (S.2.1 8 6)), .int (zI (S.2.1 8 7)), .int (zI (S.2.1 8 8)), .int (zI (S.2.1 8 9)), .int (zI (S.2.1 8 10)), .int (zI (S.2.1 8 11))]),
    cI 0 8 (S.1 9),
    cI 0 8 (S.1 10),
    cI 0 8 (S.1 11),
    cI 0 8 (S.1 12),
    cI 0 8 (S.1 13),
    cI 0 4 (S.1 14),
    .inr (4, [.ref 16, .ref 17, .ref 18, .ref 19, .ref 20, .ref 21, .int (zI (S.2.1 15 6)), .int (zI (S.2.1 15 7)), .int (zI (S.2.1 15 8)), .int (zI (S.2.1 15 9)), .int (zI (S.2.1 15 10)), .int (zI (S.2.1 15 11))]),
    cI 0 8 (S.1 16),
    cI 0 8 (S.1 17),
    cI 0 8 (S.1 18),
    cI 0 8 (S.1 19),
    cI 0 8 (S.1 20),
    cI 0 4 (S.1 21),
    .inr (3, [.ref 23, .int (zI (S.2.1 22 1)), .int (zI (S.2.1 22 2))]),
    cI 3 160 (S.1 23),
    .inr (5, [.ref 25, .ref 26, .ref 27, .ref 28, .ref 29, .ref 30, .ref (nd S), .ref 32, .int (zI (S.2.1 24 8)), .int (zI (S.2.1 24 9)), .int (zI (S.2.1 24 10)), .int (zI (S.2.1 24 11)), .int (zI (S.2.1 24 12)), .int (zI (S.2.1 24 13)), .int (zI (S.2.1 24 14)), .int (zI (S.2.1 24 15)), .int (zI (S.2.1 24 16))]),
    cI 0 256 (S.1 25),
    cI 0 256 (S.1 26),
    cI 0 256 (S.1 27),
    cI 2 256 (S.1 28),
    cI 2 256 (S.1 29),
    cI 0 256 (S.1 30),
    cN31 S,
    cI 0 256 (S.1 32),
    .inr (1, [.ref 34, .ref 35, .ref 36, .ref 37, .ref 38, .ref 39, .ref 40, .ref 41, .ref 42, .int (zI (S.2.1 33 9)), .int (zI (S.2.1 33 10)), .int (zI (S.2.1 33 11)), .int (zI (S.2.1 33 12))]),
    cI 0 9 (S.1 34),
    cI 0 9 (S.1 35),
    cI 0 9 (S.1 36),
    cI 0 9 (S.1 37),
    cI 0 8 (S.1 38),
    cI 0 8 (S.1 39),
    cI 0 8 (S.1 40),
    cI 0 8 (S.1 41),
    cI 0 72 (S.1 42),
    .inr (0, [.ref 44]),
    cI 0 8 (S.1 44),
    .inr (2, [.ref 46, .ref 47, .ref 48]),
    cL 96 (S.1 46),
    cI 0 4 (S.1 47),
    cI 0 4 (S.1 48),
    .inr (7, [.ref 50, .int (zI (S.2.1 49 1)), .int (zI (S.2.1 49 2)), .int (zI (S.2.1 49 3)), .int (zI (S.2.1 49 4)), .int (zI (S.2.1 49 5)), .ref 51, .int (zI (S.2.1 49 7)), .ref 52, .int (zI (S.2.1 49 9)), .int (zI (S.2.1 49 10)), .int (zI (S.2.1 49 11)), .int (zI (S.2.1 49 12)), .ref 53, .ref 54, .ref 55, .ref 56, .ref 57, .ref 58, .ref 59, .ref 60, .ref 61, .ref 62, .ref 63, .ref 64, .ref 65, .ref 66, .ref 67, .int (zI (S.2.1 49 28)), .ref 68, .ref 69, .ref 70, .ref 71, .ref 72, .int (zI (S.2.1 49 34)), .ref 73]),
    cI 0 40 (S.1 50),
    cI 0 4 (S.1 51),
    cI 0 160 (S.1 52),
    cI 0 40 (S.1 53),
    cI 0 256 (S.1 54),
    cI 2 256 (S.1 55),
    cI 0 256 (S.1 56),
    cI 0 256 (S.1 57),
    cI 0 65536 (S.1 58),
    cI 0 256 (S.1 59),
    cI 0 256 (S.1 60),
    cI 0 9 (S.1 61),
    cI 0 8 (S.1 62),
    cI 0 72 (S.1 63),
    cI 0 17 (S.1 64),
    cI 0 17 (S.1 65),
    cI 0 8 (S.1 66),
    cI 2 16 (S.1 67),
    cI 0 44 (S.1 68),
    cI 0 6 (S.1 69),
    cI 0 4 (S.1 70),
    cI 0 4 (S.1 71),
    cL 96 (S.1 72),
    cL 24 (S.1 73)] ++ cTl S
theorem rd_o0 (S : ZS) : (rd S)[0]? = some (.inr (6, [.ref 1, .ref 8, .ref 15, .ref 22, .ref 24, .ref 33, .ref 43, .ref 45, .int (zI (S.2.1 0 8))])) := rfl
theorem rw_o0_8 (S : ZS) (x : Int) : (rd S).set 0 (.inr (6, ([.ref 1, .ref 8, .ref 15, .ref 22, .ref 24, .ref 33, .ref 43, .ref 45, .int (zI (S.2.1 0 8))] : List Value).set 8 (.int (zI x)))) = rd (wF S 0 8 x) := rfl
theorem rd_o1 (S : ZS) : (rd S)[1]? = some (.inr (4, [.ref 2, .ref 3, .ref 4, .ref 5, .ref 6, .ref 7, .int (zI (S.2.1 1 6)), .int (zI (S.2.1 1 7)), .int (zI (S.2.1 1 8)), .int (zI (S.2.1 1 9)), .int (zI (S.2.1 1 10)), .int (zI (S.2.1 1 11))])) := rfl
theorem rw_o1_6 (S : ZS) (x : Int) : (rd S).set 1 (.inr (4, ([.ref 2, .ref 3, .ref 4, .ref 5, .ref 6, .ref 7, .int (zI (S.2.1 1 6)), .int (zI (S.2.1 1 7)), .int (zI (S.2.1 1 8)), .int (zI (S.2.1 1 9)), .int (zI (S.2.1 1 10)), .int (zI (S.2.1 1 11))] : List Value).set 6 (.int (zI x)))) = rd (wF S 1 6 x) := rfl
theorem rw_o1_7 (S : ZS) (x : Int) : (rd S).set 1 (.inr (4, ([.ref 2, .ref 3, .ref 4, .ref 5, .ref 6, .ref 7, .int (zI (S.2.1 1 6)), .int (zI (S.2.1 1 7)), .int (zI (S.2.1 1 8)), .int (zI (S.2.1 1 9)), .int (zI (S.2.1 1 10)), .int (zI (S.2.1 1 11))] : List Value).set 7 (.int (zI x)))) = rd (wF S 1 7 x) := rfl
theorem rw_o1_8 (S : ZS) (x : Int) : (rd S).set 1 (.inr (4, ([.ref 2, .ref 3, .ref 4, .ref 5, .ref 6, .ref 7, .int (zI (S.2.1 1 6)), .int (zI (S.2.1 1 7)), .int (zI (S.2.1 1 8)), .int (zI (S.2.1 1 9)), .int (zI (S.2.1 1 10)), .int (zI (S.2.1 1 11))] : List Value).set 8 (.int (zI x)))) = rd (wF S 1 8 x) := rfl
theorem rw_o1_9 (S : ZS) (x : Int) : (rd S).set 1 (.inr (4, ([.ref 2, .ref 3, .ref 4, .ref 5, .ref 6, .ref 7, .int (zI (S.2.1 1 6)), .int (zI (S.2.1 1 7)), .int (zI (S.2.1 1 8)), .int (zI (S.2.1 1 9)), .int (zI (S.2.1 1 10)), .int (zI (S.2.1 1 11))] : List Value).set 9 (.int (zI x)))) = rd (wF S 1 9 x) := rfl
theorem rw_o1_10 (S : ZS) (x : Int) : (rd S).set 1 (.inr (4, ([.ref 2, .ref 3, .ref 4, .ref 5, .ref 6, .ref 7, .int (zI (S.2.1 1 6)), .int (zI (S.2.1 1 7)), .int (zI (S.2.1 1 8)), .int (zI (S.2.1 1 9)), .int (zI (S.2.1 1 10)), .int (zI (S.2.1 1 11))] : List Value).set 10 (.int (zI x)))) = rd (wF S 1 10 x) := rfl
theorem rw_o1_11 (S : ZS) (x : Int) : (rd S).set 1 (.inr (4, ([.ref 2, .ref 3, .ref 4, .ref 5, .ref 6, .ref 7, .int (zI (S.2.1 1 6)), .int (zI (S.2.1 1 7)), .int (zI (S.2.1 1 8)), .int (zI (S.2.1 1 9)), .int (zI (S.2.1 1 10)), .int (zI (S.2.1 1 11))] : List Value).set 11 (.int (zI x)))) = rd (wF S 1 11 x) := rfl
theorem rd_a2 (S : ZS) : (rd S)[2]? = some (cI 0 8 (S.1 2)) := rfl
theorem rw_a2 (S : ZS) (f : Int → Int) : (rd S).set 2 (cI 0 8 f) = rd (wR S 2 f) := rfl
theorem rd_a3 (S : ZS) : (rd S)[3]? = some (cI 0 8 (S.1 3)) := rfl
theorem rw_a3 (S : ZS) (f : Int → Int) : (rd S).set 3 (cI 0 8 f) = rd (wR S 3 f) := rfl
theorem rd_a4 (S : ZS) : (rd S)[4]? = some (cI 0 8 (S.1 4)) := rfl
theorem rw_a4 (S : ZS) (f : Int → Int) : (rd S).set 4 (cI 0 8 f) = rd (wR S 4 f) := rfl
theorem rd_a5 (S : ZS) : (rd S)[5]? = some (cI 0 8 (S.1 5)) := rfl
theorem rw_a5 (S : ZS) (f : Int → Int) : (rd S).set 5 (cI 0 8 f) = rd (wR S 5 f) := rfl
theorem rd_a6 (S : ZS) : (rd S)[6]? = some (cI 0 8 (S.1 6)) := rfl
theorem rw_a6 (S : ZS) (f : Int → Int) : (rd S).set 6 (cI 0 8 f) = rd (wR S 6 f) := rfl
theorem rd_a7 (S : ZS) : (rd S)[7]? = some (cI 0 4 (S.1 7)) := rfl
theorem rw_a7 (S : ZS) (f : Int → Int) : (rd S).set 7 (cI 0 4 f) = rd (wR S 7 f) := rfl
theorem rd_o8 (S : ZS) : (rd S)[8]? = some (.inr (4, [.ref 9, .ref 10, .ref 11, .ref 12, .ref 13, .ref 14, .int (zI (S.2.1 8 6)), .int (zI (S.2.1 8 7)), .int (zI (S.2.1 8 8)), .int (zI (S.2.1 8 9)), .int (zI (S.2.1 8 10)), .int (zI (S.2.1 8 11))])) := rfl
theorem rw_o8_6 (S : ZS) (x : Int) : (rd S).set 8 (.inr (4, ([.ref 9, .ref 10, .ref 11, .ref 12, .ref 13, .ref 14, .int (zI (S.2.1 8 6)), .int (zI (S.2.1 8 7)), .int (zI (S.2.1 8 8)), .int (zI (S.2.1 8 9)), .int (zI (S.2.1 8 10)), .int (zI (S.2.1 8 11))] : List Value).set 6 (.int (zI x)))) = rd (wF S 8 6 x) := rfl
theorem rw_o8_7 (S : ZS) (x : Int) : (rd S).set 8 (.inr (4, ([.ref 9, .ref 10, .ref 11, .ref 12, .ref 13, .ref 14, .int (zI (S.2.1 8 6)), .int (zI (S.2.1 8 7)), .int (zI (S.2.1 8 8)), .int (zI (S.2.1 8 9)), .int (zI (S.2.1 8 10)), .int (zI (S.2.1 8 11))] : List Value).set 7 (.int (zI x)))) = rd (wF S 8 7 x) := rfl
theorem rw_o8_8 (S : ZS) (x : Int) : (rd S).set 8 (.inr (4, ([.ref 9, .ref 10, .ref 11, .ref 12, .ref 13, .ref 14, .int (zI (S.2.1 8 6)), .int (zI (S.2.1 8 7)), .int (zI (S.2.1 8 8)), .int (zI (S.2.1 8 9)), .int (zI (S.2.1 8 10)), .int (zI (S.2.1 8 11))] : List Value).set 8 (.int (zI x)))) = rd (wF S 8 8 x) := rfl
theorem rw_o8_9 (S : ZS) (x : Int) : (rd S).set 8 (.inr (4, ([.ref 9, .ref 10, .ref 11, .ref 12, .ref 13, .ref 14, .int (zI (S.2.1 8 6)), .int (zI (S.2.1 8 7)), .int (zI (S.2.1 8 8)), .int (zI (S.2.1 8 9)), .int (zI (S.2.1 8 10)), .int (zI (S.2.1 8 11))] : List Value).set 9 (.int (zI x)))) = rd (wF S 8 9 x) := rfl
theorem rw_o8_10 (S : ZS) (x : Int) : (rd S).set 8 (.inr (4, ([.ref 9, .ref 10, .ref 11, .ref 12, .ref 13, .ref 14, .int (zI (S.2.1 8 6)), .int (zI (S.2.1 8 7)), .int (zI (S.2.1 8 8)), .int (zI (S.2.1 8 9)), .int (zI (S.2.1 8 10)), .int (zI (S.2.1 8 11))] : List Value).set 10 (.int (zI x)))) = rd (wF S 8 10 x) := rfl
theorem rw_o8_11 (S : ZS) (x : Int) : (rd S).set 8 (.inr (4, ([.ref 9, .ref 10, .ref 11, .ref 12, .ref 13, .ref 14, .int (zI (S.2.1 8 6)), .int (zI (S.2.1 8 7)), .int (zI (S.2.1 8 8)), .int (zI (S.2.1 8 9)), .int (zI (S.2.1 8 10)), .int (zI (S.2.1 8 11))] : List Value).set 11 (.int (zI x)))) = rd (wF S 8 11 x) := rfl
theorem rd_a9 (S : ZS) : (rd S)[9]? = some (cI 0 8 (S.1 9)) := rfl
theorem rw_a9 (S : ZS) (f : Int → Int) : (rd S).set 9 (cI 0 8 f) = rd (wR S 9 f) := rfl
theorem rd_a10 (S : ZS) : (rd S)[10]? = some (cI 0 8 (S.1 10)) := rfl
theorem rw_a10 (S : ZS) (f : Int → Int) : (rd S).set 10 (cI 0 8 f) = rd (wR S 10 f) := rfl
theorem rd_a11 (S : ZS) : (rd S)[11]? = some (cI 0 8 (S.1 11)) := rfl
theorem rw_a11 (S : ZS) (f : Int → Int) : (rd S).set 11 (cI 0 8 f) = rd (wR S 11 f) := rfl
theorem rd_a12 (S : ZS) : (rd S)[12]? = some (cI 0 8 (S.1 12)) := rfl
theorem rw_a12 (S : ZS) (f : Int → Int) : (rd S).set 12 (cI 0 8 f) = rd (wR S 12 f) := rfl
theorem rd_a13 (S : ZS) : (rd S)[13]? = some (cI 0 8 (S.1 13)) := rfl
theorem rw_a13 (S : ZS) (f : Int → Int) : (rd S).set 13 (cI 0 8 f) = rd (wR S 13 f) := rfl
theorem rd_a14 (S : ZS) : (rd S)[14]? = some (cI 0 4 (S.1 14)) := rfl
theorem rw_a14 (S : ZS) (f : Int → Int) : (rd S).set 14 (cI 0 4 f) = rd (wR S 14 f) := rfl
theorem rd_o15 (S : ZS) : (rd S)[15]? = some (.inr (4, [.ref 16, .ref 17, .ref 18, .ref 19, .ref 20, .ref 21, .int (zI (S.2.1 15 6)), .int (zI (S.2.1 15 7)), .int (zI (S.2.1 15 8)), .int (zI (S.2.1 15 9)), .int (zI (S.2.1 15 10)), .int (zI (S.2.1 15 11))])) := rfl
theorem rw_o15_6 (S : ZS) (x : Int) : (rd S).set 15 (.inr (4, ([.ref 16, .ref 17, .ref 18, .ref 19, .ref 20, .ref 21, .int (zI (S.2.1 15 6)), .int (zI (S.2.1 15 7)), .int (zI (S.2.1 15 8)), .int (zI (S.2.1 15 9)), .int (zI (S.2.1 15 10)), .int (zI (S.2.1 15 11))] : List Value).set 6 (.int (zI x)))) = rd (wF S 15 6 x) := rfl
theorem rw_o15_7 (S : ZS) (x : Int) : (rd S).set 15 (.inr (4, ([.ref 16, .ref 17, .ref 18, .ref 19, .ref 20, .ref 21, .int (zI (S.2.1 15 6)), .int (zI (S.2.1 15 7)), .int (zI (S.2.1 15 8)), .int (zI (S.2.1 15 9)), .int (zI (S.2.1 15 10)), .int (zI (S.2.1 15 11))] : List Value).set 7 (.int (zI x)))) = rd (wF S 15 7 x) := rfl
theorem rw_o15_8 (S : ZS) (x : Int) : (rd S).set 15 (.inr (4, ([.ref 16, .ref 17, .ref 18, .ref 19, .ref 20, .ref 21, .int (zI (S.2.1 15 6)), .int (zI (S.2.1 15 7)), .int (zI (S.2.1 15 8)), .int (zI (S.2.1 15 9)), .int (zI (S.2.1 15 10)), .int (zI (S.2.1 15 11))] : List Value).set 8 (.int (zI x)))) = rd (wF S 15 8 x) := rfl
theorem rw_o15_9 (S : ZS) (x : Int) : (rd S).set 15 (.inr (4, ([.ref 16, .ref 17, .ref 18, .ref 19, .ref 20, .ref 21, .int (zI (S.2.1 15 6)), .int (zI (S.2.1 15 7)), .int (zI (S.2.1 15 8)), .int (zI (S.2.1 15 9)), .int (zI (S.2.1 15 10)), .int (zI (S.2.1 15 11))] : List Value).set 9 (.int (zI x)))) = rd (wF S 15 9 x) := rfl
theorem rw_o15_10 (S : ZS) (x : Int) : (rd S).set 15 (.inr (4, ([.ref 16, .ref 17, .ref 18, .ref 19, .ref 20, .ref 21, .int (zI (S.2.1 15 6)), .int (zI (S.2.1 15 7)), .int (zI (S.2.1 15 8)), .int (zI (S.2.1 15 9)), .int (zI (S.2.1 15 10)), .int (zI (S.2.1 15 11))] : List Value).set 10 (.int (zI x)))) = rd (wF S 15 10 x) := rfl
theorem rw_o15_11 (S : ZS) (x : Int) : (rd S).set 15 (.inr (4, ([.ref 16, .ref 17, .ref 18, .ref 19, .ref 20, .ref 21, .int (zI (S.2.1 15 6)), .int (zI (S.2.1 15 7)), .int (zI (S.2.1 15 8)), .int (zI (S.2.1 15 9)), .int (zI (S.2.1 15 10)), .int (zI (S.2.1 15 11))] : List Value).set 11 (.int (zI x)))) = rd (wF S 15 11 x) := rfl
theorem rd_a16 (S : ZS) : (rd S)[16]? = some (cI 0 8 (S.1 16)) := rfl
theorem rw_a16 (S : ZS) (f : Int → Int) : (rd S).set 16 (cI 0 8 f) = rd (wR S 16 f) := rfl
theorem rd_a17 (S : ZS) : (rd S)[17]? = some (cI 0 8 (S.1 17)) := rfl
theorem rw_a17 (S : ZS) (f : Int → Int) : (rd S).set 17 (cI 0 8 f) = rd (wR S 17 f) := rfl
theorem rd_a18 (S : ZS) : (rd S)[18]? = some (cI 0 8 (S.1 18)) := rfl
theorem rw_a18 (S : ZS) (f : Int → Int) : (rd S).set 18 (cI 0 8 f) = rd (wR S 18 f) := rfl
theorem rd_a19 (S : ZS) : (rd S)[19]? = some (cI 0 8 (S.1 19)) := rfl
theorem rw_a19 (S : ZS) (f : Int → Int) : (rd S).set 19 (cI 0 8 f) = rd (wR S 19 f) := rfl
theorem rd_a20 (S : ZS) : (rd S)[20]? = some (cI 0 8 (S.1 20)) := rfl
theorem rw_a20 (S : ZS) (f : Int → Int) : (rd S).set 20 (cI 0 8 f) = rd (wR S 20 f) := rfl
theorem rd_a21 (S : ZS) : (rd S)[21]? = some (cI 0 4 (S.1 21)) := rfl
theorem rw_a21 (S : ZS) (f : Int → Int) : (rd S).set 21 (cI 0 4 f) = rd (wR S 21 f) := rfl
theorem rd_o22 (S : ZS) : (rd S)[22]? = some (.inr (3, [.ref 23, .int (zI (S.2.1 22 1)), .int (zI (S.2.1 22 2))])) := rfl
theorem rw_o22_1 (S : ZS) (x : Int) : (rd S).set 22 (.inr (3, ([.ref 23, .int (zI (S.2.1 22 1)), .int (zI (S.2.1 22 2))] : List Value).set 1 (.int (zI x)))) = rd (wF S 22 1 x) := rfl
theorem rw_o22_2 (S : ZS) (x : Int) : (rd S).set 22 (.inr (3, ([.ref 23, .int (zI (S.2.1 22 1)), .int (zI (S.2.1 22 2))] : List Value).set 2 (.int (zI x)))) = rd (wF S 22 2 x) := rfl
theorem rd_a23 (S : ZS) : (rd S)[23]? = some (cI 3 160 (S.1 23)) := rfl
theorem rw_a23 (S : ZS) (f : Int → Int) : (rd S).set 23 (cI 3 160 f) = rd (wR S 23 f) := rfl
theorem rd_o24 (S : ZS) : (rd S)[24]? = some (.inr (5, [.ref 25, .ref 26, .ref 27, .ref 28, .ref 29, .ref 30, .ref (nd S), .ref 32, .int (zI (S.2.1 24 8)), .int (zI (S.2.1 24 9)), .int (zI (S.2.1 24 10)), .int (zI (S.2.1 24 11)), .int (zI (S.2.1 24 12)), .int (zI (S.2.1 24 13)), .int (zI (S.2.1 24 14)), .int (zI (S.2.1 24 15)), .int (zI (S.2.1 24 16))])) := rfl
theorem rw_o24_8 (S : ZS) (x : Int) : (rd S).set 24 (.inr (5, ([.ref 25, .ref 26, .ref 27, .ref 28, .ref 29, .ref 30, .ref (nd S), .ref 32, .int (zI (S.2.1 24 8)), .int (zI (S.2.1 24 9)), .int (zI (S.2.1 24 10)), .int (zI (S.2.1 24 11)), .int (zI (S.2.1 24 12)), .int (zI (S.2.1 24 13)), .int (zI (S.2.1 24 14)), .int (zI (S.2.1 24 15)), .int (zI (S.2.1 24 16))] : List Value).set 8 (.int (zI x)))) = rd (wF S 24 8 x) := rfl
theorem rw_o24_9 (S : ZS) (x : Int) : (rd S).set 24 (.inr (5, ([.ref 25, .ref 26, .ref 27, .ref 28, .ref 29, .ref 30, .ref (nd S), .ref 32, .int (zI (S.2.1 24 8)), .int (zI (S.2.1 24 9)), .int (zI (S.2.1 24 10)), .int (zI (S.2.1 24 11)), .int (zI (S.2.1 24 12)), .int (zI (S.2.1 24 13)), .int (zI (S.2.1 24 14)), .int (zI (S.2.1 24 15)), .int (zI (S.2.1 24 16))] : List Value).set 9 (.int (zI x)))) = rd (wF S 24 9 x) := rfl
theorem rw_o24_10 (S : ZS) (x : Int) : (rd S).set 24 (.inr (5, ([.ref 25, .ref 26, .ref 27, .ref 28, .ref 29, .ref 30, .ref (nd S), .ref 32, .int (zI (S.2.1 24 8)), .int (zI (S.2.1 24 9)), .int (zI (S.2.1 24 10)), .int (zI (S.2.1 24 11)), .int (zI (S.2.1 24 12)), .int (zI (S.2.1 24 13)), .int (zI (S.2.1 24 14)), .int (zI (S.2.1 24 15)), .int (zI (S.2.1 24 16))] : List Value).set 10 (.int (zI x)))) = rd (wF S 24 10 x) := rfl
theorem rw_o24_11 (S : ZS) (x : Int) : (rd S).set 24 (.inr (5, ([.ref 25, .ref 26, .ref 27, .ref 28, .ref 29, .ref 30, .ref (nd S), .ref 32, .int (zI (S.2.1 24 8)), .int (zI (S.2.1 24 9)), .int (zI (S.2.1 24 10)), .int (zI (S.2.1 24 11)), .int (zI (S.2.1 24 12)), .int (zI (S.2.1 24 13)), .int (zI (S.2.1 24 14)), .int (zI (S.2.1 24 15)), .int (zI (S.2.1 24 16))] : List Value).set 11 (.int (zI x)))) = rd (wF S 24 11 x) := rfl
theorem rw_o24_12 (S : ZS) (x : Int) : (rd S).set 24 (.inr (5, ([.ref 25, .ref 26, .ref 27, .ref 28, .ref 29, .ref 30, .ref (nd S), .ref 32, .int (zI (S.2.1 24 8)), .int (zI (S.2.1 24 9)), .int (zI (S.2.1 24 10)), .int (zI (S.2.1 24 11)), .int (zI (S.2.1 24 12)), .int (zI (S.2.1 24 13)), .int (zI (S.2.1 24 14)), .int (zI (S.2.1 24 15)), .int (zI (S.2.1 24 16))] : List Value).set 12 (.int (zI x)))) = rd (wF S 24 12 x) := rfl
theorem rw_o24_13 (S : ZS) (x : Int) : (rd S).set 24 (.inr (5, ([.ref 25, .ref 26, .ref 27, .ref 28, .ref 29, .ref 30, .ref (nd S), .ref 32, .int (zI (S.2.1 24 8)), .int (zI (S.2.1 24 9)), .int (zI (S.2.1 24 10)), .int (zI (S.2.1 24 11)), .int (zI (S.2.1 24 12)), .int (zI (S.2.1 24 13)), .int (zI (S.2.1 24 14)), .int (zI (S.2.1 24 15)), .int (zI (S.2.1 24 16))] : List Value).set 13 (.int (zI x)))) = rd (wF S 24 13 x) := rfl
theorem rw_o24_14 (S : ZS) (x : Int) : (rd S).set 24 (.inr (5, ([.ref 25, .ref 26, .ref 27, .ref 28, .ref 29, .ref 30, .ref (nd S), .ref 32, .int (zI (S.2.1 24 8)), .int (zI (S.2.1 24 9)), .int (zI (S.2.1 24 10)), .int (zI (S.2.1 24 11)), .int (zI (S.2.1 24 12)), .int (zI (S.2.1 24 13)), .int (zI (S.2.1 24 14)), .int (zI (S.2.1 24 15)), .int (zI (S.2.1 24 16))] : List Value).set 14 (.int (zI x)))) = rd (wF S 24 14 x) := rfl
theorem rw_o24_15 (S : ZS) (x : Int) : (rd S).set 24 (.inr (5, ([.ref 25, .ref 26, .ref 27, .ref 28, .ref 29, .ref 30, .ref (nd S), .ref 32, .int (zI (S.2.1 24 8)), .int (zI (S.2.1 24 9)), .int (zI (S.2.1 24 10)), .int (zI (S.2.1 24 11)), .int (zI (S.2.1 24 12)), .int (zI (S.2.1 24 13)), .int (zI (S.2.1 24 14)), .int (zI (S.2.1 24 15)), .int (zI (S.2.1 24 16))] : List Value).set 15 (.int (zI x)))) = rd (wF S 24 15 x) := rfl
theorem rw_o24_16 (S : ZS) (x : Int) : (rd S).set 24 (.inr (5, ([.ref 25, .ref 26, .ref 27, .ref 28, .ref 29, .ref 30, .ref (nd S), .ref 32, .int (zI (S.2.1 24 8)), .int (zI (S.2.1 24 9)), .int (zI (S.2.1 24 10)), .int (zI (S.2.1 24 11)), .int (zI (S.2.1 24 12)), .int (zI (S.2.1 24 13)), .int (zI (S.2.1 24 14)), .int (zI (S.2.1 24 15)), .int (zI (S.2.1 24 16))] : List Value).set 16 (.int (zI x)))) = rd (wF S 24 16 x) := rfl
theorem rd_a25 (S : ZS) : (rd S)[25]? = some (cI 0 256 (S.1 25)) := rfl
theorem rw_a25 (S : ZS) (f : Int → Int) : (rd S).set 25 (cI 0 256 f) = rd (wR S 25 f) := rfl
theorem rd_a26 (S : ZS) : (rd S)[26]? = some (cI 0 256 (S.1 26)) := rfl
theorem rw_a26 (S : ZS) (f : Int → Int) : (rd S).set 26 (cI 0 256 f) = rd (wR S 26 f) := rfl
theorem rd_a27 (S : ZS) : (rd S)[27]? = some (cI 0 256 (S.1 27)) := rfl
theorem rw_a27 (S : ZS) (f : Int → Int) : (rd S).set 27 (cI 0 256 f) = rd (wR S 27 f) := rfl
theorem rd_a28 (S : ZS) : (rd S)[28]? = some (cI 2 256 (S.1 28)) := rfl
theorem rw_a28 (S : ZS) (f : Int → Int) : (rd S).set 28 (cI 2 256 f) = rd (wR S 28 f) := rfl
theorem rd_a29 (S : ZS) : (rd S)[29]? = some (cI 2 256 (S.1 29)) := rfl
theorem rw_a29 (S : ZS) (f : Int → Int) : (rd S).set 29 (cI 2 256 f) = rd (wR S 29 f) := rfl
theorem rd_a30 (S : ZS) : (rd S)[30]? = some (cI 0 256 (S.1 30)) := rfl
theorem rw_a30 (S : ZS) (f : Int → Int) : (rd S).set 30 (cI 0 256 f) = rd (wR S 30 f) := rfl
theorem rd_a32 (S : ZS) : (rd S)[32]? = some (cI 0 256 (S.1 32)) := rfl
theorem rw_a32 (S : ZS) (f : Int → Int) : (rd S).set 32 (cI 0 256 f) = rd (wR S 32 f) := rfl
theorem rd_o33 (S : ZS) : (rd S)[33]? = some (.inr (1, [.ref 34, .ref 35, .ref 36, .ref 37, .ref 38, .ref 39, .ref 40, .ref 41, .ref 42, .int (zI (S.2.1 33 9)), .int (zI (S.2.1 33 10)), .int (zI (S.2.1 33 11)), .int (zI (S.2.1 33 12))])) := rfl
theorem rw_o33_9 (S : ZS) (x : Int) : (rd S).set 33 (.inr (1, ([.ref 34, .ref 35, .ref 36, .ref 37, .ref 38, .ref 39, .ref 40, .ref 41, .ref 42, .int (zI (S.2.1 33 9)), .int (zI (S.2.1 33 10)), .int (zI (S.2.1 33 11)), .int (zI (S.2.1 33 12))] : List Value).set 9 (.int (zI x)))) = rd (wF S 33 9 x) := rfl
theorem rw_o33_10 (S : ZS) (x : Int) : (rd S).set 33 (.inr (1, ([.ref 34, .ref 35, .ref 36, .ref 37, .ref 38, .ref 39, .ref 40, .ref 41, .ref 42, .int (zI (S.2.1 33 9)), .int (zI (S.2.1 33 10)), .int (zI (S.2.1 33 11)), .int (zI (S.2.1 33 12))] : List Value).set 10 (.int (zI x)))) = rd (wF S 33 10 x) := rfl
theorem rw_o33_11 (S : ZS) (x : Int) : (rd S).set 33 (.inr (1, ([.ref 34, .ref 35, .ref 36, .ref 37, .ref 38, .ref 39, .ref 40, .ref 41, .ref 42, .int (zI (S.2.1 33 9)), .int (zI (S.2.1 33 10)), .int (zI (S.2.1 33 11)), .int (zI (S.2.1 33 12))] : List Value).set 11 (.int (zI x)))) = rd (wF S 33 11 x) := rfl
theorem rw_o33_12 (S : ZS) (x : Int) : (rd S).set 33 (.inr (1, ([.ref 34, .ref 35, .ref 36, .ref 37, .ref 38, .ref 39, .ref 40, .ref 41, .ref 42, .int (zI (S.2.1 33 9)), .int (zI (S.2.1 33 10)), .int (zI (S.2.1 33 11)), .int (zI (S.2.1 33 12))] : List Value).set 12 (.int (zI x)))) = rd (wF S 33 12 x) := rfl
theorem rd_a34 (S : ZS) : (rd S)[34]? = some (cI 0 9 (S.1 34)) := rfl
theorem rw_a34 (S : ZS) (f : Int → Int) : (rd S).set 34 (cI 0 9 f) = rd (wR S 34 f) := rfl
theorem rd_a35 (S : ZS) : (rd S)[35]? = some (cI 0 9 (S.1 35)) := rfl
theorem rw_a35 (S : ZS) (f : Int → Int) : (rd S).set 35 (cI 0 9 f) = rd (wR S 35 f) := rfl
theorem rd_a36 (S : ZS) : (rd S)[36]? = some (cI 0 9 (S.1 36)) := rfl
theorem rw_a36 (S : ZS) (f : Int → Int) : (rd S).set 36 (cI 0 9 f) = rd (wR S 36 f) := rfl
theorem rd_a37 (S : ZS) : (rd S)[37]? = some (cI 0 9 (S.1 37)) := rfl
theorem rw_a37 (S : ZS) (f : Int → Int) : (rd S).set 37 (cI 0 9 f) = rd (wR S 37 f) := rfl
theorem rd_a38 (S : ZS) : (rd S)[38]? = some (cI 0 8 (S.1 38)) := rfl
theorem rw_a38 (S : ZS) (f : Int → Int) : (rd S).set 38 (cI 0 8 f) = rd (wR S 38 f) := rfl
theorem rd_a39 (S : ZS) : (rd S)[39]? = some (cI 0 8 (S.1 39)) := rfl
theorem rw_a39 (S : ZS) (f : Int → Int) : (rd S).set 39 (cI 0 8 f) = rd (wR S 39 f) := rfl
theorem rd_a40 (S : ZS) : (rd S)[40]? = some (cI 0 8 (S.1 40)) := rfl
theorem rw_a40 (S : ZS) (f : Int → Int) : (rd S).set 40 (cI 0 8 f) = rd (wR S 40 f) := rfl
theorem rd_a41 (S : ZS) : (rd S)[41]? = some (cI 0 8 (S.1 41)) := rfl
theorem rw_a41 (S : ZS) (f : Int → Int) : (rd S).set 41 (cI 0 8 f) = rd (wR S 41 f) := rfl
theorem rd_a42 (S : ZS) : (rd S)[42]? = some (cI 0 72 (S.1 42)) := rfl
theorem rw_a42 (S : ZS) (f : Int → Int) : (rd S).set 42 (cI 0 72 f) = rd (wR S 42 f) := rfl
theorem rd_o43 (S : ZS) : (rd S)[43]? = some (.inr (0, [.ref 44])) := rfl
theorem rd_a44 (S : ZS) : (rd S)[44]? = some (cI 0 8 (S.1 44)) := rfl
theorem rw_a44 (S : ZS) (f : Int → Int) : (rd S).set 44 (cI 0 8 f) = rd (wR S 44 f) := rfl
theorem rd_o45 (S : ZS) : (rd S)[45]? = some (.inr (2, [.ref 46, .ref 47, .ref 48])) := rfl
theorem rd_a46 (S : ZS) : (rd S)[46]? = some (cL 96 (S.1 46)) := rfl
theorem rw_a46 (S : ZS) (f : Int → Int) : (rd S).set 46 (cL 96 f) = rd (wR S 46 f) := rfl
theorem rd_a47 (S : ZS) : (rd S)[47]? = some (cI 0 4 (S.1 47)) := rfl
theorem rw_a47 (S : ZS) (f : Int → Int) : (rd S).set 47 (cI 0 4 f) = rd (wR S 47 f) := rfl
theorem rd_a48 (S : ZS) : (rd S)[48]? = some (cI 0 4 (S.1 48)) := rfl
theorem rw_a48 (S : ZS) (f : Int → Int) : (rd S).set 48 (cI 0 4 f) = rd (wR S 48 f) := rfl
theorem rd_o49 (S : ZS) : (rd S)[49]? = some (.inr (7, [.ref 50, .int (zI (S.2.1 49 1)), .int (zI (S.2.1 49 2)), .int (zI (S.2.1 49 3)), .int (zI (S.2.1 49 4)), .int (zI (S.2.1 49 5)), .ref 51, .int (zI (S.2.1 49 7)), .ref 52, .int (zI (S.2.1 49 9)), .int (zI (S.2.1 49 10)), .int (zI (S.2.1 49 11)), .int (zI (S.2.1 49 12)), .ref 53, .ref 54, .ref 55, .ref 56, .ref 57, .ref 58, .ref 59, .ref 60, .ref 61, .ref 62, .ref 63, .ref 64, .ref 65, .ref 66, .ref 67, .int (zI (S.2.1 49 28)), .ref 68, .ref 69, .ref 70, .ref 71, .ref 72, .int (zI (S.2.1 49 34)), .ref 73])) := rfl
theorem rw_o49_1 (S : ZS) (x : Int) : (rd S).set 49 (.inr (7, ([.ref 50, .int (zI (S.2.1 49 1)), .int (zI (S.2.1 49 2)), .int (zI (S.2.1 49 3)), .int (zI (S.2.1 49 4)), .int (zI (S.2.1 49 5)), .ref 51, .int (zI (S.2.1 49 7)), .ref 52, .int (zI (S.2.1 49 9)), .int (zI (S.2.1 49 10)), .int (zI (S.2.1 49 11)), .int (zI (S.2.1 49 12)), .ref 53, .ref 54, .ref 55, .ref 56, .ref 57, .ref 58, .ref 59, .ref 60, .ref 61, .ref 62, .ref 63, .ref 64, .ref 65, .ref 66, .ref 67, .int (zI (S.2.1 49 28)), .ref 68, .ref 69, .ref 70, .ref 71, .ref 72, .int (zI (S.2.1 49 34)), .ref 73] : List Value).set 1 (.int (zI x)))) = rd (wF S 49 1 x) := rfl
theorem rw_o49_2 (S : ZS) (x : Int) : (rd S).set 49 (.inr (7, ([.ref 50, .int (zI (S.2.1 49 1)), .int (zI (S.2.1 49 2)), .int (zI (S.2.1 49 3)), .int (zI (S.2.1 49 4)), .int (zI (S.2.1 49 5)), .ref 51, .int (zI (S.2.1 49 7)), .ref 52, .int (zI (S.2.1 49 9)), .int (zI (S.2.1 49 10)), .int (zI (S.2.1 49 11)), .int (zI (S.2.1 49 12)), .ref 53, .ref 54, .ref 55, .ref 56, .ref 57, .ref 58, .ref 59, .ref 60, .ref 61, .ref 62, .ref 63, .ref 64, .ref 65, .ref 66, .ref 67, .int (zI (S.2.1 49 28)), .ref 68, .ref 69, .ref 70, .ref 71, .ref 72, .int (zI (S.2.1 49 34)), .ref 73] : List Value).set 2 (.int (zI x)))) = rd (wF S 49 2 x) := rfl
theorem rw_o49_3 (S : ZS) (x : Int) : (rd S).set 49 (.inr (7, ([.ref 50, .int (zI (S.2.1 49 1)), .int (zI (S.2.1 49 2)), .int (zI (S.2.1 49 3)), .int (zI (S.2.1 49 4)), .int (zI (S.2.1 49 5)), .ref 51, .int (zI (S.2.1 49 7)), .ref 52, .int (zI (S.2.1 49 9)), .int (zI (S.2.1 49 10)), .int (zI (S.2.1 49 11)), .int (zI (S.2.1 49 12)), .ref 53, .ref 54, .ref 55, .ref 56, .ref 57, .ref 58, .ref 59, .ref 60, .ref 61, .ref 62, .ref 63, .ref 64, .ref 65, .ref 66, .ref 67, .int (zI (S.2.1 49 28)), .ref 68, .ref 69, .ref 70, .ref 71, .ref 72, .int (zI (S.2.1 49 34)), .ref 73] : List Value).set 3 (.int (zI x)))) = rd (wF S 49 3 x) := rfl
theorem rw_o49_4 (S : ZS) (x : Int) : (rd S).set 49 (.inr (7, ([.ref 50, .int (zI (S.2.1 49 1)), .int (zI (S.2.1 49 2)), .int (zI (S.2.1 49 3)), .int (zI (S.2.1 49 4)), .int (zI (S.2.1 49 5)), .ref 51, .int (zI (S.2.1 49 7)), .ref 52, .int (zI (S.2.1 49 9)), .int (zI (S.2.1 49 10)), .int (zI (S.2.1 49 11)), .int (zI (S.2.1 49 12)), .ref 53, .ref 54, .ref 55, .ref 56, .ref 57, .ref 58, .ref 59, .ref 60, .ref 61, .ref 62, .ref 63, .ref 64, .ref 65, .ref 66, .ref 67, .int (zI (S.2.1 49 28)), .ref 68, .ref 69, .ref 70, .ref 71, .ref 72, .int (zI (S.2.1 49 34)), .ref 73] : List Value).set 4 (.int (zI x)))) = rd (wF S 49 4 x) := rfl
theorem rw_o49_5 (S : ZS) (x : Int) : (rd S).set 49 (.inr (7, ([.ref 50, .int (zI (S.2.1 49 1)), .int (zI (S.2.1 49 2)), .int (zI (S.2.1 49 3)), .int (zI (S.2.1 49 4)), .int (zI (S.2.1 49 5)), .ref 51, .int (zI (S.2.1 49 7)), .ref 52, .int (zI (S.2.1 49 9)), .int (zI (S.2.1 49 10)), .int (zI (S.2.1 49 11)), .int (zI (S.2.1 49 12)), .ref 53, .ref 54, .ref 55, .ref 56, .ref 57, .ref 58, .ref 59, .ref 60, .ref 61, .ref 62, .ref 63, .ref 64, .ref 65, .ref 66, .ref 67, .int (zI (S.2.1 49 28)), .ref 68, .ref 69, .ref 70, .ref 71, .ref 72, .int (zI (S.2.1 49 34)), .ref 73] : List Value).set 5 (.int (zI x)))) = rd (wF S 49 5 x) := rfl
theorem rw_o49_7 (S : ZS) (x : Int) : (rd S).set 49 (.inr (7, ([.ref 50, .int (zI (S.2.1 49 1)), .int (zI (S.2.1 49 2)), .int (zI (S.2.1 49 3)), .int (zI (S.2.1 49 4)), .int (zI (S.2.1 49 5)), .ref 51, .int (zI (S.2.1 49 7)), .ref 52, .int (zI (S.2.1 49 9)), .int (zI (S.2.1 49 10)), .int (zI (S.2.1 49 11)), .int (zI (S.2.1 49 12)), .ref 53, .ref 54, .ref 55, .ref 56, .ref 57, .ref 58, .ref 59, .ref 60, .ref 61, .ref 62, .ref 63, .ref 64, .ref 65, .ref 66, .ref 67, .int (zI (S.2.1 49 28)), .ref 68, .ref 69, .ref 70, .ref 71, .ref 72, .int (zI (S.2.1 49 34)), .ref 73] : List Value).set 7 (.int (zI x)))) = rd (wF S 49 7 x) := rfl
theorem rw_o49_9 (S : ZS) (x : Int) : (rd S).set 49 (.inr (7, ([.ref 50, .int (zI (S.2.1 49 1)), .int (zI (S.2.1 49 2)), .int (zI (S.2.1 49 3)), .int (zI (S.2.1 49 4)), .int (zI (S.2.1 49 5)), .ref 51, .int (zI (S.2.1 49 7)), .ref 52, .int (zI (S.2.1 49 9)), .int (zI (S.2.1 49 10)), .int (zI (S.2.1 49 11)), .int (zI (S.2.1 49 12)), .ref 53, .ref 54, .ref 55, .ref 56, .ref 57, .ref 58, .ref 59, .ref 60, .ref 61, .ref 62, .ref 63, .ref 64, .ref 65, .ref 66, .ref 67, .int (zI (S.2.1 49 28)), .ref 68, .ref 69, .ref 70, .ref 71, .ref 72, .int (zI (S.2.1 49 34)), .ref 73] : List Value).set 9 (.int (zI x)))) = rd (wF S 49 9 x) := rfl
theorem rw_o49_10 (S : ZS) (x : Int) : (rd S).set 49 (.inr (7, ([.ref 50, .int (zI (S.2.1 49 1)), .int (zI (S.2.1 49 2)), .int (zI (S.2.1 49 3)), .int (zI (S.2.1 49 4)), .int (zI (S.2.1 49 5)), .ref 51, .int (zI (S.2.1 49 7)), .ref 52, .int (zI (S.2.1 49 9)), .int (zI (S.2.1 49 10)), .int (zI (S.2.1 49 11)), .int (zI (S.2.1 49 12)), .ref 53, .ref 54, .ref 55, .ref 56, .ref 57, .ref 58, .ref 59, .ref 60, .ref 61, .ref 62, .ref 63, .ref 64, .ref 65, .ref 66, .ref 67, .int (zI (S.2.1 49 28)), .ref 68, .ref 69, .ref 70, .ref 71, .ref 72, .int (zI (S.2.1 49 34)), .ref 73] : List Value).set 10 (.int (zI x)))) = rd (wF S 49 10 x) := rfl
theorem rw_o49_11 (S : ZS) (x : Int) : (rd S).set 49 (.inr (7, ([.ref 50, .int (zI (S.2.1 49 1)), .int (zI (S.2.1 49 2)), .int (zI (S.2.1 49 3)), .int (zI (S.2.1 49 4)), .int (zI (S.2.1 49 5)), .ref 51, .int (zI (S.2.1 49 7)), .ref 52, .int (zI (S.2.1 49 9)), .int (zI (S.2.1 49 10)), .int (zI (S.2.1 49 11)), .int (zI (S.2.1 49 12)), .ref 53, .ref 54, .ref 55, .ref 56, .ref 57, .ref 58, .ref 59, .ref 60, .ref 61, .ref 62, .ref 63, .ref 64, .ref 65, .ref 66, .ref 67, .int (zI (S.2.1 49 28)), .ref 68, .ref 69, .ref 70, .ref 71, .ref 72, .int (zI (S.2.1 49 34)), .ref 73] : List Value).set 11 (.int (zI x)))) = rd (wF S 49 11 x) := rfl
theorem rw_o49_12 (S : ZS) (x : Int) : (rd S).set 49 (.inr (7, ([.ref 50, .int (zI (S.2.1 49 1)), .int (zI (S.2.1 49 2)), .int (zI (S.2.1 49 3)), .int (zI (S.2.1 49 4)), .int (zI (S.2.1 49 5)), .ref 51, .int (zI (S.2.1 49 7)), .ref 52, .int (zI (S.2.1 49 9)), .int (zI (S.2.1 49 10)), .int (zI (S.2.1 49 11)), .int (zI (S.2.1 49 12)), .ref 53, .ref 54, .ref 55, .ref 56, .ref 57, .ref 58, .ref 59, .ref 60, .ref 61, .ref 62, .ref 63, .ref 64, .ref 65, .ref 66, .ref 67, .int (zI (S.2.1 49 28)), .ref 68, .ref 69, .ref 70, .ref 71, .ref 72, .int (zI (S.2.1 49 34)), .ref 73] : List Value).set 12 (.int (zI x)))) = rd (wF S 49 12 x) := rfl
theorem rw_o49_28 (S : ZS) (x : Int) : (rd S).set 49 (.inr (7, ([.ref 50, .int (zI (S.2.1 49 1)), .int (zI (S.2.1 49 2)), .int (zI (S.2.1 49 3)), .int (zI (S.2.1 49 4)), .int (zI (S.2.1 49 5)), .ref 51, .int (zI (S.2.1 49 7)), .ref 52, .int (zI (S.2.1 49 9)), .int (zI (S.2.1 49 10)), .int (zI (S.2.1 49 11)), .int (zI (S.2.1 49 12)), .ref 53, .ref 54, .ref 55, .ref 56, .ref 57, .ref 58, .ref 59, .ref 60, .ref 61, .ref 62, .ref 63, .ref 64, .ref 65, .ref 66, .ref 67, .int (zI (S.2.1 49 28)), .ref 68, .ref 69, .ref 70, .ref 71, .ref 72, .int (zI (S.2.1 49 34)), .ref 73] : List Value).set 28 (.int (zI x)))) = rd (wF S 49 28 x) := rfl
theorem rw_o49_34 (S : ZS) (x : Int) : (rd S).set 49 (.inr (7, ([.ref 50, .int (zI (S.2.1 49 1)), .int (zI (S.2.1 49 2)), .int (zI (S.2.1 49 3)), .int (zI (S.2.1 49 4)), .int (zI (S.2.1 49 5)), .ref 51, .int (zI (S.2.1 49 7)), .ref 52, .int (zI (S.2.1 49 9)), .int (zI (S.2.1 49 10)), .int (zI (S.2.1 49 11)), .int (zI (S.2.1 49 12)), .ref 53, .ref 54, .ref 55, .ref 56, .ref 57, .ref 58, .ref 59, .ref 60, .ref 61, .ref 62, .ref 63, .ref 64, .ref 65, .ref 66, .ref 67, .int (zI (S.2.1 49 28)), .ref 68, .ref 69, .ref 70, .ref 71, .ref 72, .int (zI (S.2.1 49 34)), .ref 73] : List Value).set 34 (.int (zI x)))) = rd (wF S 49 34 x) := rfl
theorem rd_a50 (S : ZS) : (rd S)[50]? = some (cI 0 40 (S.1 50)) := rfl
theorem rw_a50 (S : ZS) (f : Int → Int) : (rd S).set 50 (cI 0 40 f) = rd (wR S 50 f) := rfl
theorem rd_a51 (S : ZS) : (rd S)[51]? = some (cI 0 4 (S.1 51)) := rfl
theorem rw_a51 (S : ZS) (f : Int → Int) : (rd S).set 51 (cI 0 4 f) = rd (wR S 51 f) := rfl
theorem rd_a52 (S : ZS) : (rd S)[52]? = some (cI 0 160 (S.1 52)) := rfl
theorem rw_a52 (S : ZS) (f : Int → Int) : (rd S).set 52 (cI 0 160 f) = rd (wR S 52 f) := rfl
theorem rd_a53 (S : ZS) : (rd S)[53]? = some (cI 0 40 (S.1 53)) := rfl
theorem rw_a53 (S : ZS) (f : Int → Int) : (rd S).set 53 (cI 0 40 f) = rd (wR S 53 f) := rfl
theorem rd_a54 (S : ZS) : (rd S)[54]? = some (cI 0 256 (S.1 54)) := rfl
theorem rw_a54 (S : ZS) (f : Int → Int) : (rd S).set 54 (cI 0 256 f) = rd (wR S 54 f) := rfl
theorem rd_a55 (S : ZS) : (rd S)[55]? = some (cI 2 256 (S.1 55)) := rfl
theorem rw_a55 (S : ZS) (f : Int → Int) : (rd S).set 55 (cI 2 256 f) = rd (wR S 55 f) := rfl
theorem rd_a56 (S : ZS) : (rd S)[56]? = some (cI 0 256 (S.1 56)) := rfl
theorem rw_a56 (S : ZS) (f : Int → Int) : (rd S).set 56 (cI 0 256 f) = rd (wR S 56 f) := rfl
theorem rd_a57 (S : ZS) : (rd S)[57]? = some (cI 0 256 (S.1 57)) := rfl
theorem rw_a57 (S : ZS) (f : Int → Int) : (rd S).set 57 (cI 0 256 f) = rd (wR S 57 f) := rfl
theorem rd_a58 (S : ZS) : (rd S)[58]? = some (cI 0 65536 (S.1 58)) := rfl
theorem rw_a58 (S : ZS) (f : Int → Int) : (rd S).set 58 (cI 0 65536 f) = rd (wR S 58 f) := rfl
theorem rd_a59 (S : ZS) : (rd S)[59]? = some (cI 0 256 (S.1 59)) := rfl
theorem rw_a59 (S : ZS) (f : Int → Int) : (rd S).set 59 (cI 0 256 f) = rd (wR S 59 f) := rfl
theorem rd_a60 (S : ZS) : (rd S)[60]? = some (cI 0 256 (S.1 60)) := rfl
theorem rw_a60 (S : ZS) (f : Int → Int) : (rd S).set 60 (cI 0 256 f) = rd (wR S 60 f) := rfl
theorem rd_a61 (S : ZS) : (rd S)[61]? = some (cI 0 9 (S.1 61)) := rfl
theorem rw_a61 (S : ZS) (f : Int → Int) : (rd S).set 61 (cI 0 9 f) = rd (wR S 61 f) := rfl
theorem rd_a62 (S : ZS) : (rd S)[62]? = some (cI 0 8 (S.1 62)) := rfl
theorem rw_a62 (S : ZS) (f : Int → Int) : (rd S).set 62 (cI 0 8 f) = rd (wR S 62 f) := rfl
theorem rd_a63 (S : ZS) : (rd S)[63]? = some (cI 0 72 (S.1 63)) := rfl
theorem rw_a63 (S : ZS) (f : Int → Int) : (rd S).set 63 (cI 0 72 f) = rd (wR S 63 f) := rfl
theorem rd_a64 (S : ZS) : (rd S)[64]? = some (cI 0 17 (S.1 64)) := rfl
theorem rw_a64 (S : ZS) (f : Int → Int) : (rd S).set 64 (cI 0 17 f) = rd (wR S 64 f) := rfl
theorem rd_a65 (S : ZS) : (rd S)[65]? = some (cI 0 17 (S.1 65)) := rfl
theorem rw_a65 (S : ZS) (f : Int → Int) : (rd S).set 65 (cI 0 17 f) = rd (wR S 65 f) := rfl
theorem rd_a66 (S : ZS) : (rd S)[66]? = some (cI 0 8 (S.1 66)) := rfl
theorem rw_a66 (S : ZS) (f : Int → Int) : (rd S).set 66 (cI 0 8 f) = rd (wR S 66 f) := rfl
theorem rd_a67 (S : ZS) : (rd S)[67]? = some (cI 2 16 (S.1 67)) := rfl
theorem rw_a67 (S : ZS) (f : Int → Int) : (rd S).set 67 (cI 2 16 f) = rd (wR S 67 f) := rfl
theorem rd_a68 (S : ZS) : (rd S)[68]? = some (cI 0 44 (S.1 68)) := rfl
theorem rw_a68 (S : ZS) (f : Int → Int) : (rd S).set 68 (cI 0 44 f) = rd (wR S 68 f) := rfl
theorem rd_a69 (S : ZS) : (rd S)[69]? = some (cI 0 6 (S.1 69)) := rfl
theorem rw_a69 (S : ZS) (f : Int → Int) : (rd S).set 69 (cI 0 6 f) = rd (wR S 69 f) := rfl
theorem rd_a70 (S : ZS) : (rd S)[70]? = some (cI 0 4 (S.1 70)) := rfl
theorem rw_a70 (S : ZS) (f : Int → Int) : (rd S).set 70 (cI 0 4 f) = rd (wR S 70 f) := rfl
theorem rd_a71 (S : ZS) : (rd S)[71]? = some (cI 0 4 (S.1 71)) := rfl
theorem rw_a71 (S : ZS) (f : Int → Int) : (rd S).set 71 (cI 0 4 f) = rd (wR S 71 f) := rfl
theorem rd_a72 (S : ZS) : (rd S)[72]? = some (cL 96 (S.1 72)) := rfl
theorem rw_a72 (S : ZS) (f : Int → Int) : (rd S).set 72 (cL 96 f) = rd (wR S 72 f) := rfl
theorem rd_a73 (S : ZS) : (rd S)[73]? = some (cL 24 (S.1 73)) := rfl
theorem rw_a73 (S : ZS) (f : Int → Int) : (rd S).set 73 (cL 24 f) = rd (wR S 73 f) := rfl
def isT (t : Nat) : Prop := t = 1 ∨ t = 8 ∨ t = 15
theorem rd_t {t : Nat} (ht : isT t) (S : ZS) : (rd S)[t]? = some (.inr (4, [.ref (t + 1), .ref (t + 2), .ref (t + 3), .ref (t + 4), .ref (t + 5), .ref (t + 6), .int (zI (S.2.1 t 6)), .int (zI (S.2.1 t 7)), .int (zI (S.2.1 t 8)), .int (zI (S.2.1 t 9)), .int (zI (S.2.1 t 10)), .int (zI (S.2.1 t 11))])) := by
  rcases ht with rfl | rfl | rfl <;> rfl
theorem rd_t1 {t : Nat} (ht : isT t) (S : ZS) : (rd S)[t + 1]? = some (cI 0 8 (S.1 (t + 1))) := by
  rcases ht with rfl | rfl | rfl <;> rfl
theorem rd_t2 {t : Nat} (ht : isT t) (S : ZS) : (rd S)[t + 2]? = some (cI 0 8 (S.1 (t + 2))) := by
  rcases ht with rfl | rfl | rfl <;> rfl
theorem rd_t3 {t : Nat} (ht : isT t) (S : ZS) : (rd S)[t + 3]? = some (cI 0 8 (S.1 (t + 3))) := by
  rcases ht with rfl | rfl | rfl <;> rfl
theorem rd_t4 {t : Nat} (ht : isT t) (S : ZS) : (rd S)[t + 4]? = some (cI 0 8 (S.1 (t + 4))) := by
  rcases ht with rfl | rfl | rfl <;> rfl
theorem rd_t5 {t : Nat} (ht : isT t) (S : ZS) : (rd S)[t + 5]? = some (cI 0 8 (S.1 (t + 5))) := by
  rcases ht with rfl | rfl | rfl <;> rfl
theorem rd_t6 {t : Nat} (ht : isT t) (S : ZS) : (rd S)[t + 6]? = some (cI 0 4 (S.1 (t + 6))) := by
  rcases ht with rfl | rfl | rfl <;> rfl
theorem rd_nd (S : ZS) : (rd S)[nd S]? = some (cI 0 (nn S) (S.1 31)) := by
  obtain ⟨A, F, k, x⟩ := S
  cases x with
  | none => rfl
  | some g =>
    obtain ⟨g, gs⟩ := g
    show (rd (A, F, k, some (g, gs)))[74 + gs.length]? = _
    unfold rd
    rw [List.getElem?_append_right (by show 74 ≤ 74 + gs.length; omega)]
    show (gs ++ [cNd (A, F, k, some (g, gs))])[74 + gs.length - 74]? = _
    rw [show 74 + gs.length - 74 = gs.length by omega, List.getElem?_append_right (Nat.le_refl _), Nat.sub_self]
    rfl
theorem rw_nd (S : ZS) (f : Int → Int) : (rd S).set (nd S) (cI 0 (nn S) f) = rd (wR S 31 f) := by
  obtain ⟨A, F, k, x⟩ := S
  cases x with
  | none => rfl
  | some g =>
    obtain ⟨g, gs⟩ := g
    show (rd (A, F, k, some (g, gs))).set (74 + gs.length) _ = _
    unfold rd
    rw [List.set_append_right _ _ (by show 74 ≤ 74 + gs.length; omega)]
    show _ ++ (gs ++ [cNd (A, F, k, some (g, gs))]).set (74 + gs.length - 74) _ = _
    rw [show 74 + gs.length - 74 = gs.length by omega, List.set_append_right _ _ (Nat.le_refl _), Nat.sub_self]
    rfl
theorem rd_len (S : ZS) : (rd S).length = 74 + (cTl S).length := by
  unfold rd
  rw [List.length_append]
  rfl
theorem zI_add (x y : Int) : zI x + zI y = zI (x + y) := (Int32.ofInt_add x y).symm
theorem zI_sub (x y : Int) : zI x - zI y = zI (x - y) := (Int32.ofInt_sub x y).symm
theorem zI_mul (x y : Int) : zI x * zI y = zI (x * y) := (Int32.ofInt_mul x y).symm
theorem zI_neg (x : Int) : -zI x = zI (-x) := (Int32.ofInt_neg x).symm
theorem zL_sub (x y : Int) : zL x - zL y = zL (x - y) := (Int64.ofInt_sub x y).symm
theorem zI_of (x : Int32) : zI x.toInt = x := Int32.ofInt_toInt x
theorem zL_of (x : Int64) : zL x.toInt = x := Int64.ofInt_toInt x
theorem zI_to {x : Int} (h1 : -2147483648 ≤ x) (h2 : x < 2147483648) : (zI x).toInt = x := Int32.toInt_ofInt_of_le (by omega) (by omega)
theorem zL_to {x : Int} (h1 : -9223372036854775808 ≤ x) (h2 : x < 9223372036854775808) : (zL x).toInt = x := Int64.toInt_ofInt_of_le (by omega) (by omega)
theorem zI_clamp {x : Int} (h1 : 0 ≤ x) (h2 : x < 2147483648) : (((zI x).toNatClampNeg : Nat) : Int) = x := by
  have e : (zI x).toNatClampNeg = x.toNat := Int32.toNatClampNeg_ofInt_of_le (by omega) (by omega)
  rw [e]
  omega
def zand (x y : Int) : Int := (zI x &&& zI y).toInt
def zor (x y : Int) : Int := (zI x ||| zI y).toInt
def zxor (x y : Int) : Int := (zI x ^^^ zI y).toInt
def zshl (x y : Int) : Int := (zI x <<< (zI y &&& 31)).toInt
def zshr (x y : Int) : Int := (zI x >>> (zI y &&& 31)).toInt
def zushr (x y : Int) : Int := ((zI x).toUInt32 >>> ((zI y).toUInt32 &&& Int32.toUInt32 31)).toInt32.toInt
def zs16 (x : Int) : Int := (zI x).toInt16.toInt32.toInt
def zc16 (x : Int) : Int := ((zI x).toUInt32 % 65536).toInt32.toInt
def zl2i (x : Int) : Int := (zL x).toInt32.toInt
def zlan (x y : Int) : Int := (zL x &&& zL y).toInt
def zlor (x y : Int) : Int := (zL x ||| zL y).toInt
def zlshl (x y : Int) : Int := (zL x <<< ((zI y).toInt64 &&& 63)).toInt
def zlshr (x y : Int) : Int := (zL x >>> ((zI y).toInt64 &&& 63)).toInt
def zlushr (x y : Int) : Int := ((zL x).toUInt64 >>> ((zI y).toInt64.toUInt64 &&& Int64.toUInt64 63)).toInt64.toInt
def zob (x : Int) : Int := if x = 0 then 6 else if x = 1 then 2 else if x = 2 then 2 else 6
/-- guards: where a step asks for more than that numbers are numbers -/
def gC {α : Type} (x y : Int) (T : Option α) : Option α := if -2147483648 ≤ x ∧ x < 2147483648 ∧ -2147483648 ≤ y ∧ y < 2147483648 then T else none
def gL {α : Type} (x y : Int) (T : Option α) : Option α := if -9223372036854775808 ≤ x ∧ x < 9223372036854775808 ∧ -9223372036854775808 ≤ y ∧ y < 9223372036854775808 then T else none
def gX {α : Type} (x : Int) (n : Nat) (T : Option α) : Option α := if 0 ≤ x ∧ x < (n : Int) ∧ n ≤ 1000000 then T else none
def gB {α : Type} (x : Int) (T : Option α) : Option α := if x = 0 ∨ x = 1 then T else none
def gH {α : Type} (x : Int) (T : Option α) : Option α := if 0 ≤ x ∧ x ≤ 65535 then T else none
def gV {α : Type} (x y : Int) (T : Option α) : Option α := if -2147483648 ≤ x ∧ x < 2147483648 ∧ 0 < y ∧ y < 2147483648 then T else none
def gY {α : Type} (sp dp m : Int) (n0 n1 : Nat) (T : Option α) : Option α := if 0 ≤ sp ∧ 0 ≤ dp ∧ 0 ≤ m ∧ sp + m ≤ (n0 : Int) ∧ dp + m ≤ (n1 : Int) ∧ n0 ≤ 1000000 ∧ n1 ≤ 1000000 then T else none
theorem gC_inv {α : Type} {x y : Int} {T : Option α} {w : α} (h : gC x y T = some w) : (-2147483648 ≤ x ∧ x < 2147483648 ∧ -2147483648 ≤ y ∧ y < 2147483648) ∧ T = some w := by
  unfold gC at h
  split at h
  · exact ⟨by assumption, h⟩
  · cases h
theorem gL_inv {α : Type} {x y : Int} {T : Option α} {w : α} (h : gL x y T = some w) : (-9223372036854775808 ≤ x ∧ x < 9223372036854775808 ∧ -9223372036854775808 ≤ y ∧ y < 9223372036854775808) ∧ T = some w := by
  unfold gL at h
  split at h
  · exact ⟨by assumption, h⟩
  · cases h
theorem gX_inv {α : Type} {x : Int} {n : Nat} {T : Option α} {w : α} (h : gX x n T = some w) : (0 ≤ x ∧ x < (n : Int) ∧ n ≤ 1000000) ∧ T = some w := by
  unfold gX at h
  split at h
  · exact ⟨by assumption, h⟩
  · cases h
theorem gB_inv {α : Type} {x : Int} {T : Option α} {w : α} (h : gB x T = some w) : (x = 0 ∨ x = 1) ∧ T = some w := by
  unfold gB at h
  split at h
  · exact ⟨by assumption, h⟩
  · cases h
theorem gH_inv {α : Type} {x : Int} {T : Option α} {w : α} (h : gH x T = some w) : (0 ≤ x ∧ x ≤ 65535) ∧ T = some w := by
  unfold gH at h
  split at h
  · exact ⟨by assumption, h⟩
  · cases h
theorem gV_inv {α : Type} {x y : Int} {T : Option α} {w : α} (h : gV x y T = some w) : (-2147483648 ≤ x ∧ x < 2147483648 ∧ 0 < y ∧ y < 2147483648) ∧ T = some w := by
  unfold gV at h
  split at h
  · exact ⟨by assumption, h⟩
  · cases h
theorem gY_inv {α : Type} {sp dp m : Int} {n0 n1 : Nat} {T : Option α} {w : α} (h : gY sp dp m n0 n1 T = some w) : (0 ≤ sp ∧ 0 ≤ dp ∧ 0 ≤ m ∧ sp + m ≤ (n0 : Int) ∧ dp + m ≤ (n1 : Int) ∧ n0 ≤ 1000000 ∧ n1 ≤ 1000000) ∧ T = some w := by
  unfold gY at h
  split at h
  · exact ⟨by assumption, h⟩
  · cases h
theorem gC_pos {α : Type} {x y : Int} {T : Option α} (h1 : -2147483648 ≤ x) (h2 : x < 2147483648) (h3 : -2147483648 ≤ y) (h4 : y < 2147483648) : gC x y T = T := if_pos ⟨h1, h2, h3, h4⟩
theorem gL_pos {α : Type} {x y : Int} {T : Option α} (h1 : -9223372036854775808 ≤ x) (h2 : x < 9223372036854775808) (h3 : -9223372036854775808 ≤ y) (h4 : y < 9223372036854775808) : gL x y T = T := if_pos ⟨h1, h2, h3, h4⟩
theorem gX_pos {α : Type} {x : Int} {n : Nat} {T : Option α} (h1 : 0 ≤ x) (h2 : x < (n : Int)) (h3 : n ≤ 1000000) : gX x n T = T := if_pos ⟨h1, h2, h3⟩
theorem gB_0 {α : Type} {T : Option α} : gB 0 T = T := if_pos (Or.inl rfl)
theorem gB_1 {α : Type} {T : Option α} : gB 1 T = T := if_pos (Or.inr rfl)
theorem gB_pos {α : Type} {x : Int} {T : Option α} (h : x = 0 ∨ x = 1) : gB x T = T := if_pos h
theorem gH_pos {α : Type} {x : Int} {T : Option α} (h1 : 0 ≤ x) (h2 : x ≤ 65535) : gH x T = T := if_pos ⟨h1, h2⟩
theorem gV_pos {α : Type} {x y : Int} {T : Option α} (h1 : -2147483648 ≤ x) (h2 : x < 2147483648) (h3 : 0 < y) (h4 : y < 2147483648) : gV x y T = T := if_pos ⟨h1, h2, h3, h4⟩
theorem gY_pos {α : Type} {sp dp m : Int} {n0 n1 : Nat} {T : Option α} (h1 : 0 ≤ sp) (h2 : 0 ≤ dp) (h3 : 0 ≤ m) (h4 : sp + m ≤ (n0 : Int)) (h5 : dp + m ≤ (n1 : Int)) (h6 : n0 ≤ 1000000) (h7 : n1 ≤ 1000000) : gY sp dp m n0 n1 T = T := if_pos ⟨h1, h2, h3, h4, h5, h6, h7⟩
/-- what follows a piece that may return -/
def zR {α β : Type} (q : Option (α ⊕ β)) (f : β → Option α) : Option α := match q with
  | none => none
  | some (.inl v) => some v
  | some (.inr x) => f x
def zRR {α β γ : Type} (q : Option (α ⊕ β)) (f : β → Option (α ⊕ γ)) : Option (α ⊕ γ) := match q with
  | none => none
  | some (.inl v) => some (.inl v)
  | some (.inr x) => f x
theorem zB_inv {α β : Type} {q : Option α} {f : α → Option β} {w : β} (h : q.bind f = some w) : ∃ z, q = some z ∧ f z = some w := by
  cases q with
  | none => cases h
  | some z => exact ⟨z, rfl, h⟩
theorem zR_inv {α β : Type} {q : Option (α ⊕ β)} {f : β → Option α} {w : α} (h : zR q f = some w) : q = some (.inl w) ∨ ∃ z, q = some (.inr z) ∧ f z = some w := by
  cases q with
  | none => cases h
  | some z =>
    cases z with
    | inl v => cases h; exact Or.inl rfl
    | inr z => exact Or.inr ⟨z, rfl, h⟩
theorem zRR_inv {α β γ : Type} {q : Option (α ⊕ β)} {f : β → Option (α ⊕ γ)} {w : α ⊕ γ} (h : zRR q f = some w) : (∃ v, q = some (.inl v) ∧ w = .inl v) ∨ ∃ z, q = some (.inr z) ∧ f z = some w := by
  cases q with
  | none => cases h
  | some z =>
    cases z with
    | inl v => cases h; exact Or.inl ⟨v, rfl, rfl⟩
    | inr z => exact Or.inr ⟨z, rfl, h⟩
theorem s_join {α β : Type} {q : Option α} {f : α → Option β} {w : β} {G : Prop} (P : α → Prop) (h : q.bind f = some w) (hj : ∀ z, f z = some w → P z) (hs : ∀ z, q = some z → P z → G) : G := by
  obtain ⟨z, h1, h2⟩ := zB_inv h
  exact hs z h1 (hj z h2)
section S1
variable {o : eO} {k pc l : Nat} {L : eL} {st : List Value} {H : eH} {r : eP} {α : Type} {w : α}
theorem s_iadd {x y : Int} (h : eAt k pc = some (.iadd, 1)) (g : eG o k (pc + 1) L (.int (zI (x + y)) :: st) H r) : eG o k pc L (.int (zI y) :: .int (zI x) :: st) H r := g_step h rfl (by rw [zI_add]; exact g)
theorem s_isub {x y : Int} (h : eAt k pc = some (.isub, 1)) (g : eG o k (pc + 1) L (.int (zI (x - y)) :: st) H r) : eG o k pc L (.int (zI y) :: .int (zI x) :: st) H r := g_step h rfl (by rw [zI_sub]; exact g)
theorem s_imul {x y : Int} (h : eAt k pc = some (.imul, 1)) (g : eG o k (pc + 1) L (.int (zI (x * y)) :: st) H r) : eG o k pc L (.int (zI y) :: .int (zI x) :: st) H r := g_step h rfl (by rw [zI_mul]; exact g)
theorem s_ineg {x : Int} (h : eAt k pc = some (.ineg, 1)) (g : eG o k (pc + 1) L (.int (zI (-x)) :: st) H r) : eG o k pc L (.int (zI x) :: st) H r := g_step h rfl (by rw [zI_neg]; exact g)
theorem s_iand {x y : Int} (h : eAt k pc = some (.iand, 1)) (g : eG o k (pc + 1) L (.int (zI (zand x y)) :: st) H r) : eG o k pc L (.int (zI y) :: .int (zI x) :: st) H r := g_step h rfl (by rw [zand, zI_of] at g; exact g)
theorem s_ior {x y : Int} (h : eAt k pc = some (.ior, 1)) (g : eG o k (pc + 1) L (.int (zI (zor x y)) :: st) H r) : eG o k pc L (.int (zI y) :: .int (zI x) :: st) H r := g_step h rfl (by rw [zor, zI_of] at g; exact g)
theorem s_ixor {x y : Int} (h : eAt k pc = some (.ixor, 1)) (g : eG o k (pc + 1) L (.int (zI (zxor x y)) :: st) H r) : eG o k pc L (.int (zI y) :: .int (zI x) :: st) H r := g_step h rfl (by rw [zxor, zI_of] at g; exact g)
theorem s_ishl {x y : Int} (h : eAt k pc = some (.ishl, 1)) (g : eG o k (pc + 1) L (.int (zI (zshl x y)) :: st) H r) : eG o k pc L (.int (zI y) :: .int (zI x) :: st) H r := g_step h rfl (by rw [zshl, zI_of] at g; exact g)
theorem s_ishr {x y : Int} (h : eAt k pc = some (.ishr, 1)) (g : eG o k (pc + 1) L (.int (zI (zshr x y)) :: st) H r) : eG o k pc L (.int (zI y) :: .int (zI x) :: st) H r := g_step h rfl (by rw [zshr, zI_of] at g; exact g)
theorem s_iushr {x y : Int} (h : eAt k pc = some (.iushr, 1)) (g : eG o k (pc + 1) L (.int (zI (zushr x y)) :: st) H r) : eG o k pc L (.int (zI y) :: .int (zI x) :: st) H r := g_step h rfl (by rw [zushr, zI_of] at g; exact g)
theorem s_i2s {x : Int} (h : eAt k pc = some (.i2s, 1)) (g : eG o k (pc + 1) L (.int (zI (zs16 x)) :: st) H r) : eG o k pc L (.int (zI x) :: st) H r := g_step h rfl (by rw [zs16, zI_of] at g; exact g)
theorem s_i2c {x : Int} (h : eAt k pc = some (.i2c, 1)) (g : eG o k (pc + 1) L (.int (zI (zc16 x)) :: st) H r) : eG o k pc L (.int (zI x) :: st) H r := g_step h rfl (by rw [zc16, zI_of] at g; exact g)
theorem s_l2i {x : Int} (h : eAt k pc = some (.l2i, 1)) (g : eG o k (pc + 1) L (.int (zI (zl2i x)) :: st) H r) : eG o k pc L (.long (zL x) :: st) H r := g_step h rfl (by rw [zl2i, zI_of] at g; exact g)
theorem s_i2l {x : Int} {T : Option α} (h : eAt k pc = some (.i2l, 1)) (hh : gC x 0 T = some w) (g : T = some w → eG o k (pc + 1) L (.long (zL x) :: st) H r) : eG o k pc L (.int (zI x) :: st) H r := by
  obtain ⟨⟨h1, h2, -⟩, h3⟩ := gC_inv hh
  refine g_step h rfl ?_
  have e : (zI x).toInt64 = zL x := Int64.toInt_inj.mp (by rw [Int32.toInt_toInt64, zI_to h1 h2, zL_to (by omega) (by omega)])
  rw [e]
  exact g h3
theorem s_lsub {x y : Int} (h : eAt k pc = some (.lsub, 1)) (g : eG o k (pc + 1) L (.long (zL (x - y)) :: st) H r) : eG o k pc L (.long (zL y) :: .long (zL x) :: st) H r := g_step h rfl (by rw [zL_sub]; exact g)
theorem s_land {x y : Int} (h : eAt k pc = some (.land, 1)) (g : eG o k (pc + 1) L (.long (zL (zlan x y)) :: st) H r) : eG o k pc L (.long (zL y) :: .long (zL x) :: st) H r := g_step h rfl (by rw [zlan, zL_of] at g; exact g)
theorem s_lshl {x y : Int} (h : eAt k pc = some (.lshl, 1)) (g : eG o k (pc + 1) L (.long (zL (zlshl x y)) :: st) H r) : eG o k pc L (.int (zI y) :: .long (zL x) :: st) H r := g_step h rfl (by rw [zlshl, zL_of] at g; exact g)
theorem s_lshr {x y : Int} (h : eAt k pc = some (.lshr, 1)) (g : eG o k (pc + 1) L (.long (zL (zlshr x y)) :: st) H r) : eG o k pc L (.int (zI y) :: .long (zL x) :: st) H r := g_step h rfl (by rw [zlshr, zL_of] at g; exact g)
theorem s_lushr {x y : Int} (h : eAt k pc = some (.lushr, 1)) (g : eG o k (pc + 1) L (.long (zL (zlushr x y)) :: st) H r) : eG o k pc L (.int (zI y) :: .long (zL x) :: st) H r := g_step h rfl (by rw [zlushr, zL_of] at g; exact g)
theorem s_idiv {x y : Int} {T : Option α} (h : eAt k pc = some (.idiv, 1)) (hh : gV x y T = some w) (g : T = some w → eG o k (pc + 1) L (.int (zI (x.tdiv y)) :: st) H r) : eG o k pc L (.int (zI y) :: .int (zI x) :: st) H r := by
  obtain ⟨⟨h1, h2, h3, h4⟩, h5⟩ := gV_inv hh
  have hy : (zI y).toInt = y := zI_to (by omega) h4
  have e0 : ¬ zI y = 0 := fun q => by
    rw [q] at hy
    have : (0 : Int32).toInt = 0 := by decide
    omega
  have e1 : ¬ zI y = -1 := fun q => by
    rw [q] at hy
    have : (-1 : Int32).toInt = -1 := by decide
    omega
  have e : zI x / zI y = zI (x.tdiv y) := by
    rw [← zI_of (zI x / zI y), Int32.toInt_div_of_ne_right _ _ e1, zI_to h1 h2, hy]
  refine g_step h ?_ (g h5)
  show (if zI y = 0 then none else ePush (pc + 1) L st H (.int (zI x / zI y))) = _
  rw [if_neg e0, e]
  rfl
theorem s_irem {x y : Int} {T : Option α} (h : eAt k pc = some (.irem, 1)) (hh : gV x y T = some w) (g : T = some w → eG o k (pc + 1) L (.int (zI (x.tmod y)) :: st) H r) : eG o k pc L (.int (zI y) :: .int (zI x) :: st) H r := by
  obtain ⟨⟨h1, h2, h3, h4⟩, h5⟩ := gV_inv hh
  have hy : (zI y).toInt = y := zI_to (by omega) h4
  have e0 : ¬ zI y = 0 := fun q => by
    rw [q] at hy
    have : (0 : Int32).toInt = 0 := by decide
    omega
  have e1 : ¬ zI y = -1 := fun q => by
    rw [q] at hy
    have : (-1 : Int32).toInt = -1 := by decide
    omega
  have e : zI x / zI y = zI (x.tdiv y) := by
    rw [← zI_of (zI x / zI y), Int32.toInt_div_of_ne_right _ _ e1, zI_to h1 h2, hy]
  refine g_step h ?_ (g h5)
  show (if zI y = 0 then none else ePush (pc + 1) L st H (.int (zI x - zI x / zI y * zI y))) = _
  rw [if_neg e0, e, zI_mul, zI_sub, Int.tmod_def x y, Int.mul_comm y]
  rfl
theorem zI_lt {x y : Int} (h : -2147483648 ≤ x ∧ x < 2147483648 ∧ -2147483648 ≤ y ∧ y < 2147483648) : zI x < zI y ↔ x < y := by
  rw [Int32.lt_iff_toInt_lt, zI_to h.1 h.2.1, zI_to h.2.2.1 h.2.2.2]
theorem zI_le {x y : Int} (h : -2147483648 ≤ x ∧ x < 2147483648 ∧ -2147483648 ≤ y ∧ y < 2147483648) : zI x ≤ zI y ↔ x ≤ y := by
  rw [Int32.le_iff_toInt_le, zI_to h.1 h.2.1, zI_to h.2.2.1 h.2.2.2]
theorem zI_eq {x y : Int} (h : -2147483648 ≤ x ∧ x < 2147483648 ∧ -2147483648 ≤ y ∧ y < 2147483648) : zI x = zI y ↔ x = y := by
  rw [← Int32.toInt_inj, zI_to h.1 h.2.1, zI_to h.2.2.1 h.2.2.2]
theorem zL_lt {x y : Int} (h : -9223372036854775808 ≤ x ∧ x < 9223372036854775808 ∧ -9223372036854775808 ≤ y ∧ y < 9223372036854775808) : zL x < zL y ↔ x < y := by
  rw [Int64.lt_iff_toInt_lt, zL_to h.1 h.2.1, zL_to h.2.2.1 h.2.2.2]
theorem zL_eq {x y : Int} (h : -9223372036854775808 ≤ x ∧ x < 9223372036854775808 ∧ -9223372036854775808 ≤ y ∧ y < 9223372036854775808) : zL x = zL y ↔ x = y := by
  rw [← Int64.toInt_inj, zL_to h.1 h.2.1, zL_to h.2.2.1 h.2.2.2]
theorem s_icmp_eq {off : Int} {x y : Int} {A B : Option α} (h : eAt k pc = some (.if_icmp .eq off, 3)) (hh : gC x y (if x = y then A else B) = some w) (ht : A = some w → eG o k (eTgt pc off) L st H r) (hf : B = some w → eG o k (pc + 3) L st H r) : eG o k pc L (.int (zI y) :: .int (zI x) :: st) H r := by
  obtain ⟨hr, h2⟩ := gC_inv hh
  by_cases c : x = y
  · rw [if_pos c] at h2
    exact g_icmp_eq h (fun _ => ht h2) (fun q => absurd ((zI_eq hr).mpr c) q)
  · rw [if_neg c] at h2
    exact g_icmp_eq h (fun q => absurd ((zI_eq hr).mp q) c) (fun _ => hf h2)
theorem s_icmp_ne {off : Int} {x y : Int} {A B : Option α} (h : eAt k pc = some (.if_icmp .ne off, 3)) (hh : gC x y (if x = y then B else A) = some w) (ht : A = some w → eG o k (eTgt pc off) L st H r) (hf : B = some w → eG o k (pc + 3) L st H r) : eG o k pc L (.int (zI y) :: .int (zI x) :: st) H r := by
  obtain ⟨hr, h2⟩ := gC_inv hh
  by_cases c : x = y
  · rw [if_pos c] at h2
    exact g_icmp_ne h (fun q => absurd ((zI_eq hr).mpr c) q) (fun _ => hf h2)
  · rw [if_neg c] at h2
    exact g_icmp_ne h (fun _ => ht h2) (fun q => absurd ((zI_eq hr).mp q) c)
theorem s_icmp_lt {off : Int} {x y : Int} {A B : Option α} (h : eAt k pc = some (.if_icmp .lt off, 3)) (hh : gC x y (if x < y then A else B) = some w) (ht : A = some w → eG o k (eTgt pc off) L st H r) (hf : B = some w → eG o k (pc + 3) L st H r) : eG o k pc L (.int (zI y) :: .int (zI x) :: st) H r := by
  obtain ⟨hr, h2⟩ := gC_inv hh
  by_cases c : x < y
  · rw [if_pos c] at h2
    exact g_icmp_lt h (fun _ => ht h2) (fun q => absurd ((zI_lt hr).mpr c) q)
  · rw [if_neg c] at h2
    exact g_icmp_lt h (fun q => absurd ((zI_lt hr).mp q) c) (fun _ => hf h2)
theorem s_icmp_ge {off : Int} {x y : Int} {A B : Option α} (h : eAt k pc = some (.if_icmp .ge off, 3)) (hh : gC x y (if x < y then B else A) = some w) (ht : A = some w → eG o k (eTgt pc off) L st H r) (hf : B = some w → eG o k (pc + 3) L st H r) : eG o k pc L (.int (zI y) :: .int (zI x) :: st) H r := by
  obtain ⟨hr, h2⟩ := gC_inv hh
  have hr2 : -2147483648 ≤ y ∧ y < 2147483648 ∧ -2147483648 ≤ x ∧ x < 2147483648 := ⟨hr.2.2.1, hr.2.2.2, hr.1, hr.2.1⟩
  by_cases c : x < y
  · rw [if_pos c] at h2
    exact g_icmp_ge h (fun q => absurd ((zI_le hr2).mp q) (by omega)) (fun _ => hf h2)
  · rw [if_neg c] at h2
    exact g_icmp_ge h (fun _ => ht h2) (fun q => absurd ((zI_le hr2).mpr (by omega)) q)
theorem s_icmp_gt {off : Int} {x y : Int} {A B : Option α} (h : eAt k pc = some (.if_icmp .gt off, 3)) (hh : gC x y (if y < x then A else B) = some w) (ht : A = some w → eG o k (eTgt pc off) L st H r) (hf : B = some w → eG o k (pc + 3) L st H r) : eG o k pc L (.int (zI y) :: .int (zI x) :: st) H r := by
  obtain ⟨hr, h2⟩ := gC_inv hh
  have hr2 : -2147483648 ≤ y ∧ y < 2147483648 ∧ -2147483648 ≤ x ∧ x < 2147483648 := ⟨hr.2.2.1, hr.2.2.2, hr.1, hr.2.1⟩
  by_cases c : y < x
  · rw [if_pos c] at h2
    exact g_icmp_gt h (fun _ => ht h2) (fun q => absurd ((zI_lt hr2).mpr c) q)
  · rw [if_neg c] at h2
    exact g_icmp_gt h (fun q => absurd ((zI_lt hr2).mp q) c) (fun _ => hf h2)
theorem s_icmp_le {off : Int} {x y : Int} {A B : Option α} (h : eAt k pc = some (.if_icmp .le off, 3)) (hh : gC x y (if y < x then B else A) = some w) (ht : A = some w → eG o k (eTgt pc off) L st H r) (hf : B = some w → eG o k (pc + 3) L st H r) : eG o k pc L (.int (zI y) :: .int (zI x) :: st) H r := by
  obtain ⟨hr, h2⟩ := gC_inv hh
  by_cases c : y < x
  · rw [if_pos c] at h2
    exact g_icmp_le h (fun q => absurd ((zI_le hr).mp q) (by omega)) (fun _ => hf h2)
  · rw [if_neg c] at h2
    exact g_icmp_le h (fun _ => ht h2) (fun q => absurd ((zI_le hr).mpr (by omega)) q)
theorem s_if_eq {off : Int} {x : Int} {A B : Option α} (h : eAt k pc = some (.ifCond .eq off, 3)) (hh : gC x 0 (if x = 0 then A else B) = some w) (ht : A = some w → eG o k (eTgt pc off) L st H r) (hf : B = some w → eG o k (pc + 3) L st H r) : eG o k pc L (.int (zI x) :: st) H r := by
  obtain ⟨hr, h2⟩ := gC_inv hh
  by_cases c : x = 0
  · rw [if_pos c] at h2
    exact g_if_eq h (fun _ => ht h2) (fun q => absurd ((zI_eq hr).mpr c) q)
  · rw [if_neg c] at h2
    exact g_if_eq h (fun q => absurd ((zI_eq hr).mp q) c) (fun _ => hf h2)
theorem s_if_ne {off : Int} {x : Int} {A B : Option α} (h : eAt k pc = some (.ifCond .ne off, 3)) (hh : gC x 0 (if x = 0 then B else A) = some w) (ht : A = some w → eG o k (eTgt pc off) L st H r) (hf : B = some w → eG o k (pc + 3) L st H r) : eG o k pc L (.int (zI x) :: st) H r := by
  obtain ⟨hr, h2⟩ := gC_inv hh
  by_cases c : x = 0
  · rw [if_pos c] at h2
    exact g_if_ne h (fun q => absurd ((zI_eq hr).mpr c) q) (fun _ => hf h2)
  · rw [if_neg c] at h2
    exact g_if_ne h (fun _ => ht h2) (fun q => absurd ((zI_eq hr).mp q) c)
theorem s_if_lt {off : Int} {x : Int} {A B : Option α} (h : eAt k pc = some (.ifCond .lt off, 3)) (hh : gC x 0 (if x < 0 then A else B) = some w) (ht : A = some w → eG o k (eTgt pc off) L st H r) (hf : B = some w → eG o k (pc + 3) L st H r) : eG o k pc L (.int (zI x) :: st) H r := by
  obtain ⟨hr, h2⟩ := gC_inv hh
  by_cases c : x < 0
  · rw [if_pos c] at h2
    exact g_if_lt h (fun _ => ht h2) (fun q => absurd ((zI_lt hr).mpr c) q)
  · rw [if_neg c] at h2
    exact g_if_lt h (fun q => absurd ((zI_lt hr).mp q) c) (fun _ => hf h2)
theorem s_if_ge {off : Int} {x : Int} {A B : Option α} (h : eAt k pc = some (.ifCond .ge off, 3)) (hh : gC x 0 (if x < 0 then B else A) = some w) (ht : A = some w → eG o k (eTgt pc off) L st H r) (hf : B = some w → eG o k (pc + 3) L st H r) : eG o k pc L (.int (zI x) :: st) H r := by
  obtain ⟨hr, h2⟩ := gC_inv hh
  have hr2 : -2147483648 ≤ (0 : Int) ∧ (0 : Int) < 2147483648 ∧ -2147483648 ≤ x ∧ x < 2147483648 := ⟨hr.2.2.1, hr.2.2.2, hr.1, hr.2.1⟩
  by_cases c : x < 0
  · rw [if_pos c] at h2
    exact g_if_ge h (fun q => absurd ((zI_le hr2).mp q) (by omega)) (fun _ => hf h2)
  · rw [if_neg c] at h2
    exact g_if_ge h (fun _ => ht h2) (fun q => absurd ((zI_le hr2).mpr (by omega)) q)
theorem s_if_gt {off : Int} {x : Int} {A B : Option α} (h : eAt k pc = some (.ifCond .gt off, 3)) (hh : gC x 0 (if 0 < x then A else B) = some w) (ht : A = some w → eG o k (eTgt pc off) L st H r) (hf : B = some w → eG o k (pc + 3) L st H r) : eG o k pc L (.int (zI x) :: st) H r := by
  obtain ⟨hr, h2⟩ := gC_inv hh
  have hr2 : -2147483648 ≤ (0 : Int) ∧ (0 : Int) < 2147483648 ∧ -2147483648 ≤ x ∧ x < 2147483648 := ⟨hr.2.2.1, hr.2.2.2, hr.1, hr.2.1⟩
  by_cases c : 0 < x
  · rw [if_pos c] at h2
    exact g_if_gt h (fun _ => ht h2) (fun q => absurd ((zI_lt hr2).mpr c) q)
  · rw [if_neg c] at h2
    exact g_if_gt h (fun q => absurd ((zI_lt hr2).mp q) c) (fun _ => hf h2)
theorem s_if_le {off : Int} {x : Int} {A B : Option α} (h : eAt k pc = some (.ifCond .le off, 3)) (hh : gC x 0 (if 0 < x then B else A) = some w) (ht : A = some w → eG o k (eTgt pc off) L st H r) (hf : B = some w → eG o k (pc + 3) L st H r) : eG o k pc L (.int (zI x) :: st) H r := by
  obtain ⟨hr, h2⟩ := gC_inv hh
  by_cases c : 0 < x
  · rw [if_pos c] at h2
    exact g_if_le h (fun q => absurd ((zI_le hr).mp q) (by omega)) (fun _ => hf h2)
  · rw [if_neg c] at h2
    exact g_if_le h (fun _ => ht h2) (fun q => absurd ((zI_le hr).mpr (by omega)) q)
theorem lg_cmp_z {x y : Int} (hr : -9223372036854775808 ≤ x ∧ x < 9223372036854775808 ∧ -9223372036854775808 ≤ y ∧ y < 9223372036854775808) : lg_cmp (zL x) (zL y) = zI (if y < x then 1 else if x = y then 0 else -1) := by
  have hr2 : -9223372036854775808 ≤ y ∧ y < 9223372036854775808 ∧ -9223372036854775808 ≤ x ∧ x < 9223372036854775808 := ⟨hr.2.2.1, hr.2.2.2, hr.1, hr.2.1⟩
  unfold lg_cmp
  by_cases c : y < x
  · rw [if_pos c, if_pos ((zL_lt hr2).mpr c)]
    rfl
  · rw [if_neg c, if_neg (fun q => c ((zL_lt hr2).mp q))]
    by_cases d : x = y
    · rw [if_pos d, if_pos ((zL_eq hr).mpr d)]
      rfl
    · rw [if_neg d, if_neg (fun q => d ((zL_eq hr).mp q))]
      rfl
def zcmp (x y : Int) : Int := if y < x then 1 else if x = y then 0 else -1
theorem s_lcmp {x y : Int} {T : Option α} (h : eAt k pc = some (.lcmp, 1)) (hh : gL x y T = some w) (g : T = some w → eG o k (pc + 1) L (.int (zI (zcmp x y)) :: st) H r) : eG o k pc L (.long (zL y) :: .long (zL x) :: st) H r := by
  obtain ⟨hr, h2⟩ := gL_inv hh
  refine g_step h rfl ?_
  rw [lg_cmp_z hr]
  exact g h2
theorem s_iinc {j : Nat} {n : Int} {x : Int} {L' : eL} (h : eAt k pc = some (.iinc j n, 3)) (hl : eLd L j = some (.int (zI x))) (e : eSt1 L j (.int (zI (x + n))) = L') (g : eG o k (pc + 3) L' st H r) : eG o k pc L st H r := by
  subst e
  refine g_step h ?_ g
  show eLoc (eOwn k) (.iinc j n) pc L st H = _
  simp only [eLoc, hl]
  rw [show Int32.ofInt n = zI n from rfl, zI_add]
theorem s_max {x y : Int} {idx : Nat} {T : Option α} (h : eAt k pc = some (.invokestatic idx, 3)) (hac : eHas eAc (eOwn k) idx = false) (hq : eFind (eLs (eOwn k)) idx = some 36) (hw : Nat.ble (eWords st) 7 = true) (hh : gC x y T = some w) (g : T = some w → eG o k (pc + 3) L (.int (zI (max x y)) :: st) H r) : eG o k pc L (.int (zI y) :: .int (zI x) :: st) H r := by
  obtain ⟨hr, h2⟩ := gC_inv hh
  refine g_step h ?_ (g h2)
  show eCall k (eOwn k) (.invokestatic idx) pc L _ H = _
  have e : (if zI x < zI y then zI y else zI x) = zI (max x y) := by
    by_cases c : x < y
    · rw [if_pos ((zI_lt hr).mpr c), Int.max_eq_right (by omega)]
    · rw [if_neg (fun q => c ((zI_lt hr).mp q)), Int.max_eq_left (by omega)]
  simp only [eCall, hac, hq, eMth, hw, e]
theorem s_min {x y : Int} {idx : Nat} {T : Option α} (h : eAt k pc = some (.invokestatic idx, 3)) (hac : eHas eAc (eOwn k) idx = false) (hq : eFind (eLs (eOwn k)) idx = some 37) (hw : Nat.ble (eWords st) 7 = true) (hh : gC x y T = some w) (g : T = some w → eG o k (pc + 3) L (.int (zI (min x y)) :: st) H r) : eG o k pc L (.int (zI y) :: .int (zI x) :: st) H r := by
  obtain ⟨hr, h2⟩ := gC_inv hh
  have hr2 : -2147483648 ≤ y ∧ y < 2147483648 ∧ -2147483648 ≤ x ∧ x < 2147483648 := ⟨hr.2.2.1, hr.2.2.2, hr.1, hr.2.1⟩
  refine g_step h ?_ (g h2)
  show eCall k (eOwn k) (.invokestatic idx) pc L _ H = _
  have e : (if zI y < zI x then zI y else zI x) = zI (min x y) := by
    by_cases c : y < x
    · rw [if_pos ((zI_lt hr2).mpr c), Int.min_eq_right (by omega)]
    · rw [if_neg (fun q => c ((zI_lt hr2).mp q)), Int.min_eq_left (by omega)]
  simp only [eCall, hac, hq, eMth, hw, e]
def zabs (x : Int) : Int := if 0 ≤ x then x else -x
theorem s_abs {x : Int} {idx : Nat} {T : Option α} (h : eAt k pc = some (.invokestatic idx, 3)) (hac : eHas eAc (eOwn k) idx = false) (hq : eFind (eLs (eOwn k)) idx = some 84) (hw : Nat.ble (eWords st) 7 = true) (hh : gC x 0 T = some w) (g : T = some w → eG o k (pc + 3) L (.int (zI (zabs x)) :: st) H r) : eG o k pc L (.int (zI x) :: st) H r := by
  obtain ⟨hr, h2⟩ := gC_inv hh
  have hr2 : -2147483648 ≤ (0 : Int) ∧ (0 : Int) < 2147483648 ∧ -2147483648 ≤ x ∧ x < 2147483648 := ⟨hr.2.2.1, hr.2.2.2, hr.1, hr.2.1⟩
  refine g_step h ?_ (g h2)
  show eCall k (eOwn k) (.invokestatic idx) pc L _ H = _
  have e : (if (0 : Int32) ≤ zI x then zI x else 0 - zI x) = zI (zabs x) := by
    unfold zabs
    rw [show (0 : Int32) = zI 0 from rfl, zI_sub, Int.zero_sub]
    by_cases c : 0 ≤ x
    · rw [if_pos c, if_pos ((zI_le hr2).mpr c)]
    · rw [if_neg c, if_neg (fun q => c ((zI_le hr2).mp q))]
  simp only [eCall, hac, hq, eMth, hw, e]
/-- rows -/
theorem eOut_z {x : Int} {n : Nat} (h : 0 ≤ x ∧ x < (n : Int) ∧ n ≤ 1000000) : eOut (zI x) n = false := by
  have e : (zI x).toNatClampNeg = x.toNat := Int32.toNatClampNeg_ofInt_of_le (by omega) (by omega)
  have e2 : ¬ zI x < 0 := by
    rw [show (0 : Int32) = zI 0 from rfl, zI_lt ⟨by omega, by omega, by omega, by omega⟩]
    omega
  unfold eOut
  rw [e]
  simp only [e2, decide_false, Bool.false_or]
  cases hb : Nat.ble n x.toNat with
  | false => rfl
  | true => exact absurd (Nat.le_of_ble_eq_true hb) (by omega)
theorem upd_zu {f : Int → Int} {x v : Int} {n : Nat} (h : 0 ≤ x ∧ x < (n : Int) ∧ n ≤ 1000000) : upd (fun i : Nat => zI (f (i : Int))) (zI x).toNatClampNeg (zI v) = fun i : Nat => zI (zu f x v (i : Int)) := by
  have e : (zI x).toNatClampNeg = x.toNat := Int32.toNatClampNeg_ofInt_of_le (by omega) (by omega)
  funext j
  unfold upd zu
  rw [e]
  by_cases c : j = x.toNat
  · rw [if_pos c, if_pos (by omega)]
  · rw [if_neg c, if_neg (by omega)]
theorem updL_zu {f : Int → Int} {x v : Int} {n : Nat} (h : 0 ≤ x ∧ x < (n : Int) ∧ n ≤ 1000000) : vp_updL (fun i : Nat => zL (f (i : Int))) (zI x).toNatClampNeg (zL v) = fun i : Nat => zL (zu f x v (i : Int)) := by
  have e : (zI x).toNatClampNeg = x.toNat := Int32.toNatClampNeg_ofInt_of_le (by omega) (by omega)
  funext j
  unfold vp_updL zu
  rw [e]
  by_cases c : j = x.toNat
  · rw [if_pos c, if_pos (by omega)]
  · rw [if_neg c, if_neg (by omega)]
theorem s_iald {a n : Nat} {f : Int → Int} {x : Int} {T : Option α} (h : eAt k pc = some (.iaload, 1)) (hH : H[a]? = some (cI 0 n f)) (hh : gX x n T = some w) (g : T = some w → eG o k (pc + 1) L (.int (zI (f x)) :: st) H r) : eG o k pc L (.int (zI x) :: .ref a :: st) H r := by
  obtain ⟨hr, h2⟩ := gX_inv hh
  refine g_iald h hH (eOut_z hr) ?_
  rw [zI_clamp hr.1 (by omega)]
  exact g h2
theorem s_bald {a n : Nat} {f : Int → Int} {x : Int} {T : Option α} (h : eAt k pc = some (.baload, 1)) (hH : H[a]? = some (cI 2 n f)) (hh : gX x n T = some w) (g : T = some w → eG o k (pc + 1) L (.int (zI (f x)) :: st) H r) : eG o k pc L (.int (zI x) :: .ref a :: st) H r := by
  obtain ⟨hr, h2⟩ := gX_inv hh
  refine g_bald h hH (eOut_z hr) ?_
  rw [zI_clamp hr.1 (by omega)]
  exact g h2
theorem s_cald {a n : Nat} {f : Int → Int} {x : Int} {T : Option α} (h : eAt k pc = some (.caload, 1)) (hH : H[a]? = some (cI 3 n f)) (hh : gX x n T = some w) (g : T = some w → eG o k (pc + 1) L (.int (zI (f x)) :: st) H r) : eG o k pc L (.int (zI x) :: .ref a :: st) H r := by
  obtain ⟨hr, h2⟩ := gX_inv hh
  refine g_cald h hH (eOut_z hr) ?_
  rw [zI_clamp hr.1 (by omega)]
  exact g h2
theorem s_lald {a n : Nat} {f : Int → Int} {x : Int} {T : Option α} (h : eAt k pc = some (.laload, 1)) (hH : H[a]? = some (cL n f)) (hh : gX x n T = some w) (g : T = some w → eG o k (pc + 1) L (.long (zL (f x)) :: st) H r) : eG o k pc L (.int (zI x) :: .ref a :: st) H r := by
  obtain ⟨hr, h2⟩ := gX_inv hh
  refine g_lald h hH (eOut_z hr) ?_
  rw [zI_clamp hr.1 (by omega)]
  exact g h2
theorem s_obld {x : Int} {T : Option α} (h : eAt k pc = some (.iaload, 1)) (hh : gX x 4 T = some w) (g : T = some w → eG o k (pc + 1) L (.int (zI (zob x)) :: st) H r) : eG o k pc L (.int (zI x) :: .retAddr 1 :: st) H r := by
  obtain ⟨hr, h2⟩ := gX_inv hh
  refine g_step h ?_ (g h2)
  show eHp o (eOwn k) (eIni k) .iaload pc L (.int (zI x) :: .retAddr 1 :: st) H = _
  simp only [eHp, eRoA, eOut_z hr, ePush]
  have : x = 0 ∨ x = 1 ∨ x = 2 ∨ x = 3 := by omega
  rcases this with rfl | rfl | rfl | rfl <;> rfl
theorem s_iast {a n : Nat} {f : Int → Int} {x v : Int} {T : Option α} {H' : eH} (h : eAt k pc = some (.iastore, 1)) (hH : H[a]? = some (cI 0 n f)) (hs : H.set a (cI 0 n (zu f x v)) = H') (hh : gX x n T = some w) (g : T = some w → eG o k (pc + 1) L st H' r) : eG o k pc L (.int (zI v) :: .int (zI x) :: .ref a :: st) H r := by
  obtain ⟨hr, h2⟩ := gX_inv hh
  subst hs
  refine g_iast h hH (eOut_z hr) ?_
  rw [upd_zu hr]
  exact g h2
theorem s_bast {a n : Nat} {f : Int → Int} {x v : Int} {T : Option α} {H' : eH} (h : eAt k pc = some (.bastore, 1)) (hH : H[a]? = some (cI 2 n f)) (hs : H.set a (cI 2 n (zu f x v)) = H') (hh : gB v (gX x n T) = some w) (g : T = some w → eG o k (pc + 1) L st H' r) : eG o k pc L (.int (zI v) :: .int (zI x) :: .ref a :: st) H r := by
  obtain ⟨hb, hh⟩ := gB_inv hh
  obtain ⟨hr, h2⟩ := gX_inv hh
  subst hs
  refine g_bast h hH (eOut_z hr) ?_
  have e : vp_nar .boolean (zI v) = zI v := by rcases hb with rfl | rfl <;> rfl
  rw [e, upd_zu hr]
  exact g h2
theorem vp_char {v : Int} (h : 0 ≤ v ∧ v ≤ 65535) : vp_nar .char (zI v) = zI v := by
  have e : vp_nar .char (zI v) = ((zI v).toUInt32 % 65536).toInt32 := rfl
  rw [e]
  obtain ⟨m, rfl⟩ : ∃ m : Nat, v = (m : Int) := ⟨v.toNat, by omega⟩
  have e1 : zI (m : Int) = Int32.ofNat m := Int32.ofInt_eq_ofNat
  rw [e1]
  have e2 : (Int32.ofNat m).toUInt32 = UInt32.ofNat m := rfl
  rw [e2]
  have e3 : UInt32.ofNat m % 65536 = UInt32.ofNat m := by
    apply UInt32.toNat_inj.mp
    rw [UInt32.toNat_mod, UInt32.toNat_ofNat]
    show m % 4294967296 % 65536 = m % 4294967296
    omega
  rw [e3]
  rfl
theorem s_cast {a n : Nat} {f : Int → Int} {x v : Int} {T : Option α} {H' : eH} (h : eAt k pc = some (.castore, 1)) (hH : H[a]? = some (cI 3 n f)) (hs : H.set a (cI 3 n (zu f x v)) = H') (hh : gH v (gX x n T) = some w) (g : T = some w → eG o k (pc + 1) L st H' r) : eG o k pc L (.int (zI v) :: .int (zI x) :: .ref a :: st) H r := by
  obtain ⟨hb, hh⟩ := gH_inv hh
  obtain ⟨hr, h2⟩ := gX_inv hh
  subst hs
  refine g_cast h hH (eOut_z hr) ?_
  rw [vp_char hb, upd_zu hr]
  exact g h2
theorem s_last {a n : Nat} {f : Int → Int} {x v : Int} {T : Option α} {H' : eH} (h : eAt k pc = some (.lastore, 1)) (hH : H[a]? = some (cL n f)) (hs : H.set a (cL n (zu f x v)) = H') (hh : gX x n T = some w) (g : T = some w → eG o k (pc + 1) L st H' r) : eG o k pc L (.long (zL v) :: .int (zI x) :: .ref a :: st) H r := by
  obtain ⟨hr, h2⟩ := gX_inv hh
  subst hs
  refine g_last h hH (eOut_z hr) ?_
  rw [updL_zu hr]
  exact g h2
theorem s_alen {a t n : Nat} {f : Int → Int} (h : eAt k pc = some (.arraylength, 1)) (hH : H[a]? = some (cI t n f)) (ht : Nat.blt t 5 = true) (g : eG o k (pc + 1) L (.int (zI (n : Int)) :: st) H r) : eG o k pc L (.ref a :: st) H r :=
  g_alen h hH ht (by rw [show Int32.ofNat n = zI (n : Int) from Int32.ofInt_eq_ofNat.symm]; exact g)
theorem s_alenL {a n : Nat} {f : Int → Int} (h : eAt k pc = some (.arraylength, 1)) (hH : H[a]? = some (cL n f)) (g : eG o k (pc + 1) L (.int (zI (n : Int)) :: st) H r) : eG o k pc L (.ref a :: st) H r :=
  g_alen h hH rfl (by rw [show Int32.ofNat n = zI (n : Int) from Int32.ofInt_eq_ofNat.symm]; exact g)
theorem zc_cpy {f g : Int → Int} {sp dp m : Int} (h1 : 0 ≤ sp) (h2 : 0 ≤ dp) (h3 : 0 ≤ m) (q : Nat) : zc f g sp dp m (q : Int) = if dp.toNat ≤ q ∧ q < dp.toNat + m.toNat then f ((sp.toNat + (q - dp.toNat) : Nat) : Int) else g (q : Int) := by
  unfold zc
  by_cases c : dp.toNat ≤ q ∧ q < dp.toNat + m.toNat
  · rw [if_pos c, if_pos (by omega)]
    congr 1
    omega
  · rw [if_neg c, if_neg (by omega)]
theorem s_cpy {idx a b n0 n1 : Nat} {sp dp m : Int} {f g : Int → Int} {T : Option α} {H' : eH} (h : eAt k pc = some (.invokestatic idx, 3)) (hac : eHas eAc (eOwn k) idx = true) (hA : H[a]? = some (cI 0 n0 f)) (hB : H[b]? = some (cI 0 n1 g)) (hw : Nat.ble (eWords st) 8 = true) (hs : H.set b (cI 0 n1 (zc f g sp dp m)) = H') (hh : gY sp dp m n0 n1 T = some w) (gg : T = some w → eG o k (pc + 3) L st H' r) : eG o k pc L (.int (zI m) :: .int (zI dp) :: .ref b :: .int (zI sp) :: .ref a :: st) H r := by
  obtain ⟨⟨h1, h2, h3, h4, h5, h6, h7⟩, h8⟩ := gY_inv hh
  subst hs
  have c1 : (zI sp).toNatClampNeg = sp.toNat := Int32.toNatClampNeg_ofInt_of_le (by omega) (by omega)
  have c2 : (zI dp).toNatClampNeg = dp.toNat := Int32.toNatClampNeg_ofInt_of_le (by omega) (by omega)
  have c3 : (zI m).toNatClampNeg = m.toNat := Int32.toNatClampNeg_ofInt_of_le (by omega) (by omega)
  have pos : ∀ x : Int, 0 ≤ x → x < 2147483648 → ¬ zI x < 0 := fun x a b => by
    rw [show (0 : Int32) = zI 0 from rfl, zI_lt ⟨by omega, by omega, by omega, by omega⟩]
    omega
  have p1 := pos sp h1 (by omega)
  have p2 := pos dp h2 (by omega)
  have p3 := pos m h3 (by omega)
  refine g_step h ?_ (gg h8)
  show eCall k (eOwn k) (.invokestatic idx) pc L _ H = _
  have e : va_cpy (fun i : Nat => zI (f (i : Int))) (fun i : Nat => zI (g (i : Int))) sp.toNat dp.toNat m.toNat = fun i : Nat => zI (zc f g sp dp m (i : Int)) := by
    funext q
    rw [zc_cpy h1 h2 h3 q]
    unfold va_cpy
    split <;> rfl
  have hA' : H[a]? = some (.inl (0, n0, .inl (fun i => zI (f (i : Int))))) := hA
  have hB' : H[b]? = some (.inl (0, n1, .inl (fun i => zI (g (i : Int))))) := hB
  simp only [eCall, hac, eCpy, hA', hB', c1, c2, c3, p1, p2, p3, Nat.ble_eq_true_of_le (show sp.toNat + m.toNat ≤ n0 by omega), Nat.ble_eq_true_of_le (show dp.toNat + m.toNat ≤ n1 by omega), hw, or_self, if_false, e]
  rfl
theorem s_cpyL {idx a b n0 n1 : Nat} {sp dp m : Int} {f g : Int → Int} {T : Option α} {H' : eH} (h : eAt k pc = some (.invokestatic idx, 3)) (hac : eHas eAc (eOwn k) idx = true) (hA : H[a]? = some (cL n0 f)) (hB : H[b]? = some (cL n1 g)) (hw : Nat.ble (eWords st) 8 = true) (hs : H.set b (cL n1 (zc f g sp dp m)) = H') (hh : gY sp dp m n0 n1 T = some w) (gg : T = some w → eG o k (pc + 3) L st H' r) : eG o k pc L (.int (zI m) :: .int (zI dp) :: .ref b :: .int (zI sp) :: .ref a :: st) H r := by
  obtain ⟨⟨h1, h2, h3, h4, h5, h6, h7⟩, h8⟩ := gY_inv hh
  subst hs
  have c1 : (zI sp).toNatClampNeg = sp.toNat := Int32.toNatClampNeg_ofInt_of_le (by omega) (by omega)
  have c2 : (zI dp).toNatClampNeg = dp.toNat := Int32.toNatClampNeg_ofInt_of_le (by omega) (by omega)
  have c3 : (zI m).toNatClampNeg = m.toNat := Int32.toNatClampNeg_ofInt_of_le (by omega) (by omega)
  have pos : ∀ x : Int, 0 ≤ x → x < 2147483648 → ¬ zI x < 0 := fun x a b => by
    rw [show (0 : Int32) = zI 0 from rfl, zI_lt ⟨by omega, by omega, by omega, by omega⟩]
    omega
  have p1 := pos sp h1 (by omega)
  have p2 := pos dp h2 (by omega)
  have p3 := pos m h3 (by omega)
  refine g_step h ?_ (gg h8)
  show eCall k (eOwn k) (.invokestatic idx) pc L _ H = _
  have e : va_cpy (fun i : Nat => zL (f (i : Int))) (fun i : Nat => zL (g (i : Int))) sp.toNat dp.toNat m.toNat = fun i : Nat => zL (zc f g sp dp m (i : Int)) := by
    funext q
    rw [zc_cpy h1 h2 h3 q]
    unfold va_cpy
    split <;> rfl
  have hA' : H[a]? = some (.inl (1, n0, .inr (fun i => zL (f (i : Int))))) := hA
  have hB' : H[b]? = some (.inl (1, n1, .inr (fun i => zL (g (i : Int))))) := hB
  simp only [eCall, hac, eCpy, hA', hB', c1, c2, c3, p1, p2, p3, Nat.ble_eq_true_of_le (show sp.toNat + m.toNat ≤ n0 by omega), Nat.ble_eq_true_of_le (show dp.toNat + m.toNat ≤ n1 by omega), hw, or_self, if_false, e]
  rfl
/-- fields -/
theorem s_putf {idx ci j a : Nat} {fs : List Value} {v : Value} {nm : String × String × String × Bool} {ty : FieldType} {H' : eH} (h : eAt k pc = some (.putfield idx, 3)) (hl : eFind (eLf (eOwn k)) idx = some (ci, j)) (hH : H[a]? = some (.inr (ci, fs))) (hj : Nat.blt j fs.length = true) (hn : (eFd ci)[j]? = some nm) (ht : (eFt ci)[j]? = some ty) (hf : eFit ty v = true) (hfin : nm.2.2.2 = false) (hs : H.set a (.inr (ci, fs.set j v)) = H') (g : eG o k (pc + 3) L st H' r) : eG o k pc L (v :: .ref a :: st) H r := by
  subst hs
  exact g_putf h hl hH hj hn ht hf (Or.inl hfin) g
theorem fitB {x : Int} (h : x = 0 ∨ x = 1) : eFit .boolean (.int (zI x)) = true := by rcases h with rfl | rfl <;> rfl
theorem fitH {x : Int} (h : 0 ≤ x ∧ x ≤ 65535) : eFit .char (.int (zI x)) = true := by
  show (decide ((0 : Int32) ≤ zI x) && decide (zI x ≤ 65535)) = true
  rw [show (0 : Int32) = zI 0 from rfl, show (65535 : Int32) = zI 65535 from rfl]
  rw [Bool.and_eq_true]
  exact ⟨decide_eq_true ((zI_le ⟨by omega, by omega, by omega, by omega⟩).mpr h.1), decide_eq_true ((zI_le ⟨by omega, by omega, by omega, by omega⟩).mpr h.2)⟩
theorem s_putb {idx ci j a : Nat} {fs : List Value} {x : Int} {T : Option α} {nm : String × String × String × Bool} {H' : eH} (h : eAt k pc = some (.putfield idx, 3)) (hl : eFind (eLf (eOwn k)) idx = some (ci, j)) (hH : H[a]? = some (.inr (ci, fs))) (hj : Nat.blt j fs.length = true) (hn : (eFd ci)[j]? = some nm) (ht : (eFt ci)[j]? = some .boolean) (hfin : nm.2.2.2 = false) (hs : H.set a (.inr (ci, fs.set j (.int (zI x)))) = H') (hh : gB x T = some w) (g : T = some w → eG o k (pc + 3) L st H' r) : eG o k pc L (.int (zI x) :: .ref a :: st) H r := by
  obtain ⟨hb, h2⟩ := gB_inv hh
  subst hs
  exact g_putf h hl hH hj hn ht (fitB hb) (Or.inl hfin) (g h2)
/-- answers -/
theorem s_ret {x : Int} (h : eAt k pc = some (.ireturn, 1)) (ht : eRt.getD k none = some .int) (e : r (some (.int (zI x)), H)) : eG o k pc L [.int (zI x)] H r := g_retiS h ht rfl e
theorem s_retB {x : Int} {T : Option α} (h : eAt k pc = some (.ireturn, 1)) (ht : eRt.getD k none = some .boolean) (hh : gB x T = some w) (e : T = some w → r (some (.int (zI x)), H)) : eG o k pc L [.int (zI x)] H r := by
  obtain ⟨hb, h2⟩ := gB_inv hh
  exact g_retiS h ht (fitB hb) (e h2)
theorem s_retH {x : Int} {T : Option α} (h : eAt k pc = some (.ireturn, 1)) (ht : eRt.getD k none = some .char) (hh : gH x T = some w) (e : T = some w → r (some (.int (zI x)), H)) : eG o k pc L [.int (zI x)] H r := by
  obtain ⟨hb, h2⟩ := gH_inv hh
  exact g_retiS h ht (fitH hb) (e h2)
theorem s_retL {x : Int64} (h : eAt k pc = some (.lreturn, 1)) (ht : eRt.getD k none = some .long) (e : r (some (.long x), H)) : eG o k pc L [.long x] H r := by
  refine g_ret h ?_ e
  show eCall k (eOwn k) .lreturn pc L [.long x] H = _
  simp only [eCall, ht]
/-- calls: q is what the callee does, V its answer, G its heap -/
theorem s_vir {β : Type} {idx q a pc' : Nat} {as st' : List Value} {fs : List Value} {Q : Option β} {f : β → Option α} (V : β → Option Value) (G : β → eH) (h : eAt k pc = some (.invokevirtual idx, 3)) (hq : eFind (eLv (eOwn k)) idx = some q) (hp : ePop (eNa.getD q 0) [] st = some (as, .ref a :: st')) (hH : H[a]? = some (.inr (eOwn q, fs))) (hw : Nat.ble (eWords st') 8 = true) (hle : Nat.ble (eArgs (.ref a :: as)).length (eMx.getD q 0) = true) (hc : ∀ z, Q = some z → eG o q 0 (eEnt q (.ref a :: as)) [] H (rv (V z) (G z))) (hpc : pc + 3 = pc') (hh : Q.bind f = some w) (g : ∀ z, f z = some w → eG o k pc' L ((V z).toList ++ st') (G z) r) : eG o k pc L st H r := by
  obtain ⟨z, h1, h2⟩ := zB_inv hh
  exact g_vir h hq hp hH hw hle (hc z h1) hpc (g z h2)
theorem s_sta {β : Type} {idx q pc' : Nat} {as st' : List Value} {Q : Option β} {f : β → Option α} (V : β → Option Value) (G : β → eH) (h : eAt k pc = some (.invokestatic idx, 3)) (hac : eHas eAc (eOwn k) idx = false) (hq : eFind (eLs (eOwn k)) idx = some q) (hm : eMth q st = none) (hp : ePop (eNa.getD q 0) [] st = some (as, st')) (hw : Nat.ble (eWords st') 8 = true) (hle : Nat.ble (eArgs as).length (eMx.getD q 0) = true) (hc : ∀ z, Q = some z → eG o q 0 (eEnt q as) [] H (rv (V z) (G z))) (hpc : pc + 3 = pc') (hh : Q.bind f = some w) (g : ∀ z, f z = some w → eG o k pc' L ((V z).toList ++ st') (G z) r) : eG o k pc L st H r := by
  obtain ⟨z, h1, h2⟩ := zB_inv hh
  exact g_sta h hac hq hm hp hw hle (hc z h1) hpc (g z h2)
theorem s_tabv {d lo hi : Int} {offs : Array Int} {x : Int} (tgt : Nat) (h : eAt k pc = some (.tableswitch d lo hi offs, l)) (hr : -2147483648 ≤ x ∧ x < 2147483648) (ht : (if x < lo ∨ hi < x then eTgt pc d else eTgt pc (offs.toList.getD (x - lo).toNat d)) = tgt) (g : eG o k tgt L st H r) : eG o k pc L (.int (zI x) :: st) H r := by
  refine g_step h ?_ g
  show eLoc (eOwn k) (.tableswitch d lo hi offs) pc L (.int (zI x) :: st) H = _
  simp only [eLoc, zI_to hr.1 hr.2, ht]
end S1
