/-! what each call of the face answers: (0, answer), or (the number of its exception, 0) -/
theorem inR_in {j n : Nat} (hj : j < n) (hn : n < 2 ^ 31) : inR (nI j) n = true := by rw [inR_n (by omega) hn, decide_eq_true hj]
def cl (x : Int32) : Nat := x.toNatClampNeg
theorem cl_n {j : Nat} (h : j < 2 ^ 31) : cl (nI j) = j := nI_clamp h
def spCell (n : Nat) (F : Nat → Nat → Int32) (s x y : Int32) : Nat × Int32 := if (inR s n && (inR x 12 && inR y 8)) = true then (0, F (14 + cl s) (12 * cl y + cl x)) else (1, 0)
theorem spCell_y {n : Nat} {F : Nat → Nat → Int32} {s x y : Nat} (hn : n ≤ 10) (h1 : s < n) (h2 : x < 12) (h3 : y < 8) : spCell n F (nI s) (nI x) (nI y) = (0, F (14 + s) (12 * y + x)) := by
  unfold spCell
  rw [inR_in h1 (by omega), inR_in h2 (by omega), inR_in h3 (by omega), cl_n (by omega), cl_n (by omega), cl_n (by omega)]; rfl
def spSkin (n : Nat) (F : Nat → Nat → Int32) (s w : Int32) : Nat × Int32 := if (inR s n && inR w 6) = true then (0, skT F (cl s) (cl w)) else (1, 0)
theorem spSkin_y {n : Nat} {F : Nat → Nat → Int32} {s w : Nat} (hn : n ≤ 10) (h1 : s < n) (h2 : w < 6) : spSkin n F (nI s) (nI w) = (0, skT F s w) := by
  unfold spSkin
  rw [inR_in h1 (by omega), inR_in h2 (by omega), cl_n (by omega), cl_n (by omega)]; rfl
def spPlace (n : Nat) (F : Nat → Nat → Int32) (s k : Int32) (tb : Bool) : Nat × Int32 := if inR s n = true then (if inR k 4 = true then (0, fI (fitA (F (14 + cl s)) (cl k) tb) 0 (96 - 0)) else (2, 0)) else (1, 0)
theorem spPlace_y {n : Nat} {F : Nat → Nat → Int32} {s k : Nat} {tb : Bool} (hn : n ≤ 10) (h1 : s < n) (h2 : k < 4) : spPlace n F (nI s) (nI k) tb = (0, fI (fitA (F (14 + s)) k tb) 0 (96 - 0)) := by
  unfold spPlace
  rw [inR_in h1 (by omega), inR_in h2 (by omega), cl_n (by omega), cl_n (by omega)]; rfl
def spPiece (np : Nat) (F : Nat → Nat → Int32) (p w : Int32) : Nat × Int32 := if (inR p np && inR w 4) = true then (0, pcT F (cl p) (cl w)) else (1, 0)
theorem spPiece_y {np : Nat} {F : Nat → Nat → Int32} {p w : Nat} (hn : np ≤ 150) (h1 : p < np) (h2 : w < 4) : spPiece np F (nI p) (nI w) = (0, pcT F p w) := by
  unfold spPiece
  rw [inR_in h1 (by omega), inR_in h2 (by omega), cl_n (by omega), cl_n (by omega)]; rfl
def spPair (nq : Nat) (F : Nat → Nat → Int32) (p w : Int32) : Nat × Int32 := if (inR p nq && inR w 5) = true then (0, prT F (cl p) (cl w)) else (1, 0)
theorem spPair_y {nq : Nat} {F : Nat → Nat → Int32} {p w : Nat} (hn : nq ≤ 20) (h1 : p < nq) (h2 : w < 5) : spPair nq F (nI p) (nI w) = (0, prT F p w) := by
  unfold spPair
  rw [inR_in h1 (by omega), inR_in h2 (by omega), cl_n (by omega), cl_n (by omega)]; rfl
def spCount (n np nq : Nat) (F : Nat → Nat → Int32) (w : Int32) : Nat × Int32 := if inR w 7 = true then (0, cnT n np nq F (cl w)) else (1, 0)
theorem spCount_y {n np nq : Nat} {F : Nat → Nat → Int32} {w : Nat} (h2 : w < 7) : spCount n np nq F (nI w) = (0, cnT n np nq F w) := by
  unfold spCount
  rw [inR_in h2 (by omega), cl_n (by omega)]; rfl
def spLacks (n np : Nat) (F : Nat → Nat → Int32) (c k : Int32) : Nat × Int32 := if (inR c 6 && inR k 4) = true then (0, nI (lkN F n np c (cl k))) else (1, 0)
theorem spLacks_y {n np : Nat} {F : Nat → Nat → Int32} {c : Int32} {k : Nat} (h1 : inR c 6 = true) (h2 : k < 4) : spLacks n np F c (nI k) = (0, nI (lkN F n np c k)) := by
  unfold spLacks
  rw [h1, inR_in h2 (by omega), cl_n (by omega)]; rfl
def prN (F : Nat → Nat → Int32) (n np : Nat) (c : Int32) : Nat → Nat | 0 => tP F np c n | k + 1 => min (prN F n np c k) (fC F np c (nI (k + 1)) / kP (k + 1))
def spPairs (n np : Nat) (F : Nat → Nat → Int32) (c : Int32) : Nat × Int32 := if inR c 6 = true then (0, nI (prN F n np c 3)) else (1, 0)
theorem spPairs_y {n np : Nat} {F : Nat → Nat → Int32} {c : Int32} (h1 : inR c 6 = true) : spPairs n np F c = (0, nI (prN F n np c 3)) := by
  unfold spPairs
  rw [h1]; rfl
theorem prN_le (F : Nat → Nat → Int32) (n np : Nat) (c : Int32) : ∀ k, prN F n np c k ≤ np * n
  | 0 => tP_le F np c n
  | k + 1 => Nat.le_trans (Nat.min_le_left _ _) (prN_le F n np c k)
/-- k numbers of g more in a checksum -/
def dS (g : Nat → Int32) (d : Int64) : Nat → Int64 | 0 => d | k + 1 => dS g d k * 31 + (g k).toInt64
def dK (F : Nat → Nat → Int32) (d : Int64) : Nat → Int64 | 0 => d | s + 1 => dS (F (14 + s)) (dS (skT F s) (dK F d s) 6) 96
def dP (F : Nat → Nat → Int32) (d : Int64) : Nat → Int64 | 0 => d | p + 1 => dS (pcT F p) (dP F d p) 4
def dQ (F : Nat → Nat → Int32) (d : Int64) : Nat → Int64 | 0 => d | q + 1 => dS (prT F q) (dQ F d q) 5
def dG (n np nq : Nat) (F : Nat → Nat → Int32) : Int64 := dQ F (dP F (dK F (dS (cnT n np nq F) 1087 7) n) np) nq
