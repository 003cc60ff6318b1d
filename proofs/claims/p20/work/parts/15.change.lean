/-! the calls that change the state: what they answer, and the contents behind them -/
theorem uu {α : Type} (f : Nat → α) (k : Nat) (v w : α) : va_up (va_up f k v) k w = va_up f k w := by
  funext j
  unfold va_up
  split <;> rfl
theorem va_up_id {α : Type} (f : Nat → α) (k : Nat) : va_up f k (f k) = f := by
  funext j
  unfold va_up
  split
  · next h => rw [h]
  · rfl
def spLay (n : Nat) (c : Int32) : Nat × Int32 := if inR c 6 = true then (if n < 10 then (0, nI n) else (2, 0)) else (1, 0)
def layF (F : Nat → Nat → Int32) (n : Nat) (c : Int32) : Nat → Nat → Int32 := va_up F 1 (upd (F 1) n c)
/-- from 1 to k -/
def inW (x : Int32) (k : Nat) : Bool := decide (1 ≤ x) && decide (x ≤ nI k)
theorem inW_t {x : Int32} {n : Nat} (hn : n < 2 ^ 31) (h : inW x n = true) : ∃ j : Nat, (1 ≤ j ∧ j ≤ n) ∧ x = nI j := by
  unfold inW at h
  simp only [Bool.and_eq_true, decide_eq_true_eq] at h
  obtain ⟨j, hj, rfl⟩ := nI_of (x := x) (fun q => absurd (Int32.lt_of_lt_of_le q (show (0 : Int32) ≤ 1 by decide)) (Int32.not_lt.mpr h.1))
  exact ⟨j, ⟨(nI_leI (a := 1) (by decide) hj).mp h.1, (nI_leI hj hn).mp h.2⟩, rfl⟩
theorem inW_y {x : Int32} {k : Nat} (h1 : ¬ x < 1) (h2 : x ≤ nI k) : inW x k = true := by
  unfold inW
  rw [decide_eq_true (Int32.not_lt.mp h1), decide_eq_true h2]; rfl
theorem inW_lo {x : Int32} {k : Nat} (h1 : x < 1) : inW x k = false := by
  unfold inW
  rw [decide_eq_false (fun q => absurd h1 (Int32.not_lt.mpr q)), Bool.false_and]
theorem inW_hi {x : Int32} {k : Nat} (h2 : ¬ x ≤ nI k) : inW x k = false := by
  unfold inW
  rw [decide_eq_false h2, Bool.and_false]
theorem inW_n {j k : Nat} (h1 : 1 ≤ j) (hj : j ≤ k) (hk : k < 2 ^ 31) : inW (nI j) k = true := by
  unfold inW
  rw [decide_eq_true (show (1 : Int32) ≤ nI j from (nI_leI (a := 1) (by decide) (by omega)).mpr h1), decide_eq_true ((nI_leI (by omega) hk).mpr hj)]; rfl
theorem lt_suc {x : Int32} {k : Nat} (hk : k + 1 < 2 ^ 31) : x < nI (k + 1) ↔ x ≤ nI k := by
  rw [Int32.lt_iff_toInt_lt, Int32.le_iff_toInt_le, nI_toInt hk, nI_toInt (by omega)]
  omega
def mkF (F : Nat → Nat → Int32) (s fr w h : Nat) (v : Int32) : Nat → Nat → Int32 := va_up F (14 + s) (fl (F (14 + s)) fr w v (w * h))
def spMark (n : Nat) (F : Nat → Nat → Int32) (s x y w h v : Int32) : Nat × Int32 :=
  if (inR s n && (inR x 12 && inR y 8)) = true then
    (if (inW w (12 - cl x) && (inW h (8 - cl y) && inR v 3)) = true then
      (if ct (F (14 + cl s)) (12 * cl y + cl x) (cl w) (nI 3) (cl w * cl h) = 0 then (0, nI (cl w * cl h - ct (F (14 + cl s)) (12 * cl y + cl x) (cl w) v (cl w * cl h))) else (3, 0)) else (2, 0)) else (1, 0)
def stMark (F : Nat → Nat → Int32) (s x y w h v : Int32) : Nat → Nat → Int32 := mkF F (cl s) (12 * cl y + cl x) (cl w) (cl h) v
theorem stMark_n {F : Nat → Nat → Int32} {s x y w h : Nat} {v : Int32} (hs : s < 10) (hx : x < 12) (hy : y < 8) (hw : w ≤ 12) (hh : h ≤ 8) : stMark F (nI s) (nI x) (nI y) (nI w) (nI h) v = mkF F s (12 * y + x) w h v := by
  unfold stMark
  rw [cl_n (by omega), cl_n (by omega), cl_n (by omega), cl_n (by omega), cl_n (by omega)]
theorem spMark_1 {n : Nat} {F : Nat → Nat → Int32} {s x y w h : Nat} {v : Int32} (hn : n ≤ 10) (h1 : s < n) (h2 : x < 12) (h3 : y < 8) (hw : 1 ≤ w ∧ w ≤ 12 - x) (hh : 1 ≤ h ∧ h ≤ 8 - y) (hv : inR v 3 = true) : spMark n F (nI s) (nI x) (nI y) (nI w) (nI h) v = if ct (F (14 + s)) (12 * y + x) w (nI 3) (w * h) = 0 then (0, nI (w * h - ct (F (14 + s)) (12 * y + x) w v (w * h))) else (3, 0) := by
  unfold spMark
  rw [cl_n (j := x) (by omega), cl_n (j := y) (by omega), inR_in h1 (by omega), inR_in h2 (by omega), inR_in h3 (by omega), inW_n hw.1 hw.2 (by omega), inW_n hh.1 hh.2 (by omega), hv, cl_n (by omega), cl_n (by omega), cl_n (by omega)]; rfl
theorem spMark_2 {n : Nat} {F : Nat → Nat → Int32} {s x y : Nat} {w h v : Int32} (hn : n ≤ 10) (h1 : s < n) (h2 : x < 12) (h3 : y < 8) (hq : (inW w (12 - x) && (inW h (8 - y) && inR v 3)) = false) : spMark n F (nI s) (nI x) (nI y) w h v = (2, 0) := by
  unfold spMark
  rw [cl_n (j := x) (by omega), cl_n (j := y) (by omega), inR_in h1 (by omega), inR_in h2 (by omega), inR_in h3 (by omega), hq]; rfl
-- rip
def rp (G : Nat → Int32) (q : Int32) (g : Nat → Int32) : Nat → Nat → Int32 | 0 => g | k + 1 => if rp G q g k k == q then upd (rp G q g k) k (if G k == 2 then -2 else -1) else rp G q g k
def rpc (G : Nat → Int32) (q : Int32) (g : Nat → Int32) : Nat → Nat | 0 => 0 | k + 1 => if rp G q g k k == q then (if G k == 2 then rpc G q g k else rpc G q g k + 1) else rpc G q g k
theorem rp_n {G : Nat → Int32} {q : Int32} {g : Nat → Int32} {k : Nat} (h : ¬ rp G q g k k = q) : rp G q g (k + 1) = rp G q g k ∧ rpc G q g (k + 1) = rpc G q g k := by
  rw [rp, rpc, beq_f h]; exact ⟨rfl, rfl⟩
theorem rp_l {G : Nat → Int32} {q : Int32} {g : Nat → Int32} {k : Nat} (h : rp G q g k k = q) (h2 : G k = 2) : rp G q g (k + 1) = upd (rp G q g k) k (-2) ∧ rpc G q g (k + 1) = rpc G q g k := by
  rw [rp, rpc, beq_t h, beq_t h2]; exact ⟨rfl, rfl⟩
theorem rp_f {G : Nat → Int32} {q : Int32} {g : Nat → Int32} {k : Nat} (h : rp G q g k k = q) (h2 : ¬ G k = 2) : rp G q g (k + 1) = upd (rp G q g k) k (-1) ∧ rpc G q g (k + 1) = rpc G q g k + 1 := by
  rw [rp, rpc, beq_t h, beq_f h2]; exact ⟨rfl, rfl⟩
def ripF (F : Nat → Nat → Int32) (np q : Nat) : Nat → Nat → Int32 := va_up (va_up F 12 (upd (F 12) q (nI 1))) 6 (rp (F 5) (nI q) (F 6) np)
def spRip (np nq : Nat) (F : Nat → Nat → Int32) (q : Int32) : Nat × Int32 := if inR q nq = true then (if F 12 (cl q) == 0 then (0, nI (rpc (F 5) q (F 6) np)) else (2, 0)) else (1, 0)
theorem spRip_1 {np nq : Nat} {F : Nat → Nat → Int32} {q : Nat} (hn : nq ≤ 20) (h1 : q < nq) : spRip np nq F (nI q) = if F 12 q == 0 then (0, nI (rpc (F 5) (nI q) (F 6) np)) else (2, 0) := by
  unfold spRip
  rw [inR_in h1 (by omega), cl_n (by omega)]; rfl
-- cut
def cutF (F : Nat → Nat → Int32) (np s k : Nat) (tb : Bool) (fr : Nat) : Nat → Nat → Int32 :=
  va_up (va_up (va_up (va_up (va_up (va_up F 4 (upd (F 4) np (nI s))) 5 (upd (F 5) np (nI k))) 6 (upd (F 6) np (-1))) 7 (upd (F 7) np (nI (ct (F (14 + s)) fr (wd k tb) (nI 1) (wd k tb * hg k tb))))) (14 + s) (fl (F (14 + s)) fr (wd k tb) (nI 3) (wd k tb * hg k tb))) 2 (upd (F 2) s (F 2 s + nI 1))
def spCut (n np : Nat) (F : Nat → Nat → Int32) (s k : Int32) (tb : Bool) (x y : Int32) : Nat × Int32 :=
  if (inR s n && (inR x 12 && inR y 8)) = true then (if inR k 4 = true then (if (fitB (F (14 + cl s)) (cl k) tb (cl x) (cl y) && decide (np < 150)) = true then (0, nI np) else (3, 0)) else (2, 0)) else (1, 0)
theorem spCut_1 {n np : Nat} {F : Nat → Nat → Int32} {s k x y : Nat} {tb : Bool} (hn : n ≤ 10) (h1 : s < n) (h2 : x < 12) (h3 : y < 8) (h4 : k < 4) : spCut n np F (nI s) (nI k) tb (nI x) (nI y) = if (fitB (F (14 + s)) k tb x y && decide (np < 150)) = true then (0, nI np) else (3, 0) := by
  unfold spCut
  rw [inR_in h1 (by omega), inR_in h2 (by omega), inR_in h3 (by omega), inR_in h4 (by omega), cl_n (by omega), cl_n (by omega), cl_n (by omega), cl_n (by omega)]; rfl
def stCut (F : Nat → Nat → Int32) (np : Nat) (s k : Int32) (tb : Bool) (x y : Int32) : Nat → Nat → Int32 := cutF F np (cl s) (cl k) tb (12 * cl y + cl x)
theorem stCut_n {F : Nat → Nat → Int32} {np s k x y : Nat} {tb : Bool} (hs : s < 10) (hx : x < 12) (hy : y < 8) (hk : k < 4) : stCut F np (nI s) (nI k) tb (nI x) (nI y) = cutF F np s k tb (12 * y + x) := by
  unfold stCut
  rw [cl_n (by omega), cl_n (by omega), cl_n (by omega), cl_n (by omega)]
