/-! what both sides tell, as functions of the state: n skins, np pieces, nq pairs, contents F -/
theorem beq_t {x y : Int32} (h : x = y) : (x == y) = true := by rw [h]; exact beq_self_eq_true y
theorem beq_f {x y : Int32} (h : ¬ x = y) : (x == y) = false := beq_false_of_ne h
def tS (F : Nat → Nat → Int32) (s : Nat) (v : Int32) : Nat := ct (F (14 + s)) 0 12 v 96
theorem tS_le (F : Nat → Nat → Int32) (s : Nat) (v : Int32) : tS F s v ≤ 96 := ct_le _ _ _ _ _
def skT (F : Nat → Nat → Int32) (s w : Nat) : Int32 := if w = 0 then F 1 s else if w = 1 then nI (tS F s (nI 0)) else if w = 2 then nI (tS F s (nI 1)) else if w = 3 then nI (tS F s (nI 2)) else if w = 4 then nI (tS F s (nI 3)) else F 2 s
def pcT (F : Nat → Nat → Int32) (p w : Nat) : Int32 := F (4 + w) p
def prT (F : Nat → Nat → Int32) (q w : Nat) : Int32 := F (8 + w) q
def pAt (F : Nat → Nat → Int32) (np : Nat) (v : Int32) : Nat := cn (fun p => F 6 p == v) np
def pUse (F : Nat → Nat → Int32) (nq : Nat) : Nat := cn (fun q => F 12 q == 0) nq
theorem pAt_le (F : Nat → Nat → Int32) (np : Nat) (v : Int32) : pAt F np v ≤ np := cn_le _ _
theorem pUse_le (F : Nat → Nat → Int32) (nq : Nat) : pUse F nq ≤ nq := cn_le _ _
theorem pAt_2 (F : Nat → Nat → Int32) : ∀ np : Nat, pAt F np (-1) + pAt F np (-2) ≤ np
  | 0 => Nat.le_refl _
  | k + 1 => by
    have h := pAt_2 F k
    unfold pAt at h ⊢
    rw [cn_s, cn_s]
    by_cases h1 : F 6 k = -1
    · rw [beq_t h1, beq_f (show ¬ F 6 k = -2 by rw [h1]; decide)]
      show _ + 1 + (_ + 0) ≤ _
      omega
    · rw [beq_f h1]
      show _ + 0 + (_ + _) ≤ _
      split <;> omega
def cnT (n np nq : Nat) (F : Nat → Nat → Int32) (w : Nat) : Int32 := if w = 0 then nI n else if w = 1 then nI np else if w = 2 then nI (pAt F np (-1)) else if w = 3 then nI (np - pAt F np (-1) - pAt F np (-2)) else if w = 4 then nI (pAt F np (-2)) else if w = 5 then nI nq else nI (pUse F nq)
def wd (kd : Nat) (tb : Bool) : Nat := if tb = true then kH kd else kW kd
def hg (kd : Nat) (tb : Bool) : Nat := if tb = true then kW kd else kH kd
theorem wd_le (kd : Nat) (tb : Bool) : wd kd tb ≤ 4 ∧ 1 ≤ wd kd tb := by
  have h1 := kW_le kd
  have h2 := kH_le kd
  unfold wd
  split <;> omega
theorem hg_le (kd : Nat) (tb : Bool) : hg kd tb ≤ 4 ∧ 1 ≤ hg kd tb := by
  have h1 := kW_le kd
  have h2 := kH_le kd
  unfold hg
  split <;> omega
/-- whether a piece can be cut at x, y of a skin whose cells are f -/
def fitB (f : Nat → Int32) (kd : Nat) (tb : Bool) (x y : Nat) : Bool := decide (x + wd kd tb ≤ 12) && (decide (y + hg kd tb ≤ 8) && (decide (ct f (12 * y + x) (wd kd tb) (nI 2) (wd kd tb * hg kd tb) = 0) && (decide (ct f (12 * y + x) (wd kd tb) (nI 3) (wd kd tb * hg kd tb) = 0) && decide (ct f (12 * y + x) (wd kd tb) (nI 1) (wd kd tb * hg kd tb) ≤ kT kd))))
def fitA (f : Nat → Int32) (kd : Nat) (tb : Bool) (k : Nat) : Bool := fitB f kd tb (k % 12) (k / 12)
/-- the first of k numbers from i on that has P, or -1 -/
def fI (P : Nat → Bool) : Nat → Nat → Int32 | _, 0 => -1 | i, k + 1 => if P i then nI i else fI P (i + 1) k
theorem fI_y {P : Nat → Bool} {i n : Nat} (hi : i < n) (h : P i = true) : fI P i (n - i) = nI i := by
  obtain ⟨k, hk⟩ : ∃ k, n - i = k + 1 := ⟨n - i - 1, by omega⟩
  rw [hk, fI, if_pos h]
theorem fI_n {P : Nat → Bool} {i n : Nat} (hi : i < n) (h : P i = false) : fI P i (n - i) = fI P (i + 1) (n - (i + 1)) := by
  obtain ⟨k, hk⟩ : ∃ k, n - i = k + 1 := ⟨n - i - 1, by omega⟩
  rw [hk, fI, if_neg (by rw [h]; decide), show n - (i + 1) = k by omega]
theorem fI_e {P : Nat → Bool} {i n : Nat} (h : i = n) : fI P i (n - i) = -1 := by
  subst h
  rw [Nat.sub_self]; rfl
theorem fI_spec (P : Nat → Bool) : ∀ (k i : Nat), (fI P i k = -1 ∧ ∀ j, i ≤ j → j < i + k → P j = false) ∨ ∃ j, i ≤ j ∧ j < i + k ∧ fI P i k = nI j ∧ P j = true ∧ ∀ m, i ≤ m → m < j → P m = false
  | 0, i => Or.inl ⟨rfl, fun j h1 h2 => by omega⟩
  | k + 1, i => by
    rw [fI]
    by_cases h : P i = true
    · rw [if_pos h]
      exact Or.inr ⟨i, Nat.le_refl _, by omega, rfl, h, fun m h1 h2 => by omega⟩
    · rw [if_neg h]
      have hf : P i = false := by cases hq : P i; rfl; exact absurd hq h
      rcases fI_spec P k (i + 1) with ⟨h1, h2⟩ | ⟨j, h1, h2, h3, h4, h5⟩
      · exact Or.inl ⟨h1, fun j a b => by
          rcases Nat.eq_or_lt_of_le a with q | q
          · rw [← q]; exact hf
          · exact h2 j q (by omega)⟩
      · exact Or.inr ⟨j, by omega, by omega, h3, h4, fun m a b => by
          rcases Nat.eq_or_lt_of_le a with q | q
          · rw [← q]; exact hf
          · exact h5 m q b⟩
/-- whether piece p is free, of this kind, from a skin of this colour -/
def isF (F : Nat → Nat → Int32) (c kd : Int32) (p : Nat) : Bool := F 6 p == -1 && (F 5 p == kd && F 1 (F 4 p).toNatClampNeg == c)
def fC (F : Nat → Nat → Int32) (np : Nat) (c kd : Int32) : Nat := cn (isF F c kd) np
def isT (F : Nat → Nat → Int32) (s p : Nat) : Bool := F 6 p == -1 && (F 5 p == 0 && F 4 p == nI s)
def fT (F : Nat → Nat → Int32) (np s : Nat) : Nat := cn (isT F s) np
theorem fC_le (F : Nat → Nat → Int32) (np : Nat) (c kd : Int32) : fC F np c kd ≤ np := cn_le _ _
theorem fT_le (F : Nat → Nat → Int32) (np s : Nat) : fT F np s ≤ np := cn_le _ _
theorem isF_t {F : Nat → Nat → Int32} {c kd : Int32} {p k : Nat} (h1 : F 6 p = -1) (h2 : F 5 p = kd) (e : F 4 p = nI k) (hk : k < 2 ^ 31) (h3 : F 1 k = c) : isF F c kd p = true := by
  unfold isF
  rw [e, nI_clamp hk, beq_t h1, beq_t h2, beq_t h3]; rfl
theorem isF_1 {F : Nat → Nat → Int32} {c kd : Int32} {p : Nat} (h1 : ¬ F 6 p = -1) : isF F c kd p = false := by
  unfold isF
  rw [beq_f h1]; rfl
theorem isF_2 {F : Nat → Nat → Int32} {c kd : Int32} {p : Nat} (h1 : ¬ F 5 p = kd) : isF F c kd p = false := by
  unfold isF
  rw [beq_f h1, Bool.false_and, Bool.and_false]
theorem isF_3 {F : Nat → Nat → Int32} {c kd : Int32} {p k : Nat} (e : F 4 p = nI k) (hk : k < 2 ^ 31) (h3 : ¬ F 1 k = c) : isF F c kd p = false := by
  unfold isF
  rw [e, nI_clamp hk, beq_f h3, Bool.and_false, Bool.and_false]
theorem isT_t {F : Nat → Nat → Int32} {s p : Nat} (h1 : F 6 p = -1) (h2 : F 5 p = 0) (h3 : F 4 p = nI s) : isT F s p = true := by
  unfold isT
  rw [beq_t h1, beq_t h2, beq_t h3]; rfl
theorem isT_1 {F : Nat → Nat → Int32} {s p : Nat} (h1 : ¬ F 6 p = -1) : isT F s p = false := by
  unfold isT
  rw [beq_f h1]; rfl
theorem isT_2 {F : Nat → Nat → Int32} {s p : Nat} (h1 : ¬ F 5 p = 0) : isT F s p = false := by
  unfold isT
  rw [beq_f h1, Bool.false_and, Bool.and_false]
theorem isT_3 {F : Nat → Nat → Int32} {s p : Nat} (h1 : ¬ F 4 p = nI s) : isT F s p = false := by
  unfold isT
  rw [beq_f h1, Bool.and_false, Bool.and_false]
/-- the most free tranks of one skin of a colour, among the first s skins -/
def mxT (F : Nat → Nat → Int32) (np : Nat) (c : Int32) : Nat → Nat | 0 => 0 | s + 1 => if F 1 s == c then max (mxT F np c s) (fT F np s) else mxT F np c s
theorem mxT_t {F : Nat → Nat → Int32} {np s : Nat} {c : Int32} (h : F 1 s = c) : mxT F np c (s + 1) = max (mxT F np c s) (fT F np s) := by rw [mxT, beq_t h]; rfl
theorem mxT_f {F : Nat → Nat → Int32} {np s : Nat} {c : Int32} (h : ¬ F 1 s = c) : mxT F np c (s + 1) = mxT F np c s := by rw [mxT, beq_f h]; rfl
theorem mxT_le (F : Nat → Nat → Int32) (np : Nat) (c : Int32) : ∀ s, mxT F np c s ≤ np
  | 0 => Nat.zero_le _
  | s + 1 => by
    have h1 := mxT_le F np c s
    have h2 := fT_le F np s
    rw [mxT]
    split
    · exact Nat.max_le.mpr ⟨h1, h2⟩
    · exact h1
/-- how many pairs the tranks of a colour allow -/
def tP (F : Nat → Nat → Int32) (np : Nat) (c : Int32) : Nat → Nat | 0 => 0 | s + 1 => if F 1 s == c then tP F np c s + fT F np s / 2 else tP F np c s
theorem tP_t {F : Nat → Nat → Int32} {np s : Nat} {c : Int32} (h : F 1 s = c) : tP F np c (s + 1) = tP F np c s + fT F np s / 2 := by rw [tP, beq_t h]; rfl
theorem tP_f {F : Nat → Nat → Int32} {np s : Nat} {c : Int32} (h : ¬ F 1 s = c) : tP F np c (s + 1) = tP F np c s := by rw [tP, beq_f h]; rfl
theorem tP_le (F : Nat → Nat → Int32) (np : Nat) (c : Int32) : ∀ s, tP F np c s ≤ np * s
  | 0 => Nat.zero_le _
  | s + 1 => by
    have h1 := tP_le F np c s
    have h2 := fT_le F np s
    rw [tP, Nat.mul_succ]
    split <;> omega
def lkN (F : Nat → Nat → Int32) (n np : Nat) (c : Int32) (kd : Nat) : Nat := kP kd - (if kd = 0 then mxT F np c n else fC F np c (nI kd))
theorem lkN_le (F : Nat → Nat → Int32) (n np : Nat) (c : Int32) (kd : Nat) : lkN F n np c kd ≤ 6 := Nat.le_trans (Nat.sub_le _ _) (kP_le kd).1
def tsB (F : Nat → Nat → Int32) (np : Nat) (c : Int32) (s : Nat) : Bool := F 1 s == c && decide (2 ≤ fT F np s)
theorem tsB_t {F : Nat → Nat → Int32} {np s : Nat} {c : Int32} (h : F 1 s = c) (h2 : 2 ≤ fT F np s) : tsB F np c s = true := by unfold tsB; rw [beq_t h, decide_eq_true h2]; rfl
theorem tsB_1 {F : Nat → Nat → Int32} {np s : Nat} {c : Int32} (h : ¬ F 1 s = c) : tsB F np c s = false := by unfold tsB; rw [beq_f h]; rfl
theorem tsB_2 {F : Nat → Nat → Int32} {np s : Nat} {c : Int32} (h2 : ¬ 2 ≤ fT F np s) : tsB F np c s = false := by unfold tsB; rw [decide_eq_false h2, Bool.and_false]
theorem max0_sub {a b : Nat} (ha : a < 2 ^ 30) (hb : b < 2 ^ 30) : (if nI 0 < nI a - nI b then nI a - nI b else nI 0) = nI (a - b) := by
  have h := pk_sub_toInt ha hb
  by_cases q : b < a
  · rw [pk_sub (Nat.le_of_lt q), if_pos (nI_lt (by omega) (by omega))]
  · rw [if_neg (fun z => ?_), show a - b = 0 by omega]
    have z2 : (nI 0).toInt < (nI a - nI b).toInt := Int32.lt_iff_toInt_lt.mp z
    rw [h, nI_toInt (by decide)] at z2
    omega
