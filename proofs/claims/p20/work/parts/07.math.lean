/-! the sums and fills that both sides make -/
def cn (P : Nat → Bool) : Nat → Nat | 0 => 0 | k + 1 => cn P k + (if P k then 1 else 0)
theorem cn_s (P : Nat → Bool) (k : Nat) : cn P (k + 1) = cn P k + (if P k then 1 else 0) := rfl
theorem cn_t {P : Nat → Bool} {k : Nat} (h : P k = true) : cn P (k + 1) = cn P k + 1 := by rw [cn_s, h]; rfl
theorem cn_f {P : Nat → Bool} {k : Nat} (h : P k = false) : cn P (k + 1) = cn P k := by rw [cn_s, h]; rfl
theorem cn_le (P : Nat → Bool) : ∀ k, cn P k ≤ k
  | 0 => Nat.le_refl _
  | k + 1 => by
    have := cn_le P k
    rw [cn_s]
    split <;> omega
theorem cn_cong {P Q : Nat → Bool} : ∀ {k : Nat}, (∀ j, j < k → P j = Q j) → cn P k = cn Q k
  | 0, _ => rfl
  | k + 1, h => by rw [cn_s, cn_s, cn_cong (fun j hj => h j (by omega)), h k (by omega)]
/-- the place of the k-th cell of a part that is w wide, in rows of 12 -/
def pl (fr w k : Nat) : Nat := fr + (k / w * 12 + k % w)
def ctP (f : Nat → Int32) (fr w : Nat) (v : Int32) (k : Nat) : Bool := f (pl fr w k) == v
/-- how many cells of a part hold v -/
def ct (f : Nat → Int32) (fr w : Nat) (v : Int32) (k : Nat) : Nat := cn (ctP f fr w v) k
def fl (f : Nat → Int32) (fr w : Nat) (v : Int32) : Nat → Nat → Int32 | 0 => f | k + 1 => upd (fl f fr w v k) (pl fr w k) v
theorem ct_le (f : Nat → Int32) (fr w : Nat) (v : Int32) (k : Nat) : ct f fr w v k ≤ k := cn_le _ _
theorem pl_row {fr w r c : Nat} (hc : c < w) : pl fr w (w * r + c) = fr + (r * 12 + c) := by
  unfold pl
  rw [Nat.mul_add_div (by omega), Nat.mul_add_mod, Nat.div_eq_of_lt hc, Nat.mod_eq_of_lt hc, Nat.add_zero]
theorem ct_yes {f : Nat → Int32} {fr w : Nat} {v : Int32} {k q : Nat} (hq : pl fr w k = q) (h : f q = v) : ct f fr w v (k + 1) = ct f fr w v k + 1 := cn_t (by unfold ctP; rw [hq, h]; exact beq_self_eq_true v)
theorem ct_no {f : Nat → Int32} {fr w : Nat} {v : Int32} {k q : Nat} (hq : pl fr w k = q) (h : ¬ f q = v) : ct f fr w v (k + 1) = ct f fr w v k := cn_f (by unfold ctP; rw [hq]; exact beq_false_of_ne h)
