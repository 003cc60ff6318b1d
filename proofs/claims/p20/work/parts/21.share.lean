/-! the share -/
def shC (F : Nat → Nat → Int32) : Nat → Nat | 0 => 0 | s + 1 => shC F s + tS F s (nI 3)
def shA (F : Nat → Nat → Int32) : Nat → Nat | 0 => 0 | s + 1 => shA F s + (96 - tS F s (nI 2))
def shV (F : Nat → Nat → Int32) (n : Nat) : UInt64 := if shA F n = 0 then 0 else FP.ddiv (FP.i2d (nI (shC F n))) (FP.i2d (nI (shA F n)))
theorem al_refl (x : UInt64) : alike64 x x = true := by
  unfold alike64
  rw [decide_eq_true rfl]; rfl
