/-! the reference: sewing, counting -/
theorem canS_ts {F : Nat → Nat → Int32} {n np : Nat} {c : Int32} (hn : n ≤ 10) (h : canS F n np c = true) : ¬ tsI F n np c = -1 := by
  rw [← cQ_S hn] at h
  unfold cQ cQ cQ cQ at h
  simp only [Bool.and_eq_true, decide_eq_true_eq] at h
  exact h.1.1.1
theorem swF_eq (F : Nat → Nat → Int32) (g a b c d : Nat → Int32) : va_up (va_up (va_up (va_up (va_up F 6 g) 8 a) 9 b) 10 c) 11 d = va_up (va_up (va_up (va_up (va_up F 8 a) 9 b) 6 g) 11 d) 10 c := by
  funext j
  unfold va_up
  by_cases h1 : j = 11
  · simp [h1]
  · by_cases h2 : j = 10
    · simp [h2]
    · by_cases h3 : j = 9
      · simp [h3]
      · by_cases h4 : j = 8
        · simp [h4]
        · simp [h1, h2, h3, h4]
theorem pAt_y {F : Nat → Nat → Int32} {i : Nat} {v : Int32} (h : F 6 i = v) : pAt F (i + 1) v = pAt F i v + 1 := cn_t (beq_t h)
theorem pAt_n {F : Nat → Nat → Int32} {i : Nat} {v : Int32} (h : ¬ F 6 i = v) : pAt F (i + 1) v = pAt F i v := cn_f (beq_f h)
theorem cntw {F : Nat → Nat → Int32} {k : Nat} (h : F 12 k = 0 ∨ F 12 k = 1) : nI (pUse F k) + (nI 1 - mBook F (5 * k + 4)) = nI (pUse F (k + 1)) := by
  rw [show mBook F (5 * k + 4) = F 12 k from mBook_r (r := 4) (by decide)]
  rcases h with h | h
  · rw [h, show pUse F (k + 1) = pUse F k + 1 from cn_t (beq_t h)]
    exact nI_add _ 1
  · rw [h, show pUse F (k + 1) = pUse F k from cn_f (beq_f (by rw [h]; decide))]
    exact nI_add _ 0
