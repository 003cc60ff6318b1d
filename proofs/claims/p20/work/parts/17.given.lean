/-! what a skin gives -/
theorem pl_lt {x y w h k : Nat} (hx : x + w ≤ 12) (hk : k < w * h) : pl (12 * y + x) w k < 12 * (y + h) := by
  have hw : 0 < w := Nat.pos_of_ne_zero (fun q => by rw [q, Nat.zero_mul] at hk; exact absurd hk (Nat.not_lt_zero _))
  have h1 : k / w < h := Nat.div_lt_of_lt_mul hk
  have h2 : k % w < w := Nat.mod_lt _ hw
  unfold pl
  omega
theorem ct_cong {f f' : Nat → Int32} {fr fr' w : Nat} {v : Int32} {K : Nat} (h : ∀ k, k < K → f (pl fr w k) = f' (pl fr' w k)) : ct f fr w v K = ct f' fr' w v K := cn_cong (fun k hk => by unfold ctP; rw [h k hk])
theorem fitB_cong {f f' : Nat → Int32} {k : Nat} {tb : Bool} {x y : Nat} (h : ∀ q, q < 96 → f q = f' q) : fitB f k tb x y = fitB f' k tb x y := by
  unfold fitB
  by_cases h1 : x + wd k tb ≤ 12
  · by_cases h2 : y + hg k tb ≤ 8
    · have e : ∀ v, ct f (12 * y + x) (wd k tb) v (wd k tb * hg k tb) = ct f' (12 * y + x) (wd k tb) v (wd k tb * hg k tb) := fun v => ct_cong (fun j hj => h _ (Nat.lt_of_lt_of_le (pl_lt h1 hj) (by omega)))
      rw [e, e, e]
    · rw [decide_eq_false h2]; rfl
  · rw [decide_eq_false h1]; rfl
theorem fitA_cong {f f' : Nat → Int32} {k : Nat} {tb : Bool} (h : ∀ q, q < 96 → f q = f' q) (m : Nat) : fitA f k tb m = fitA f' k tb m := fitB_cong h
theorem fI_cong {P Q : Nat → Bool} (h : ∀ m, P m = Q m) (i k : Nat) : fI P i k = fI Q i k := by rw [show P = Q from funext h]
theorem fl_cong {f f' : Nat → Int32} {fr w : Nat} {v : Int32} (h : ∀ q, q < 96 → f q = f' q) : ∀ K q, q < 96 → fl f fr w v K q = fl f' fr w v K q
  | 0, q, hq => h q hq
  | K + 1, q, hq => by
    show upd _ _ _ q = upd _ _ _ q
    unfold upd
    rw [fl_cong h K q hq]
theorem fl_in (f : Nat → Int32) (fr w : Nat) (v : Int32) : ∀ K j, j < K → fl f fr w v K (pl fr w j) = v
  | 0, j, h => absurd h (Nat.not_lt_zero j)
  | K + 1, j, h => by
    show (if pl fr w j = pl fr w K then v else fl f fr w v K (pl fr w j)) = v
    by_cases e : pl fr w j = pl fr w K
    · rw [if_pos e]
    · rw [if_neg e]
      have hj : j < K := by
        rcases Nat.lt_or_ge j K with q | q
        · exact q
        · exact absurd (by rw [show j = K by omega]) e
      exact fl_in f fr w v K j hj
theorem fl_or (f : Nat → Int32) (fr w : Nat) (v : Int32) : ∀ K q, fl f fr w v K q = f q ∨ fl f fr w v K q = v
  | 0, q => Or.inl rfl
  | K + 1, q => by
    show (if q = pl fr w K then v else fl f fr w v K q) = f q ∨ (if q = pl fr w K then v else fl f fr w v K q) = v
    by_cases e : q = pl fr w K
    · rw [if_pos e]; exact Or.inr rfl
    · rw [if_neg e]; exact fl_or f fr w v K q
theorem cn_0 {P : Nat → Bool} : ∀ {k : Nat}, cn P k = 0 → ∀ j, j < k → P j = false
  | 0, _, j, h => absurd h (Nat.not_lt_zero j)
  | k + 1, h, j, hj => by
    rw [cn_s] at h
    have h1 : cn P k = 0 := by omega
    rcases Nat.lt_or_ge j k with q | q
    · exact cn_0 h1 j q
    · have e : j = k := by omega
      subst e
      cases hq : P j
      · rfl
      · rw [hq] at h
        simp at h
theorem ct_0 {f : Nat → Int32} {fr w : Nat} {v : Int32} {K : Nat} (h : ct f fr w v K = 0) : ∀ j, j < K → ¬ f (pl fr w j) = v := fun j hj q => by
  have h2 := cn_0 h j hj
  unfold ctP at h2
  rw [q, beq_self_eq_true] at h2
  cases h2
/-- a cut opens no place -/
theorem fit_mono {f f' : Nat → Int32} {k : Nat} {tb : Bool} {x y : Nat} (h : ∀ q, f' q = f q ∨ f' q = nI 3) (hf : fitB f' k tb x y = true) : fitB f k tb x y = true := by
  unfold fitB at hf ⊢
  simp only [Bool.and_eq_true, decide_eq_true_eq] at hf ⊢
  obtain ⟨h1, h2, h3, h4, h5⟩ := hf
  have e : ∀ v, ct f (12 * y + x) (wd k tb) v (wd k tb * hg k tb) = ct f' (12 * y + x) (wd k tb) v (wd k tb * hg k tb) := fun v => ct_cong (fun j hj => by
    rcases h (pl (12 * y + x) (wd k tb) j) with q | q
    · exact q.symm
    · exact absurd q (ct_0 h4 j hj))
  exact ⟨h1, h2, by rw [e]; exact h3, by rw [e]; exact h4, by rw [e]; exact h5⟩
/-- the cells behind the cutting of one piece at a place -/
def gvF (f : Nat → Int32) (k : Nat) (tb : Bool) (at' : Nat) : Nat → Int32 := fl f at' (wd k tb) (nI 3) (wd k tb * hg k tb)
theorem gv_no {f : Nat → Int32} {k : Nat} {tb : Bool} {a : Nat} (h : ∀ m, m < a → fitA f k tb m = false) : ∀ m, m < a + 1 → fitA (gvF f k tb a) k tb m = false := by
  intro m hm
  cases hq : fitA (gvF f k tb a) k tb m
  · rfl
  · exfalso
    rcases Nat.lt_or_ge m a with q | q
    · have := fit_mono (f := f) (f' := gvF f k tb a) (fun z => fl_or _ _ _ _ _ z) hq
      have h2 := h m q
      unfold fitA at h2
      rw [this] at h2
      cases h2
    · have e : m = a := by omega
      subst e
      unfold fitA fitB at hq
      simp only [Bool.and_eq_true, decide_eq_true_eq] at hq
      have h4 := hq.2.2.2.1
      have hw := wd_le k tb
      have hh := hg_le k tb
      have h0 : 0 < wd k tb * hg k tb := Nat.mul_pos (by omega) (by omega)
      rw [Nat.div_add_mod] at h4
      exact ct_0 h4 0 h0 (fl_in f m (wd k tb) (nI 3) _ 0 h0)
/-- the first of k numbers from i on that has P, or i + k -/
def fN (P : Nat → Bool) : Nat → Nat → Nat | i, 0 => i | i, k + 1 => if P i then i else fN P (i + 1) k
theorem fN_fI (P : Nat → Bool) : ∀ k i : Nat, (fN P i k < i + k ∧ fI P i k = nI (fN P i k) ∧ P (fN P i k) = true ∧ ∀ m, i ≤ m → m < fN P i k → P m = false) ∨ (fN P i k = i + k ∧ fI P i k = -1 ∧ ∀ m, i ≤ m → m < i + k → P m = false)
  | 0, i => Or.inr ⟨rfl, rfl, fun m a b => by omega⟩
  | k + 1, i => by
    rw [fN, fI]
    by_cases h : P i = true
    · rw [if_pos h, if_pos h]
      exact Or.inl ⟨by omega, rfl, h, fun m a b => by omega⟩
    · rw [if_neg h, if_neg h]
      have hf : P i = false := by cases hq : P i; rfl; exact absurd hq h
      rcases fN_fI P k (i + 1) with ⟨a, b, c, d⟩ | ⟨a, b, c⟩
      · exact Or.inl ⟨by omega, b, c, fun m p q => by
          rcases Nat.eq_or_lt_of_le p with z | z
          · rw [← z]; exact hf
          · exact d m z q⟩
      · exact Or.inr ⟨by omega, b, fun m p q => by
          rcases Nat.eq_or_lt_of_le p with z | z
          · rw [← z]; exact hf
          · exact c m z (by omega)⟩
theorem fI_skip {P : Nat → Bool} {n : Nat} : ∀ {i : Nat}, i ≤ n → (∀ m, m < i → P m = false) → fI P 0 (n - 0) = fI P i (n - i)
  | 0, _, _ => rfl
  | i + 1, h, hm => (fI_skip (by omega) (fun m q => hm m (by omega))).trans (fI_n (by omega) (hm i (by omega)))
/-- how many pieces can be cut one after the other, at most u -/
def gvN (f : Nat → Int32) (k : Nat) (tb : Bool) : Nat → Nat | 0 => 0 | u + 1 => if fN (fitA f k tb) 0 96 < 96 then gvN (gvF f k tb (fN (fitA f k tb) 0 96)) k tb u + 1 else 0
termination_by u => u
theorem gvN_s (f : Nat → Int32) (k : Nat) (tb : Bool) (u : Nat) : gvN f k tb (u + 1) = if fN (fitA f k tb) 0 96 < 96 then gvN (gvF f k tb (fN (fitA f k tb) 0 96)) k tb u + 1 else 0 := by rw [gvN]
theorem gvN_y {f : Nat → Int32} {k : Nat} {tb : Bool} {a u : Nat} (ha : a < 96) (h : fI (fitA f k tb) 0 (96 - 0) = nI a) : gvN f k tb (u + 1) = gvN (gvF f k tb a) k tb u + 1 := by
  rcases fN_fI (fitA f k tb) 96 0 with ⟨p, q, -, -⟩ | ⟨p, q, -⟩
  · have e : fN (fitA f k tb) 0 96 = a := (nI_eq (by omega) (by omega)).mp (q.symm.trans h)
    rw [gvN_s, e, if_pos ha]
  · exact absurd (h.symm.trans q) (fun z => absurd (show (0 : Int32) ≤ -1 by rw [← z]; exact nI_pos' (by omega)) (by decide))
theorem gvN_n {f : Nat → Int32} {k : Nat} {tb : Bool} {u : Nat} (h : fI (fitA f k tb) 0 (96 - 0) = -1) : gvN f k tb u = 0 := by
  cases u with
  | zero => rw [gvN]
  | succ u =>
    rcases fN_fI (fitA f k tb) 96 0 with ⟨p, q, -, -⟩ | ⟨p, q, -⟩
    · exact absurd (q.symm.trans h) (fun z => absurd (show (0 : Int32) ≤ -1 by rw [← z]; exact nI_pos' (by omega)) (by decide))
    · rw [gvN_s, p, if_neg (by omega)]
theorem gvN_cong {k : Nat} {tb : Bool} : ∀ (u : Nat) {f f' : Nat → Int32}, (∀ q, q < 96 → f q = f' q) → gvN f k tb u = gvN f' k tb u
  | 0, f, f', _ => by rw [gvN, gvN]
  | u + 1, f, f', h => by
    have e : fitA f k tb = fitA f' k tb := funext (fitA_cong h)
    rw [gvN_s, gvN_s, e]
    split
    · rw [gvN_cong u (f := gvF f k tb _) (f' := gvF f' k tb _) (fun q hq => fl_cong h _ q hq)]
    · rfl
/-- what fI answers: a place, or -1 -/
theorem fI_cases (f : Nat → Int32) (k : Nat) (tb : Bool) : (∃ a, a < 96 ∧ fI (fitA f k tb) 0 (96 - 0) = nI a ∧ fitA f k tb a = true ∧ ∀ m, m < a → fitA f k tb m = false) ∨ (fI (fitA f k tb) 0 (96 - 0) = -1 ∧ ∀ m, m < 96 → fitA f k tb m = false) := by
  rcases fI_spec (fitA f k tb) (96 - 0) 0 with ⟨p, q⟩ | ⟨j, h1, h2, h3, h4, h5⟩
  · exact Or.inr ⟨p, fun m hm => q m (Nat.zero_le m) (by omega)⟩
  · exact Or.inl ⟨j, by omega, h3, h4, fun m hm => h5 m (Nat.zero_le m) hm⟩
def gvT (F : Nat → Nat → Int32) (k : Nat) (tb : Bool) (s : Nat) : Nat := gvN (F (14 + s)) k tb 97
theorem gvN_le (k : Nat) (tb : Bool) : ∀ (u : Nat) (f : Nat → Int32), gvN f k tb u ≤ u
  | 0, f => by rw [gvN]; exact Nat.le_refl _
  | u + 1, f => by
    rw [gvN_s]
    split
    · exact Nat.succ_le_succ (gvN_le k tb u _)
    · exact Nat.zero_le _
def spGives (n : Nat) (F : Nat → Nat → Int32) (s k : Int32) (tb : Bool) : Nat × Int32 := if inR s n = true then (if inR k 4 = true then (0, nI (gvT F (cl k) tb (cl s))) else (2, 0)) else (1, 0)
theorem spGives_y {n : Nat} {F : Nat → Nat → Int32} {s k : Nat} {tb : Bool} (hn : n ≤ 10) (h1 : s < n) (h2 : k < 4) : spGives n F (nI s) (nI k) tb = (0, nI (gvT F k tb s)) := by
  unfold spGives
  rw [inR_in h1 (by omega), inR_in h2 (by omega), cl_n (by omega), cl_n (by omega)]; rfl
def bM (g : Nat → Nat) : Nat → Nat | 0 => 0 | s + 1 => if bM g s < g s then g s else bM g s
def bB (g : Nat → Nat) : Nat → Int32 | 0 => -1 | s + 1 => if bM g s < g s then nI s else bB g s
def spBest (n : Nat) (F : Nat → Nat → Int32) (k : Int32) (tb : Bool) : Nat × Int32 := if inR k 4 = true then (0, bB (gvT F (cl k) tb) n) else (1, 0)
theorem spBest_y {n : Nat} {F : Nat → Nat → Int32} {k : Nat} {tb : Bool} (h2 : k < 4) : spBest n F (nI k) tb = (0, bB (gvT F k tb) n) := by
  unfold spBest
  rw [inR_in h2 (by omega), cl_n (by omega)]; rfl
theorem cpy_0 {f g : Nat → Int32} : ∀ q, q < 96 → va_cpy f g 0 0 96 q = f q := fun q hq => by
  rw [pk_cpy_in (by omega) (by omega)]
  show f (0 + (q - 0)) = f q
  rw [Nat.zero_add, Nat.sub_zero]
