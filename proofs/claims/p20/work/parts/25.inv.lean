/-- cells are whole, thin, holes or cut -/
def small (f : Nat → Int32) (N : Nat) : Prop := ∀ q, q < N → f q = 0 ∨ f q = nI 1 ∨ f q = nI 2 ∨ f q = nI 3
/-! what the law's loop keeps of the record that class and reference share -/
def Inv (n np nq : Nat) (F : Nat → Nat → Int32) : Prop := n ≤ 10 ∧ np ≤ 150 ∧ nq ≤ 20 ∧ (∀ p, p < np → ∃ k, k < n ∧ F 4 p = nI k) ∧ (∀ q, q < nq → F 12 q = 0 ∨ F 12 q = 1) ∧ (∀ q, nq ≤ q → q ≤ 20 → ∀ p, p < np → ¬ F 6 p = nI q) ∧ (∀ q, nq ≤ q → q < 20 → F 11 q = 0) ∧ (∀ q, nq ≤ q → q < 20 → F 12 q = 0) ∧ (∀ s, s < 10 → F 2 s = nI (cn (fun p => F 4 p == nI s) np)) ∧ (∀ s, s < 10 → small (F (14 + s)) 96)
theorem Inv_0 : Inv 0 0 0 (fun _ _ => 0) := ⟨by decide, by decide, by decide, fun p h => absurd h (Nat.not_lt_zero p), fun q h => absurd h (Nat.not_lt_zero q), fun _ _ _ p h => absurd h (Nat.not_lt_zero p), fun _ _ _ => rfl, fun _ _ _ => rfl, fun _ _ => rfl, fun _ _ _ _ => Or.inl rfl⟩
/-- the record at the arrays that the invariant speaks of -/
theorem Inv_same {n np nq : Nat} {F F' : Nat → Nat → Int32} (h : Inv n np nq F) (h2 : F' 2 = F 2) (h4 : F' 4 = F 4) (h6 : F' 6 = F 6) (h11 : F' 11 = F 11) (h12 : F' 12 = F 12) (hs : ∀ s, s < 10 → F' (14 + s) = F (14 + s)) : Inv n np nq F' := by
  obtain ⟨a1, a2, a3, a4, a5, a6, a7, a8, a9, a10⟩ := h
  refine ⟨a1, a2, a3, ?_, ?_, ?_, ?_, ?_, ?_, fun s h => by rw [hs s h]; exact a10 s h⟩
  · rw [h4]; exact a4
  · rw [h12]; exact a5
  · rw [h6]; exact a6
  · rw [h11]; exact a7
  · rw [h12]; exact a8
  · rw [h2, h4]; exact a9
theorem nI_nej {a b : Nat} (ha : a < 2 ^ 31) (hb : b < 2 ^ 31) (h : ¬ a = b) : ¬ nI a = nI b := fun q => h (by rw [← nI_clamp ha, ← nI_clamp hb, q])
theorem nI_nem {a : Nat} (ha : a < 1000) : ¬ (-1 : Int32) = nI a ∧ ¬ (-2 : Int32) = nI a := by
  have h := nI_clamp (n := a) (by omega)
  have h0 : ¬ nI a < 0 := nI_pos (by omega)
  exact ⟨fun q => h0 (by rw [← q]; decide), fun q => h0 (by rw [← q]; decide)⟩
theorem Inv_T {n np nq : Nat} {F : Nat → Nat → Int32} (h : Inv n np nq F) (u : Nat → Int32) : Inv n np nq (va_up F 13 u) := Inv_same h (va_up_ne _ _ (by decide)) (va_up_ne _ _ (by decide)) (va_up_ne _ _ (by decide)) (va_up_ne _ _ (by decide)) (va_up_ne _ _ (by decide)) (fun s _ => va_up_ne _ _ (by omega))
theorem Inv_lay {n np nq : Nat} {F : Nat → Nat → Int32} {c : Int32} (h : Inv n np nq F) (h0 : (spLay n c).1 = 0) : Inv (n + 1) np nq (layF F n c) := by
  have hn : n < 10 := by
    unfold spLay at h0
    by_cases h1 : inR c 6 = true
    · rw [if_pos h1] at h0
      by_cases h2 : n < 10
      · exact h2
      · rw [if_neg h2] at h0; exact absurd h0 (show ¬ (2 : Nat) = 0 by decide)
    · rw [if_neg h1] at h0; exact absurd h0 (show ¬ (1 : Nat) = 0 by decide)
  have h' : Inv n np nq (layF F n c) := Inv_same h (va_up_ne _ _ (by decide)) (va_up_ne _ _ (by decide)) (va_up_ne _ _ (by decide)) (va_up_ne _ _ (by decide)) (va_up_ne _ _ (by decide)) (fun s _ => va_up_ne _ _ (by omega))
  exact ⟨by omega, h'.2.1, h'.2.2.1, fun p hp => by obtain ⟨k, hk, e⟩ := h'.2.2.2.1 p hp; exact ⟨k, by omega, e⟩, h'.2.2.2.2⟩
theorem small_fl {f : Nat → Int32} {fr w : Nat} {v : Int32} {K : Nat} (h : small f 96) (hv : v = 0 ∨ v = nI 1 ∨ v = nI 2 ∨ v = nI 3) : small (fl f fr w v K) 96 := fun q hq => by
  rcases fl_or f fr w v K q with e | e
  · rw [e]; exact h q hq
  · rw [e]; exact hv
theorem Inv_mark {n np nq : Nat} {F : Nat → Nat → Int32} {s x y w h v : Int32} (hI : Inv n np nq F) (h0 : (spMark n F s x y w h v).1 = 0) : Inv n np nq (stMark F s x y w h v) := by
  obtain ⟨a1, a2, a3, a4, a5, a6, a7, a8, a9, a10⟩ := hI
  have hv : inR v 3 = true := by
    unfold spMark at h0
    split at h0
    · split at h0
      · rename_i _ q
        simp only [Bool.and_eq_true] at q
        exact q.2.2
      · exact absurd h0 (show ¬ (2 : Nat) = 0 by decide)
    · exact absurd h0 (show ¬ (1 : Nat) = 0 by decide)
  obtain ⟨j, hj, rfl⟩ := inR_t (by decide) hv
  have e : ∀ k, k < 14 → stMark F s x y w h (nI j) k = F k := fun k hk => va_up_ne _ _ (by omega)
  refine ⟨a1, a2, a3, ?_, ?_, ?_, ?_, ?_, ?_, fun t ht => ?_⟩
  · rw [e 4 (by decide)]; exact a4
  · rw [e 12 (by decide)]; exact a5
  · rw [e 6 (by decide)]; exact a6
  · rw [e 11 (by decide)]; exact a7
  · rw [e 12 (by decide)]; exact a8
  · rw [e 2 (by decide), e 4 (by decide)]; exact a9
  · by_cases hq : t = cl s
    · subst hq
      show small (va_up F (14 + cl s) _ (14 + cl s)) 96
      rw [va_up_self]
      exact small_fl (a10 _ ht) (by rcases (show j = 0 ∨ j = 1 ∨ j = 2 by omega) with rfl | rfl | rfl; exact Or.inl rfl; exact Or.inr (Or.inl rfl); exact Or.inr (Or.inr (Or.inl rfl)))
    · show small (va_up F (14 + cl s) _ (14 + t)) 96
      rw [va_up_ne _ _ (by omega)]
      exact a10 t ht
theorem upd_s (f : Nat → Int32) (k : Nat) (x : Int32) : upd f k x k = x := by simp [upd]
theorem upd_n (f : Nat → Int32) {k j : Nat} (x : Int32) (h : ¬ j = k) : upd f k x j = f j := by simp [upd, h]
theorem Inv_cut {n np nq : Nat} {F : Nat → Nat → Int32} {s k x y : Int32} {tb : Bool} (hI : Inv n np nq F) (h0 : (spCut n np F s k tb x y).1 = 0) : Inv n (np + 1) nq (stCut F np s k tb x y) := by
  obtain ⟨a1, a2, a3, a4, a5, a6, a7, a8, a9, a10⟩ := hI
  have hv : inR s n = true ∧ inR k 4 = true ∧ np < 150 := by
    unfold spCut at h0
    split at h0
    · rename_i q1
      split at h0
      · rename_i q2
        split at h0
        · rename_i q3
          simp only [Bool.and_eq_true, decide_eq_true_eq] at q1 q3
          exact ⟨q1.1, q2, q3.2⟩
        · exact absurd h0 (show ¬ (3 : Nat) = 0 by decide)
      · exact absurd h0 (show ¬ (2 : Nat) = 0 by decide)
    · exact absurd h0 (show ¬ (1 : Nat) = 0 by decide)
  obtain ⟨s1, hs1, rfl⟩ := inR_t (by omega) hv.1
  have es : cl (nI s1) = s1 := cl_n (by omega)
  unfold stCut
  rw [es]
  generalize cl k = kk
  generalize 12 * cl y + cl x = fr
  have e4 : cutF F np s1 kk tb fr 4 = upd (F 4) np (nI s1) := by
    unfold cutF
    rw [va_up_ne _ _ (by decide), va_up_ne _ _ (by omega), va_up_ne _ _ (by decide), va_up_ne _ _ (by decide), va_up_ne _ _ (by decide), va_up_self]
  have e6 : cutF F np s1 kk tb fr 6 = upd (F 6) np (-1) := by
    unfold cutF
    rw [va_up_ne _ _ (by decide), va_up_ne _ _ (by omega), va_up_ne _ _ (by decide), va_up_self]
  have e2 : cutF F np s1 kk tb fr 2 = upd (F 2) s1 (F 2 s1 + nI 1) := by
    unfold cutF
    rw [va_up_self]
  have e11 : cutF F np s1 kk tb fr 11 = F 11 := by
    unfold cutF
    rw [va_up_ne _ _ (by decide), va_up_ne _ _ (by omega), va_up_ne _ _ (by decide), va_up_ne _ _ (by decide), va_up_ne _ _ (by decide), va_up_ne _ _ (by decide)]
  have e12 : cutF F np s1 kk tb fr 12 = F 12 := by
    unfold cutF
    rw [va_up_ne _ _ (by decide), va_up_ne _ _ (by omega), va_up_ne _ _ (by decide), va_up_ne _ _ (by decide), va_up_ne _ _ (by decide), va_up_ne _ _ (by decide)]
  refine ⟨a1, hv.2.2, a3, ?_, ?_, ?_, ?_, ?_, ?_, fun t ht => ?_⟩
  · rw [e4]
    intro p hp
    by_cases hq : p = np
    · subst hq; exact ⟨s1, hs1, upd_s _ _ _⟩
    · rw [upd_n _ _ hq]; exact a4 p (by omega)
  · rw [e12]; exact a5
  · rw [e6]
    intro q h1 h2 p hp
    by_cases hq : p = np
    · subst hq; rw [upd_s]; exact (nI_nem (by omega)).1
    · rw [upd_n _ _ hq]; exact a6 q h1 h2 p (by omega)
  · rw [e11]; exact a7
  · rw [e12]; exact a8
  · rw [e2, e4]
    intro t ht
    have hc : cn (fun p => upd (F 4) np (nI s1) p == nI t) np = cn (fun p => F 4 p == nI t) np := cn_cong (fun j hj => by show (upd (F 4) np (nI s1) j == nI t) = _; rw [upd_n _ _ (by omega)])
    by_cases hq : t = s1
    · subst hq
      rw [upd_s, cn_t (by show (upd (F 4) np (nI t) np == nI t) = true; rw [upd_s]; exact beq_t rfl), hc, a9 t ht, nI_add]
    · rw [upd_n _ _ hq, cn_f (by show (upd (F 4) np (nI s1) np == nI t) = false; rw [upd_s]; exact beq_f (nI_nej (by omega) (by omega) (fun h => hq h.symm))), hc, a9 t ht]
  · by_cases hq : t = s1
    · subst hq
      have e : cutF F np t kk tb fr (14 + t) = fl (F (14 + t)) fr (wd kk tb) (nI 3) (wd kk tb * hg kk tb) := by
        unfold cutF
        rw [va_up_ne _ _ (by omega), va_up_self]
      rw [e]
      exact small_fl (a10 t ht) (Or.inr (Or.inr (Or.inr rfl)))
    · have e : cutF F np s1 kk tb fr (14 + t) = F (14 + t) := by
        unfold cutF
        rw [va_up_ne _ _ (by omega), va_up_ne _ _ (by omega), va_up_ne _ _ (by omega), va_up_ne _ _ (by omega), va_up_ne _ _ (by omega), va_up_ne _ _ (by omega)]
      rw [e]
      exact a10 t ht
theorem rp_or (G : Nat → Int32) (q : Int32) (g : Nat → Int32) : ∀ k j, rp G q g k j = g j ∨ rp G q g k j = -1 ∨ rp G q g k j = -2
  | 0, j => Or.inl rfl
  | k + 1, j => by
    have ih := rp_or G q g k j
    by_cases h : rp G q g k k = q
    · by_cases h2 : G k = 2
      · rw [(rp_l h h2).1]
        by_cases hj : j = k
        · subst hj; rw [upd_s]; exact Or.inr (Or.inr rfl)
        · rw [upd_n _ _ hj]; exact ih
      · rw [(rp_f h h2).1]
        by_cases hj : j = k
        · subst hj; rw [upd_s]; exact Or.inr (Or.inl rfl)
        · rw [upd_n _ _ hj]; exact ih
    · rw [(rp_n h).1]; exact ih
theorem Inv_rip {n np nq : Nat} {F : Nat → Nat → Int32} {q : Int32} (hI : Inv n np nq F) (h0 : (spRip np nq F q).1 = 0) : Inv n np nq (ripF F np (cl q)) := by
  obtain ⟨a1, a2, a3, a4, a5, a6, a7, a8, a9, a10⟩ := hI
  have hv : inR q nq = true := by
    unfold spRip at h0
    split at h0
    · assumption
    · exact absurd h0 (show ¬ (1 : Nat) = 0 by decide)
  obtain ⟨j, hj, rfl⟩ := inR_t (by omega) hv
  rw [cl_n (by omega)]
  have e : ∀ k, ¬ k = 6 → ¬ k = 12 → ripF F np j k = F k := fun k h1 h2 => by unfold ripF; rw [va_up_ne _ _ h1, va_up_ne _ _ h2]
  have e12 : ripF F np j 12 = upd (F 12) j (nI 1) := by unfold ripF; rw [va_up_ne _ _ (by decide), va_up_self]
  have e6 : ripF F np j 6 = rp (F 5) (nI j) (F 6) np := by unfold ripF; rw [va_up_self]
  refine ⟨a1, a2, a3, ?_, ?_, ?_, ?_, ?_, ?_, fun t ht => ?_⟩
  · rw [e 4 (by decide) (by decide)]; exact a4
  · rw [e12]
    intro q hq
    by_cases h : q = j
    · subst h; rw [upd_s]; exact Or.inr rfl
    · rw [upd_n _ _ h]; exact a5 q hq
  · rw [e6]
    intro q h1 h2 p hp
    rcases rp_or (F 5) (nI j) (F 6) np p with h | h | h
    · rw [h]; exact a6 q h1 h2 p hp
    · rw [h]; exact (nI_nem (by omega)).1
    · rw [h]; exact (nI_nem (by omega)).2
  · rw [e 11 (by decide) (by decide)]; exact a7
  · rw [e12]
    intro q h1 h2
    rw [upd_n _ _ (by omega)]; exact a8 q h1 h2
  · rw [e 2 (by decide) (by decide), e 4 (by decide) (by decide)]; exact a9
  · rw [e (14 + t) (by omega) (by omega)]; exact a10 t ht
theorem tkG_or (P : (Nat → Int32) → Nat → Bool) (v : Int32) (g : Nat → Int32) (l : Nat) : ∀ k j, (tkG P v g l k).1 j = g j ∨ (tkG P v g l k).1 j = v
  | 0, j => Or.inl rfl
  | k + 1, j => by
    have ih := tkG_or P v g l k j
    by_cases h : 0 < (tkG P v g l k).2 ∧ P (tkG P v g l k).1 k = true
    · rw [show tkG P v g l (k + 1) = (upd (tkG P v g l k).1 k v, (tkG P v g l k).2 - 1) from if_pos h]
      by_cases hj : j = k
      · subst hj; exact Or.inr (upd_s _ _ _)
      · show upd _ k v j = g j ∨ upd _ k v j = v
        rw [upd_n _ _ hj]; exact ih
    · rw [show tkG P v g l (k + 1) = tkG P v g l k from if_neg h]; exact ih
theorem tk4_or (F : Nat → Nat → Int32) (np : Nat) (c ts v : Int32) : ∀ k j, tk4 F np c ts v k j = F 6 j ∨ tk4 F np c ts v k j = v
  | 0, j => Or.inl rfl
  | k + 1, j => by
    rcases tkG_or (okP F c ts k) v (tk4 F np c ts v k) (kP k) np j with h | h
    · rw [show tk4 F np c ts v (k + 1) j = tk4 F np c ts v k j from h]; exact tk4_or F np c ts v k j
    · exact Or.inr h
theorem Inv_sew {n np nq : Nat} {F : Nat → Nat → Int32} {c : Int32} (hI : Inv n np nq F) (h0 : (spSew n np nq F c).1 = 0) : Inv n np (nq + 1) (swF F n np nq c) := by
  obtain ⟨a1, a2, a3, a4, a5, a6, a7, a8, a9, a10⟩ := hI
  have hv : nq < 20 := by
    unfold spSew at h0
    split at h0
    · split at h0
      · rename_i _ q
        simp only [Bool.and_eq_true, decide_eq_true_eq] at q
        exact q.2
      · exact absurd h0 (show ¬ (2 : Nat) = 0 by decide)
    · exact absurd h0 (show ¬ (1 : Nat) = 0 by decide)
  have e : ∀ k, ¬ k = 6 → ¬ k = 8 → ¬ k = 9 → ¬ k = 10 → ¬ k = 11 → swF F n np nq c k = F k := fun k h1 h2 h3 h4 h5 => by unfold swF swG swB; rw [va_up_ne _ _ h4, va_up_ne _ _ h5, va_up_ne _ _ h1, va_up_ne _ _ h3, va_up_ne _ _ h2]
  have e6 : swF F n np nq c 6 = tk4 F np c (tsI F n np c) (nI nq) 4 := by unfold swF swG; rw [va_up_ne _ _ (by decide), va_up_ne _ _ (by decide), va_up_self]
  have e11 : swF F n np nq c 11 = upd (F 11) nq (sS (F 7) (tk4 F np c (tsI F n np c) (nI nq) 4) (nI nq) np) := by unfold swF swG; rw [va_up_ne _ _ (by decide), va_up_self]
  refine ⟨a1, a2, hv, ?_, ?_, ?_, ?_, ?_, ?_, fun t ht => ?_⟩
  · rw [e 4 (by decide) (by decide) (by decide) (by decide) (by decide)]; exact a4
  · rw [e 12 (by decide) (by decide) (by decide) (by decide) (by decide)]
    intro q hq
    by_cases h : q = nq
    · subst h; exact Or.inl (a8 q (Nat.le_refl _) hv)
    · exact a5 q (by omega)
  · rw [e6]
    intro q h1 h2 p hp
    rcases tk4_or F np c (tsI F n np c) (nI nq) 4 p with h | h
    · rw [h]; exact a6 q (by omega) h2 p hp
    · rw [h]; exact nI_nej (by omega) (by omega) (by omega)
  · rw [e11]
    intro q h1 h2
    rw [upd_n _ _ (by omega)]; exact a7 q (by omega) h2
  · rw [e 12 (by decide) (by decide) (by decide) (by decide) (by decide)]
    intro q h1 h2
    exact a8 q (by omega) h2
  · rw [e 2 (by decide) (by decide) (by decide) (by decide) (by decide), e 4 (by decide) (by decide) (by decide) (by decide) (by decide)]; exact a9
  · rw [e (14 + t) (by omega) (by omega) (by omega) (by omega) (by omega)]; exact a10 t ht
