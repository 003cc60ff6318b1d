/-! a pair is ripped up -/
theorem rp_eq (G : Nat → Int32) (q : Int32) (g : Nat → Int32) : ∀ k j, rp G q g k j = if j < k ∧ g j = q then (if G j == 2 then -2 else -1) else g j
  | 0, j => by rw [if_neg (fun z => absurd z.1 (Nat.not_lt_zero j))]; rfl
  | k + 1, j => by
    have ih := rp_eq G q g k
    have hk : rp G q g k k = g k := by rw [ih k, if_neg (fun z => absurd z.1 (Nat.lt_irrefl k))]
    rw [rp, hk]
    by_cases h : g k = q
    · rw [beq_t h, if_pos rfl]
      by_cases e : j = k
      · subst e
        rw [upd_s, if_pos (show j < j + 1 ∧ g j = q from ⟨Nat.lt_succ_self j, h⟩)]
      · rw [upd_n _ _ e, ih j]
        by_cases d : j < k ∧ g j = q
        · rw [if_pos d, if_pos (show j < k + 1 ∧ g j = q from ⟨by omega, d.2⟩)]
        · rw [if_neg d, if_neg (fun z => d ⟨by omega, z.2⟩)]
    · rw [beq_f h, if_neg (by decide), ih j]
      by_cases d : j < k ∧ g j = q
      · rw [if_pos d, if_pos (show j < k + 1 ∧ g j = q from ⟨by omega, d.2⟩)]
      · rw [if_neg d, if_neg (fun z => d ⟨by
          rcases Nat.lt_or_ge j k with y | y
          · exact y
          · exact absurd z.2 (by rw [show j = k by omega]; exact h), z.2⟩)]
theorem rpc_eq (G : Nat → Int32) (q : Int32) (g : Nat → Int32) : ∀ k, rpc G q g k = cn (fun p => g p == q && !(G p == 2)) k
  | 0 => rfl
  | k + 1 => by
    have hk : rp G q g k k = g k := by rw [rp_eq G q g k k, if_neg (fun z => absurd z.1 (Nat.lt_irrefl k))]
    rw [rpc, hk, rpc_eq G q g k]
    show _ = cn (fun p => g p == q && !(G p == 2)) k + bn (g k == q && !(G k == 2))
    cases g k == q <;> cases G k == 2 <;> rfl
theorem rip_eqs (F : Nat → Nat → Int32) (np q : Nat) : ripF F np q 12 = upd (F 12) q (nI 1) ∧ ripF F np q 6 = rp (F 5) (nI q) (F 6) np ∧ (∀ k, ¬ k = 6 → ¬ k = 12 → ripF F np q k = F k) := by
  unfold ripF
  exact ⟨by rw [va_up_ne _ _ (by decide), va_up_self], by rw [va_up_self], fun k h1 h2 => by rw [va_up_ne _ _ h1, va_up_ne _ _ h2]⟩
theorem rip_ne {F : Nat → Nat → Int32} {np q p : Nat} {x : Int32} (hq : q ≤ 20) (h1 : ¬ x = nI q) (h2 : ¬ x = -1) (h3 : ¬ x = -2) : (rp (F 5) (nI q) (F 6) np p == x) = (F 6 p == x) := by
  rw [rp_eq]
  by_cases d : p < np ∧ F 6 p = nI q
  · rw [if_pos d, d.2, beq_f (fun z => h1 z.symm)]
    cases F 5 p == 2
    · exact beq_f (fun z => h2 z.symm)
    · exact beq_f (fun z => h3 z.symm)
  · rw [if_neg d]
/-- eight pieces are free again -/
theorem rip_8 {n np nq q : Nat} {F : Nat → Nat → Int32} (hJ : J n np nq F) (hq : q < nq) (h0 : F 12 q = 0) : rpc (F 5) (nI q) (F 6) np = 8 := by
  obtain ⟨hI, h1, h2, h3, h4, h5⟩ := hJ
  have c := ((h4 q hq).1 h0).1
  rw [rpc_eq]
  have a : cn (fun p => F 6 p == nI q && !(F 5 p == 2)) np = cn (fun p => inQ F q 0 p || inQ F q 1 p) np + cn (inQ F q 3) np := cn_add (fun p hp => by
    obtain ⟨k, hk, e⟩ := (h1 p hp).1
    unfold inQ
    rw [e]
    cases F 6 p == nI q
    · rfl
    · rcases lt4 hk with rfl | rfl | rfl | rfl <;> decide)
  have b : cn (fun p => inQ F q 0 p || inQ F q 1 p) np = cn (inQ F q 0) np + cn (inQ F q 1) np := cn_add (fun p hp => by
    obtain ⟨k, hk, e⟩ := (h1 p hp).1
    unfold inQ
    rw [e]
    cases F 6 p == nI q
    · rfl
    · rcases lt4 hk with rfl | rfl | rfl | rfl <;> decide)
  rw [a, b, c 0 (by decide), c 1 (by decide), c 3 (by decide)]
  rfl
/-- six are lost -/
theorem rip_6 {n np nq q : Nat} {F : Nat → Nat → Int32} (hJ : J n np nq F) (hq : q < nq) (h0 : F 12 q = 0) : pAt (ripF F np q) np (-2) = pAt F np (-2) + 6 := by
  obtain ⟨hI, h1, h2, h3, h4, h5⟩ := hJ
  have hnq := hI.2.2.1
  have c : cn (inQ F q 2) np = 6 := ((h4 q hq).1 h0).1 2 (by decide)
  rw [← c]
  unfold pAt
  rw [(rip_eqs F np q).2.1]
  refine cn_add (fun p hp => ?_)
  show bn (rp (F 5) (nI q) (F 6) np p == -2) = bn (F 6 p == -2) + bn (F 6 p == nI q && F 5 p == nI 2)
  rw [rp_eq]
  by_cases d : F 6 p = nI q
  · rw [if_pos ⟨hp, d⟩, d, beq_t rfl, beq_f (fun z => nI_m2 (by omega) z.symm), Bool.true_and]
    show _ = 0 + bn (F 5 p == 2)
    cases F 5 p == 2
    · decide
    · decide
  · rw [if_neg (fun z => d z.2), beq_f d, Bool.false_and]
    rfl
theorem use_rip {np nq q : Nat} {F : Nat → Nat → Int32} (hq : q < nq) (h0 : F 12 q = 0) : pUse (ripF F np q) nq + 1 = pUse F nq := by
  unfold pUse
  rw [(rip_eqs F np q).1]
  have := cn_upd (P := fun x => x == 0) (g := F 12) (v := nI 1) hq
  rw [beq_t h0, show bn (nI 1 == 0) = 0 by decide] at this
  exact this
theorem J_rip {n np nq q : Nat} {F : Nat → Nat → Int32} (hJ : J n np nq F) (hq : q < nq) (h0 : F 12 q = 0) : J n np nq (ripF F np q) := by
  have r6 := rip_6 hJ hq h0
  have ru := use_rip (np := np) hq h0
  obtain ⟨hI, h1, h2, h3, h4, h5⟩ := hJ
  have hnq := hI.2.2.1
  obtain ⟨e12, e6, eo⟩ := rip_eqs F np q
  have hI2 : Inv n np nq (ripF F np q) := by
    have := Inv_rip (q := nI q) hI (by rw [spRip_1 hnq hq, beq_t h0]; rfl)
    rw [cl_n (by omega)] at this
    exact this
  have ho : ∀ k, ¬ k = 6 → ¬ k = 12 → ripF F np q k = F k := eo
  refine ⟨hI2, ?_, ?_, ?_, ?_, ?_⟩
  · intro p hp
    rw [e6, ho 5 (by decide) (by decide), rp_eq]
    obtain ⟨a, b, c⟩ := h1 p hp
    by_cases d : p < np ∧ F 6 p = nI q
    · rw [if_pos d]
      cases hz : F 5 p == 2
      · exact ⟨a, Or.inl rfl, fun z => absurd z (by decide)⟩
      · exact ⟨a, Or.inr (Or.inl rfl), fun _ => beq_iff_eq.mp hz⟩
    · rw [if_neg d]
      exact ⟨a, b, c⟩
  · intro s hs
    unfold kdF
    rw [ho (14 + s) (by omega) (by omega), ho 4 (by decide) (by decide), ho 5 (by decide) (by decide)]
    exact h2 s hs
  · intro r hr p hp
    rw [e6, e12, ho 1 (by decide) (by decide), ho 4 (by decide) (by decide), ho 8 (by decide) (by decide), ho 5 (by decide) (by decide), ho 9 (by decide) (by decide)]
    by_cases e : r = q
    · subst e
      rw [rp_eq]
      by_cases d : p < np ∧ F 6 p = nI r
      · rw [if_pos d]
        cases F 5 p == 2
        · exact fun z => absurd z (nI_m1 (by omega))
        · exact fun z => absurd z (nI_m2 (by omega))
      · rw [if_neg d]
        exact fun z => absurd ⟨hp, z⟩ d
    · intro z
      have := rip_ne (F := F) (np := np) (p := p) (x := nI r) (show q ≤ 20 by omega) (nI_nej (by omega) (by omega) e) (fun z => nI_m1 (by omega) z.symm) (fun z => nI_m2 (by omega) z.symm)
      rw [beq_t z] at this
      rw [upd_n _ _ e]
      exact h3 r hr p hp (beq_iff_eq.mp this.symm)
  · intro r hr
    rw [e12, ho 11 (by decide) (by decide), ho 7 (by decide) (by decide), ho 10 (by decide) (by decide), e6]
    obtain ⟨a, b⟩ := h4 r hr
    by_cases e : r = q
    · subst e
      rw [upd_s]
      exact ⟨fun z => absurd z (by decide), b⟩
    · rw [upd_n _ _ e]
      have hne : ∀ p, (rp (F 5) (nI q) (F 6) np p == nI r) = (F 6 p == nI r) := fun p => rip_ne (show q ≤ 20 by omega) (nI_nej (by omega) (by omega) e) (fun z => nI_m1 (by omega) z.symm) (fun z => nI_m2 (by omega) z.symm)
      refine ⟨fun hz => ⟨fun k hk => ?_, ?_⟩, b⟩
      · rw [← (a hz).1 k hk]
        refine cn_cong (fun p hp => ?_)
        unfold inQ
        rw [e6, ho 5 (by decide) (by decide), hne]
      · rw [(a hz).2]
        exact (sS_cong (fun p _ => hne p) (fun _ _ => rfl)).symm
  · unfold J5 at h5 ⊢
    omega
/-! the sums that the law looks at -/
theorem cnt_Q {n np nq : Nat} {F : Nat → Nat → Int32} (hJ : J n np nq F) : ∀ Q, Q ≤ nq → cn (fun p => inR (F 6 p) Q) np = 14 * pUse F Q
  | 0, _ => cn_none (fun p hp => by
    cases h : inR (F 6 p) 0
    · rfl
    · obtain ⟨j, hj, -⟩ := inR_t (by decide) h
      omega)
  | Q + 1, hQ => by
    have ih := cnt_Q hJ Q (by omega)
    obtain ⟨hI, h1, h2, h3, h4, h5⟩ := hJ
    have hnq := hI.2.2.1
    have a : cn (fun p => inR (F 6 p) (Q + 1)) np = cn (fun p => inR (F 6 p) Q) np + cn (fun p => F 6 p == nI Q) np := cn_add (fun p hp => by
      show bn (inR (F 6 p) (Q + 1)) = bn (inR (F 6 p) Q) + bn (F 6 p == nI Q)
      rcases (h1 p hp).2.1 with z | z | ⟨q, hq, z⟩
      · rw [z, beq_f (nI_m1 (by omega)), inR_lo (by decide), inR_lo (by decide)]; rfl
      · rw [z, beq_f (nI_m2 (by omega)), inR_lo (by decide), inR_lo (by decide)]; rfl
      · rw [z, inR_n (by omega) (by omega), inR_n (by omega) (by omega)]
        by_cases e : q = Q
        · subst e
          rw [beq_t rfl, decide_eq_true (Nat.lt_succ_self q), decide_eq_false (Nat.lt_irrefl q)]; rfl
        · rw [beq_f (nI_nej (by omega) (by omega) e)]
          by_cases d : q < Q
          · rw [decide_eq_true d, decide_eq_true (show q < Q + 1 by omega)]; rfl
          · rw [decide_eq_false d, decide_eq_false (show ¬ q < Q + 1 by omega)]; rfl)
    have u : pUse F (Q + 1) = pUse F Q + bn (F 12 Q == 0) := rfl
    rw [a, ih, u]
    by_cases h0 : F 12 Q = 0
    · have c := ((h4 Q (by omega)).1 h0).1
      have b1 : cn (fun p => F 6 p == nI Q) np = cn (fun p => inQ F Q 0 p || (inQ F Q 1 p || inQ F Q 2 p)) np + cn (inQ F Q 3) np := cn_add (fun p hp => by
        obtain ⟨k, hk, e⟩ := (h1 p hp).1
        unfold inQ
        show bn (F 6 p == nI Q) = _
        rw [e]
        cases F 6 p == nI Q
        · rfl
        · rcases lt4 hk with rfl | rfl | rfl | rfl <;> decide)
      have b2 : cn (fun p => inQ F Q 0 p || (inQ F Q 1 p || inQ F Q 2 p)) np = cn (inQ F Q 0) np + cn (fun p => inQ F Q 1 p || inQ F Q 2 p) np := cn_add (fun p hp => by
        obtain ⟨k, hk, e⟩ := (h1 p hp).1
        unfold inQ
        rw [e]
        cases F 6 p == nI Q
        · rfl
        · rcases lt4 hk with rfl | rfl | rfl | rfl <;> decide)
      have b3 : cn (fun p => inQ F Q 1 p || inQ F Q 2 p) np = cn (inQ F Q 1) np + cn (inQ F Q 2) np := cn_add (fun p hp => by
        obtain ⟨k, hk, e⟩ := (h1 p hp).1
        unfold inQ
        rw [e]
        cases F 6 p == nI Q
        · rfl
        · rcases lt4 hk with rfl | rfl | rfl | rfl <;> decide)
      rw [b1, b2, b3, c 0 (by decide), c 1 (by decide), c 2 (by decide), c 3 (by decide), beq_t h0]
      show 14 * pUse F Q + (2 + (2 + 6) + 4) = 14 * (pUse F Q + 1)
      omega
    · rw [beq_f h0, cn_none (fun p hp => beq_f (fun z => h0 (h3 Q (by omega) p hp z).1))]
      rfl
theorem cnt_all {n np nq : Nat} {F : Nat → Nat → Int32} (hJ : J n np nq F) : ∀ K, K ≤ np → pAt F K (-1) + pAt F K (-2) + cn (fun p => inR (F 6 p) nq) K = K
  | 0, _ => rfl
  | K + 1, hK => by
    have ih := cnt_all hJ K (by omega)
    obtain ⟨hI, h1, h2, h3, h4, h5⟩ := hJ
    have hnq := hI.2.2.1
    show pAt F K (-1) + bn (F 6 K == -1) + (pAt F K (-2) + bn (F 6 K == -2)) + (cn (fun p => inR (F 6 p) nq) K + bn (inR (F 6 K) nq)) = K + 1
    have e : bn (F 6 K == -1) + bn (F 6 K == -2) + bn (inR (F 6 K) nq) = 1 := by
      rcases (h1 K (by omega)).2.1 with z | z | ⟨q, hq, z⟩
      · rw [z, inR_lo (by decide)]; decide
      · rw [z, inR_lo (by decide)]; decide
      · rw [z, inR_n (by omega) (by omega), decide_eq_true hq, beq_f (fun z => nI_m1 (by omega) z.symm), beq_f (fun z => nI_m2 (by omega) z.symm)]; rfl
    omega
/-- sewn pieces, and lost ones -/
theorem cnt_sewn {n np nq : Nat} {F : Nat → Nat → Int32} (hJ : J n np nq F) : np - pAt F np (-1) - pAt F np (-2) = 14 * pUse F nq := by
  have a := cnt_all hJ np (Nat.le_refl np)
  have b := cnt_Q hJ nq (Nat.le_refl nq)
  omega
