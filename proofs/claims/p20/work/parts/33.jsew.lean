/-! a pair is sewn -/
theorem sew_eqs {F : Nat → Nat → Int32} {n np nq t : Nat} {c : Int32} (ht : tsI F n np c = nI t) : swF F n np nq c 6 = tk4 F np c (nI t) (nI nq) 4 ∧ swF F n np nq c 8 = upd (F 8) nq c ∧ swF F n np nq c 9 = upd (F 9) nq (nI t) ∧ swF F n np nq c 10 = upd (F 10) nq (bcI (sO (F 4) (tk4 F np c (nI t) (nI nq) 4) (nI nq) np)) ∧ swF F n np nq c 11 = upd (F 11) nq (sS (F 7) (tk4 F np c (nI t) (nI nq) 4) (nI nq) np) ∧ (∀ k, ¬ k = 6 → ¬ k = 8 → ¬ k = 9 → ¬ k = 10 → ¬ k = 11 → swF F n np nq c k = F k) := by
  unfold swF swG swB
  rw [ht]
  refine ⟨?_, ?_, ?_, ?_, ?_, fun k h1 h2 h3 h4 h5 => ?_⟩
  · rw [va_up_ne _ _ (by decide), va_up_ne _ _ (by decide), va_up_self]
  · rw [va_up_ne _ _ (by decide), va_up_ne _ _ (by decide), va_up_ne _ _ (by decide), va_up_ne _ _ (by decide), va_up_self]
  · rw [va_up_ne _ _ (by decide), va_up_ne _ _ (by decide), va_up_ne _ _ (by decide), va_up_self]
  · rw [va_up_self]
  · rw [va_up_ne _ _ (by decide), va_up_self]
  · rw [va_up_ne _ _ h4, va_up_ne _ _ h5, va_up_ne _ _ h1, va_up_ne _ _ h3, va_up_ne _ _ h2]
theorem lt4 {k : Nat} (h : k < 4) : k = 0 ∨ k = 1 ∨ k = 2 ∨ k = 3 := by omega
theorem cn_ok0 {F : Nat → Nat → Int32} {np t : Nat} {c : Int32} (hc : F 1 t = c) (ht : t < 2 ^ 31) : cn (okP F c (nI t) 0 (F 6)) np = fT F np t := cn_cong (fun j hj => by
  cases h : isT F t j
  · cases h2 : okP F c (nI t) 0 (F 6) j
    · rfl
    · obtain ⟨a, b, d, e⟩ := okP_kind h2
      have := isT_t a (show F 5 j = 0 from b) (e rfl)
      rw [h] at this
      cases this
  · unfold isT at h
    simp only [Bool.and_eq_true, beq_iff_eq] at h
    exact okP_y h.1 h.2.1 (by rw [h.2.2, cl_n ht]; exact hc) (fun _ => h.2.2))
theorem okP_isF {F : Nat → Nat → Int32} {k j : Nat} {c ts : Int32} (hk : 0 < k) : okP F c ts k (F 6) j = isF F c (nI k) j := by
  unfold okP isFg isF
  rw [decide_eq_true hk, Bool.true_or, Bool.and_true]
theorem cn_sel {F : Nat → Nat → Int32} {n np t k : Nat} {c : Int32} (hcan : canS F n np c = true) (hc : F 1 t = c) (ht : t < 2 ^ 31) (h2 : 2 ≤ fT F np t) (hk : k < 4) : cn (sel F c (nI t) k) np = kP k := by
  obtain ⟨l0, l1, l2, l3⟩ := canS_facts.mp hcan
  rw [lk_1] at l1
  rw [lk_2] at l2
  rw [lk_3] at l3
  show cn (fst (okP F c (nI t) k (F 6)) (kP k)) np = kP k
  rw [cn_fst]
  rcases lt4 hk with rfl | rfl | rfl | rfl
  · rw [cn_ok0 hc ht]
    show min 2 _ = 2
    omega
  · rw [cn_cong (Q := isF F c (nI 1)) (fun j hj => okP_isF (by decide))]
    show min 2 (fC F np c (nI 1)) = 2
    omega
  · rw [cn_cong (Q := isF F c (nI 2)) (fun j hj => okP_isF (by decide))]
    show min 6 (fC F np c (nI 2)) = 6
    omega
  · rw [cn_cong (Q := isF F c (nI 3)) (fun j hj => okP_isF (by decide))]
    show min 4 (fC F np c (nI 3)) = 4
    omega
/-- bits of skins -/
theorem nI_or {x y n : Nat} (hx : x < 2 ^ n) (hy : y < 2 ^ n) (hn : n ≤ 10) : nI x ||| nI y = nI (x ||| y) := by
  have h10 : (2 : Nat) ^ n ≤ 2 ^ 10 := Nat.pow_le_pow_right (by decide) hn
  have hxy := Nat.or_lt_two_pow hx hy
  apply Int32.toBitVec_inj.mp
  apply BitVec.eq_of_toNat_eq
  rw [Int32.toBitVec_or, BitVec.toNat_or, pk_tn (by omega), pk_tn (by omega), pk_tn (by omega)]
theorem sh_bit : ∀ k, k < 10 → nI 1 <<< (nI k &&& 31) = nI (2 ^ k) := by decide +kernel
theorem sO_bits {h g : Nat → Int32} {v : Int32} {n : Nat} (hn : n ≤ 10) : ∀ {np : Nat}, (∀ p, p < np → ∃ k, k < n ∧ h p = nI k) → ∃ x, sO h g v np = nI x ∧ x < 2 ^ n ∧ ((∃ p, p < np ∧ g p = v) → 0 < x)
  | 0, _ => ⟨0, rfl, Nat.two_pow_pos n, fun ⟨p, hp, _⟩ => absurd hp (Nat.not_lt_zero p)⟩
  | p + 1, hh => by
    obtain ⟨x, e, b, d⟩ := sO_bits (h := h) (g := g) (v := v) hn (np := p) (fun q hq => hh q (by omega))
    rw [sO]
    by_cases c : g p = v
    · obtain ⟨k, hk, ek⟩ := hh p (by omega)
      have hk2 : (2 : Nat) ^ k < 2 ^ n := Nat.pow_lt_pow_right (by decide) hk
      rw [beq_t c, if_pos rfl, e, ek, sh_bit k (by omega), nI_or b hk2 hn]
      refine ⟨x ||| 2 ^ k, rfl, Nat.or_lt_two_pow b hk2, fun _ => ?_⟩
      exact Nat.lt_of_lt_of_le (Nat.two_pow_pos k) Nat.right_le_or
    · rw [beq_f c, if_neg (by decide), e]
      refine ⟨x, rfl, b, fun ⟨q, hq, eq⟩ => d ⟨q, ?_, eq⟩⟩
      rcases Nat.lt_or_ge q p with z | z
      · exact z
      · exact absurd eq (by rw [show q = p by omega]; exact c)
theorem bc_0 : ∀ x, x < 2 ^ 0 → 0 < x → (1 : Int32) ≤ bcI (nI x) ∧ bcI (nI x) ≤ nI 0 := by decide +kernel
theorem bc_1 : ∀ x, x < 2 ^ 1 → 0 < x → (1 : Int32) ≤ bcI (nI x) ∧ bcI (nI x) ≤ nI 1 := by decide +kernel
theorem bc_2 : ∀ x, x < 2 ^ 2 → 0 < x → (1 : Int32) ≤ bcI (nI x) ∧ bcI (nI x) ≤ nI 2 := by decide +kernel
theorem bc_3 : ∀ x, x < 2 ^ 3 → 0 < x → (1 : Int32) ≤ bcI (nI x) ∧ bcI (nI x) ≤ nI 3 := by decide +kernel
theorem bc_4 : ∀ x, x < 2 ^ 4 → 0 < x → (1 : Int32) ≤ bcI (nI x) ∧ bcI (nI x) ≤ nI 4 := by decide +kernel
theorem bc_5 : ∀ x, x < 2 ^ 5 → 0 < x → (1 : Int32) ≤ bcI (nI x) ∧ bcI (nI x) ≤ nI 5 := by decide +kernel
theorem bc_6 : ∀ x, x < 2 ^ 6 → 0 < x → (1 : Int32) ≤ bcI (nI x) ∧ bcI (nI x) ≤ nI 6 := by decide +kernel
theorem bc_7 : ∀ x, x < 2 ^ 7 → 0 < x → (1 : Int32) ≤ bcI (nI x) ∧ bcI (nI x) ≤ nI 7 := by decide +kernel
theorem bc_8 : ∀ x, x < 2 ^ 8 → 0 < x → (1 : Int32) ≤ bcI (nI x) ∧ bcI (nI x) ≤ nI 8 := by decide +kernel
theorem bc_9 : ∀ x, x < 2 ^ 9 → 0 < x → (1 : Int32) ≤ bcI (nI x) ∧ bcI (nI x) ≤ nI 9 := by decide +kernel
theorem bc_10 : ∀ x, x < 2 ^ 10 → 0 < x → (1 : Int32) ≤ bcI (nI x) ∧ bcI (nI x) ≤ nI 10 := by decide +kernel
theorem bc_ok {n x : Nat} (hn : n ≤ 10) (hx : x < 2 ^ n) (h0 : 0 < x) : ∃ j, 1 ≤ j ∧ j ≤ n ∧ bcI (nI x) = nI j := by
  have key : (1 : Int32) ≤ bcI (nI x) ∧ bcI (nI x) ≤ nI n := by
    rcases (show n = 0 ∨ n = 1 ∨ n = 2 ∨ n = 3 ∨ n = 4 ∨ n = 5 ∨ n = 6 ∨ n = 7 ∨ n = 8 ∨ n = 9 ∨ n = 10 by omega) with rfl | rfl | rfl | rfl | rfl | rfl | rfl | rfl | rfl | rfl | rfl
    · exact bc_0 x hx h0
    · exact bc_1 x hx h0
    · exact bc_2 x hx h0
    · exact bc_3 x hx h0
    · exact bc_4 x hx h0
    · exact bc_5 x hx h0
    · exact bc_6 x hx h0
    · exact bc_7 x hx h0
    · exact bc_8 x hx h0
    · exact bc_9 x hx h0
    · exact bc_10 x hx h0
  have hp : ¬ bcI (nI x) < 0 := fun z => absurd (Int32.lt_of_le_of_lt key.1 z) (by decide)
  obtain ⟨j, hj, e⟩ := nI_of hp
  rw [e] at key ⊢
  have h1 := (nI_leI (a := 1) (b := j) (by decide) hj).mp key.1
  have h2 := (nI_leI hj (by omega)).mp key.2
  exact ⟨j, h1, h2, rfl⟩
/-- where the pieces are, when a pair has been sewn -/
theorem sw_at {F : Nat → Nat → Int32} {np nq t : Nat} {c : Int32} (hq : nq ≤ 20) (p : Nat) : tk4 F np c (nI t) (nI nq) 4 p = if p < np ∧ selA F c (nI t) 4 p = true then nI nq else F 6 p := tk4_eq (fun z => nI_m1 (by omega) z.symm) 4 (Nat.le_refl 4) p
theorem sw_other {F : Nat → Nat → Int32} {np nq t : Nat} {c x : Int32} (hq : nq ≤ 20) (h1 : ¬ x = nI nq) (h2 : ¬ x = -1) (p : Nat) : (tk4 F np c (nI t) (nI nq) 4 p == x) = (F 6 p == x) := by
  rw [sw_at hq]
  by_cases h : p < np ∧ selA F c (nI t) 4 p = true
  · obtain ⟨k, -, hk⟩ := selA_ex h.2
    rw [if_pos h, (sel_kind hk).1, beq_f (fun z => h1 z.symm), beq_f (fun z => h2 z.symm)]
  · rw [if_neg h]
theorem sw_new {F : Nat → Nat → Int32} {np nq t p k : Nat} {c : Int32} (hq : nq ≤ 20) (hf : ∀ p, p < np → ¬ F 6 p = nI nq) (hp : p < np) (hk : k < 4) : (tk4 F np c (nI t) (nI nq) 4 p == nI nq && F 5 p == nI k) = sel F c (nI t) k p := by
  rw [sw_at hq]
  by_cases h : selA F c (nI t) 4 p = true
  · obtain ⟨i, hi, hs⟩ := selA_ex h
    have hsk := sel_kind hs
    rw [if_pos ⟨hp, h⟩, beq_t rfl, Bool.true_and]
    by_cases e : k = i
    · subst e
      rw [hs, beq_t hsk.2.1]
    · rw [beq_f (by rw [hsk.2.1]; exact nI_nej (by omega) (by omega) (fun z => e z.symm))]
      cases h3 : sel F c (nI t) k p
      · rfl
      · exact absurd ((sel_kind h3).2.1.symm.trans hsk.2.1) (nI_nej (by omega) (by omega) e)
  · rw [if_neg (fun z => h z.2), beq_f (hf p hp), Bool.false_and]
    cases h3 : sel F c (nI t) k p
    · rfl
    · exact absurd (selA_in hk h3) h
theorem J_sew {n np nq : Nat} {c : Nat} {F : Nat → Nat → Int32} (hJ : J n np nq F) (hcc : c < 6) (hcan : canS F n np (nI c) = true) (hq20 : nq < 20) : J n np (nq + 1) (swF F n np nq (nI c)) := by
  obtain ⟨hI, h1, h2, h3, h4, h5⟩ := hJ
  obtain ⟨hn, hnp, hnq, hsk, hrip, hfr, h11, h12, hpc, hsm⟩ := id hI
  obtain ⟨t, ht, ets, ect, eft⟩ := ts_spec hcan
  have hI2 : Inv n np (nq + 1) (swF F n np nq (nI c)) := Inv_sew hI (by unfold spSew; rw [if_pos (inR_in hcc (by omega)), hcan, decide_eq_true hq20]; rfl)
  obtain ⟨e6, e8, e9, e10, e11, eo⟩ := sew_eqs (nq := nq) ets
  have e1 := eo 1 (by decide) (by decide) (by decide) (by decide) (by decide)
  have e4 := eo 4 (by decide) (by decide) (by decide) (by decide) (by decide)
  have e5 := eo 5 (by decide) (by decide) (by decide) (by decide) (by decide)
  have e7 := eo 7 (by decide) (by decide) (by decide) (by decide) (by decide)
  have e12 := eo 12 (by decide) (by decide) (by decide) (by decide) (by decide)
  have hfq := hfr nq (Nat.le_refl _) hnq
  have hcn := fun k (hk : k < 4) => cn_sel (k := k) hcan ect (by omega) eft hk
  refine ⟨hI2, ?_, ?_, ?_, ?_, ?_⟩
  · intro p hp
    rw [e5, e6, sw_at hnq]
    obtain ⟨a, b, d⟩ := h1 p hp
    by_cases h : p < np ∧ selA F (nI c) (nI t) 4 p = true
    · rw [if_pos h]
      exact ⟨a, Or.inr (Or.inr ⟨nq, by omega, rfl⟩), fun z => absurd z.symm (nI_m2 (by omega))⟩
    · rw [if_neg h]
      refine ⟨a, ?_, d⟩
      rcases b with z | z | ⟨q, hq, z⟩
      · exact Or.inl z
      · exact Or.inr (Or.inl z)
      · exact Or.inr (Or.inr ⟨q, by omega, z⟩)
  · intro s hs
    unfold kdF
    rw [eo (14 + s) (by omega) (by omega) (by omega) (by omega) (by omega), e4, e5]
    exact h2 s hs
  · intro q hq p hp
    rw [e6, e12, e1, e4, e8, e5, e9]
    by_cases e : q = nq
    · subst e
      rw [upd_s, upd_s, sw_at hnq]
      by_cases h : p < np ∧ selA F (nI c) (nI t) 4 p = true
      · obtain ⟨k, hk, hs⟩ := selA_ex h.2
        have hz := sel_kind hs
        refine fun _ => ⟨h12 q (Nat.le_refl _) hq20, hz.2.2.1, fun h0 => hz.2.2.2 ?_⟩
        rcases Nat.eq_zero_or_pos k with z | z
        · exact z
        · exact absurd (hz.2.1.symm.trans h0) (nI_nej (by omega) (by omega) (by omega))
      · rw [if_neg h]
        exact fun z => absurd z (hfq p hp)
    · rw [upd_n _ _ e, upd_n _ _ e]
      intro z
      have := sw_other (F := F) (np := np) (t := t) (c := nI c) (x := nI q) hnq (nI_nej (by omega) (by omega) e) (fun z => nI_m1 (by omega) z.symm) p
      rw [beq_t z] at this
      exact h3 q (by omega) p hp (beq_iff_eq.mp this.symm)
  · intro q hq
    rw [e12, e11, e10, e7, e6]
    by_cases e : q = nq
    · subst e
      rw [upd_s, upd_s]
      refine ⟨fun _ => ⟨fun k hk => ?_, rfl⟩, ?_⟩
      · rw [← hcn k hk]
        refine cn_cong (fun p hp => ?_)
        unfold inQ
        rw [e6, e5]
        exact sw_new hnq hfq hp hk
      · obtain ⟨x, ex, bx, dx⟩ := sO_bits (h := F 4) (g := tk4 F np (nI c) (nI t) (nI q) 4) (v := nI q) hn hsk
        rw [ex]
        refine bc_ok hn bx (dx ?_)
        have hpos : 0 < cn (sel F (nI c) (nI t) 0) np := by rw [hcn 0 (by decide)]; decide
        obtain ⟨p, hp, hs⟩ := cn_ex hpos
        exact ⟨p, hp, by rw [sw_at hnq, if_pos ⟨hp, selA_in (by decide) hs⟩]⟩
    · rw [upd_n _ _ e, upd_n _ _ e]
      have ho : ∀ p, (tk4 F np (nI c) (nI t) (nI nq) 4 p == nI q) = (F 6 p == nI q) := sw_other hnq (nI_nej (by omega) (by omega) e) (fun z => nI_m1 (by omega) z.symm)
      obtain ⟨a, b⟩ := h4 q (by omega)
      refine ⟨fun hz => ⟨fun k hk => ?_, ?_⟩, b⟩
      · rw [← (a hz).1 k hk]
        refine cn_cong (fun p hp => ?_)
        unfold inQ
        rw [e6, e5, ho]
      · rw [(a hz).2]
        exact (sS_cong (fun p _ => ho p) (fun _ _ => rfl)).symm
  · unfold J5 at h5 ⊢
    unfold pAt pUse at h5 ⊢
    rw [e6, e12, cn_cong (Q := fun p => F 6 p == -2) (fun p hp => sw_other hnq (nI_m2 (by omega)) (by decide) p), cn_t (show (fun q => F 12 q == 0) nq = true from beq_t (h12 nq (Nat.le_refl _) hq20))]
    omega
/-- one pair less can be sewn -/
theorem pairs_sew {n np nq : Nat} {c : Nat} {F : Nat → Nat → Int32} (hI : Inv n np nq F) (hcan : canS F n np (nI c) = true) : prN (swF F n np nq (nI c)) n np (nI c) 3 + 1 = prN F n np (nI c) 3 := by
  obtain ⟨hn, hnp, hnq, hsk, hrip, hfr, h11, h12, hpc, hsm⟩ := id hI
  obtain ⟨t, ht, ets, ect, eft⟩ := ts_spec hcan
  obtain ⟨e6, e8, e9, e10, e11, eo⟩ := sew_eqs (nq := nq) ets
  have e1 := eo 1 (by decide) (by decide) (by decide) (by decide) (by decide)
  have e4 := eo 4 (by decide) (by decide) (by decide) (by decide) (by decide)
  have e5 := eo 5 (by decide) (by decide) (by decide) (by decide) (by decide)
  have hcn := fun k (hk : k < 4) => cn_sel (k := k) hcan ect (by omega) eft hk
  have hC : ∀ k, 0 < k → k < 4 → fC F np (nI c) (nI k) = fC (swF F n np nq (nI c)) np (nI c) (nI k) + kP k := fun k hk0 hk => by
    rw [← hcn k hk]
    refine cn_add (fun p hp => ?_)
    unfold isF
    rw [e6, e5, e1, e4, sw_at hnq]
    by_cases h : selA F (nI c) (nI t) 4 p = true
    · rw [if_pos ⟨hp, h⟩, beq_f (fun z => nI_m1 (by omega) z.symm), Bool.false_and]
      obtain ⟨i, hi, hs⟩ := selA_ex h
      have hz := sel_kind hs
      by_cases e : k = i
      · subst e
        rw [hs, beq_t hz.1, beq_t hz.2.1, beq_t (show F 1 (F 4 p).toNatClampNeg = nI c from hz.2.2.1)]
        rfl
      · have hne : ¬ F 5 p = nI k := by rw [hz.2.1]; exact nI_nej (by omega) (by omega) (fun z => e z.symm)
        rw [beq_f hne, Bool.false_and, Bool.and_false]
        cases h3 : sel F (nI c) (nI t) k p
        · rfl
        · exact absurd (sel_kind h3).2.1 hne
    · rw [if_neg (fun z => h z.2)]
      cases h3 : sel F (nI c) (nI t) k p
      · rfl
      · exact absurd (selA_in hk h3) h
  have hT : ∀ s, s < n → fT F np s = fT (swF F n np nq (nI c)) np s + (if s = t then 2 else 0) := fun s hs => by
    have key : fT F np s = fT (swF F n np nq (nI c)) np s + cn (fun p => decide (s = t) && sel F (nI c) (nI t) 0 p) np := by
      refine cn_add (fun p hp => ?_)
      unfold isT
      rw [e6, e5, e4, sw_at hnq]
      by_cases h : selA F (nI c) (nI t) 4 p = true
      · rw [if_pos ⟨hp, h⟩, beq_f (fun z => nI_m1 (by omega) z.symm), Bool.false_and]
        obtain ⟨i, hi, hs2⟩ := selA_ex h
        have hz := sel_kind hs2
        by_cases e : i = 0
        · subst e
          rw [hs2, beq_t hz.1, beq_t (show F 5 p = 0 from hz.2.1), hz.2.2.2 rfl]
          by_cases es : s = t
          · subst es
            rw [beq_t rfl, decide_eq_true rfl]
            rfl
          · rw [beq_f (nI_nej (by omega) (by omega) (fun z => es z.symm)), decide_eq_false es]
            rfl
        · have hne : ¬ F 5 p = 0 := by rw [hz.2.1]; exact nI_nej (b := 0) (by omega) (by omega) e
          rw [beq_f hne, Bool.false_and, Bool.and_false]
          cases h3 : sel F (nI c) (nI t) 0 p
          · rw [Bool.and_false]; rfl
          · exact absurd (sel_kind h3).2.1 hne
      · rw [if_neg (fun z => h z.2)]
        cases h3 : sel F (nI c) (nI t) 0 p
        · rw [Bool.and_false]; rfl
        · exact absurd (selA_in (by decide) h3) h
    rw [key]
    by_cases es : s = t
    · subst es
      rw [if_pos rfl, cn_cong (Q := sel F (nI c) (nI s) 0) (fun p hp => by rw [decide_eq_true rfl, Bool.true_and]), hcn 0 (by decide)]
      rfl
    · rw [if_neg es, cn_none (fun p hp => by rw [decide_eq_false es, Bool.false_and])]
  have hP : ∀ m, m ≤ n → tP (swF F n np nq (nI c)) np (nI c) m + (if t < m then 1 else 0) = tP F np (nI c) m := by
    intro m
    induction m with
    | zero => intro _; rfl
    | succ m ih =>
      intro hm
      have i1 := ih (by omega)
      have i2 := hT m (by omega)
      by_cases hc : F 1 m = nI c
      · rw [tP_t hc, tP_t (by rw [e1]; exact hc), i2, ← i1]
        by_cases e : m = t
        · subst e
          rw [if_neg (Nat.lt_irrefl m), if_pos (Nat.lt_succ_self m), if_pos rfl]
          omega
        · rw [if_neg e]
          by_cases h : t < m
          · rw [if_pos h, if_pos (by omega)]
            omega
          · rw [if_neg h, if_neg (by omega)]
            omega
      · rw [tP_f hc, tP_f (by rw [e1]; exact hc), ← i1]
        have e : ¬ m = t := fun z => hc (by rw [z]; exact ect)
        by_cases h : t < m
        · rw [if_pos h, if_pos (by omega)]
        · rw [if_neg h, if_neg (by omega)]
  have p0 := hP n (Nat.le_refl n)
  rw [if_pos ht] at p0
  have p1 : _ = _ + 2 := hC 1 (by decide) (by decide)
  have p2 : _ = _ + 6 := hC 2 (by decide) (by decide)
  have p3 : _ = _ + 4 := hC 3 (by decide) (by decide)
  rw [prN_3, prN_3]
  omega
