/-! sewing: what is taken, in a closed form -/
/-- the first l of those that have P, among the numbers below j -/
def fst (P : Nat → Bool) (l j : Nat) : Bool := P j && decide (cn P j < l)
theorem cn_fst (P : Nat → Bool) (l : Nat) : ∀ k, cn (fst P l) k = min l (cn P k)
  | 0 => (Nat.min_eq_right (Nat.zero_le l)).symm
  | k + 1 => by
    have ih := cn_fst P l k
    rw [cn_bn (fst P l) k, cn_bn P k, ih]
    show min l (cn P k) + bn (P k && decide (cn P k < l)) = min l (cn P k + bn (P k))
    cases P k
    · rfl
    · by_cases h : cn P k < l
      · rw [decide_eq_true h]
        show min l (cn P k) + 1 = min l (cn P k + 1)
        omega
      · rw [decide_eq_false h]
        show min l (cn P k) + 0 = min l (cn P k + 1)
        omega
theorem tkG_eq {P : (Nat → Int32) → Nat → Bool} {v : Int32} {g : Nat → Int32} {l : Nat} (hloc : ∀ (g1 : Nat → Int32) (j : Nat), g1 j = g j → P g1 j = P g j) : ∀ k, (tkG P v g l k).2 = l - cn (P g) k ∧ ∀ j, (tkG P v g l k).1 j = if j < k ∧ fst (P g) l j = true then v else g j
  | 0 => ⟨rfl, fun j => by rw [if_neg (fun q => absurd q.1 (Nat.not_lt_zero j))]; rfl⟩
  | k + 1 => by
    obtain ⟨h2, h1⟩ := tkG_eq hloc k
    have hk : (tkG P v g l k).1 k = g k := by rw [h1 k, if_neg (fun q => absurd q.1 (Nat.lt_irrefl k))]
    have hP := hloc _ k hk
    rw [tkG, hP, h2, cn_bn (P g) k]
    by_cases c : 0 < l - cn (P g) k ∧ P g k = true
    · rw [if_pos c, c.2]
      refine ⟨by show l - cn (P g) k - 1 = l - (cn (P g) k + 1); omega, fun j => ?_⟩
      have hf : fst (P g) l k = true := by unfold fst; rw [c.2, decide_eq_true (by omega)]; rfl
      by_cases e : j = k
      · subst e
        show upd _ j v j = _
        rw [upd_s, if_pos ⟨by omega, hf⟩]
      · show upd _ k v j = _
        rw [upd_n _ _ e, h1 j]
        by_cases d : j < k ∧ fst (P g) l j = true
        · rw [if_pos d, if_pos ⟨by omega, d.2⟩]
        · rw [if_neg d, if_neg (fun q => d ⟨by omega, q.2⟩)]
    · rw [if_neg c]
      have hf : fst (P g) l k = false := by
        unfold fst
        cases hp : P g k
        · rfl
        · rw [decide_eq_false (fun q => c ⟨by omega, hp⟩)]; rfl
      refine ⟨?_, fun j => ?_⟩
      · show (tkG P v g l k).2 = _
        rw [h2]
        cases hp : P g k
        · rfl
        · have : ¬ 0 < l - cn (P g) k := fun q => c ⟨q, hp⟩
          show _ = l - (cn (P g) k + 1)
          omega
      · rw [h1 j]
        by_cases d : j < k ∧ fst (P g) l j = true
        · rw [if_pos d, if_pos ⟨by omega, d.2⟩]
        · rw [if_neg d, if_neg (fun q => d ⟨by
            rcases Nat.lt_or_ge j k with z | z
            · exact z
            · rw [show j = k by omega, hf] at q
              exact absurd q.2 (by decide), q.2⟩)]
theorem okP_loc (F : Nat → Nat → Int32) (c ts : Int32) (k : Nat) (g g1 : Nat → Int32) (j : Nat) (h : g1 j = g j) : okP F c ts k g1 j = okP F c ts k g j := by
  unfold okP isFg
  rw [h]
theorem okP_kind {F : Nat → Nat → Int32} {c ts : Int32} {k : Nat} {g : Nat → Int32} {j : Nat} (h : okP F c ts k g j = true) : g j = -1 ∧ F 5 j = nI k ∧ F 1 (cl (F 4 j)) = c ∧ (k = 0 → F 4 j = ts) := by
  unfold okP isFg at h
  simp only [Bool.and_eq_true, beq_iff_eq, Bool.or_eq_true, decide_eq_true_eq] at h
  obtain ⟨⟨h1, h2, h3⟩, h4⟩ := h
  exact ⟨h1, h2, h3, fun e => h4.elim (fun z => by omega) id⟩
theorem okP_y {F : Nat → Nat → Int32} {c ts : Int32} {k : Nat} {g : Nat → Int32} {j : Nat} (h1 : g j = -1) (h2 : F 5 j = nI k) (h3 : F 1 (cl (F 4 j)) = c) (h4 : k = 0 → F 4 j = ts) : okP F c ts k g j = true := by
  unfold okP isFg
  unfold cl at h3
  rw [beq_t h1, beq_t h2, beq_t h3]
  by_cases e : k = 0
  · rw [beq_t (h4 e)]
    simp
  · rw [decide_eq_true (by omega)]
    rfl
theorem okP_n {F : Nat → Nat → Int32} {c ts : Int32} {k : Nat} {g : Nat → Int32} {j : Nat} (h : ¬ (g j = -1 ∧ F 5 j = nI k)) : okP F c ts k g j = false := by
  cases q : okP F c ts k g j
  · rfl
  · exact absurd ⟨(okP_kind q).1, (okP_kind q).2.1⟩ h
/-- piece j is taken as one of kind k -/
def sel (F : Nat → Nat → Int32) (c ts : Int32) (k j : Nat) : Bool := fst (okP F c ts k (F 6)) (kP k) j
theorem sel_ok {F : Nat → Nat → Int32} {c ts : Int32} {k j : Nat} (h : sel F c ts k j = true) : okP F c ts k (F 6) j = true := by
  unfold sel fst at h
  simp only [Bool.and_eq_true] at h
  exact h.1
theorem sel_kind {F : Nat → Nat → Int32} {c ts : Int32} {k j : Nat} (h : sel F c ts k j = true) : F 6 j = -1 ∧ F 5 j = nI k ∧ F 1 (cl (F 4 j)) = c ∧ (k = 0 → F 4 j = ts) := okP_kind (sel_ok h)
/-- piece j is taken as one of the first K kinds -/
def selA (F : Nat → Nat → Int32) (c ts : Int32) : Nat → Nat → Bool | 0, _ => false | K + 1, j => selA F c ts K j || sel F c ts K j
theorem selA_ex {F : Nat → Nat → Int32} {c ts : Int32} : ∀ {K j : Nat}, selA F c ts K j = true → ∃ k, k < K ∧ sel F c ts k j = true
  | 0, j, h => by cases h
  | K + 1, j, h => by
    rcases Bool.or_eq_true _ _ ▸ h with q | q
    · obtain ⟨k, a, b⟩ := selA_ex q
      exact ⟨k, by omega, b⟩
    · exact ⟨K, by omega, q⟩
theorem selA_in {F : Nat → Nat → Int32} {c ts : Int32} : ∀ {K j k : Nat}, k < K → sel F c ts k j = true → selA F c ts K j = true
  | 0, j, k, h, _ => absurd h (Nat.not_lt_zero k)
  | K + 1, j, k, h, hs => by
    show (selA F c ts K j || sel F c ts K j) = true
    rcases Nat.lt_or_ge k K with q | q
    · rw [selA_in q hs]; rfl
    · rw [← show k = K by omega, hs, Bool.or_true]
theorem tk4_eq {F : Nat → Nat → Int32} {np : Nat} {c ts v : Int32} (hv : ¬ v = -1) : ∀ K, K ≤ 4 → ∀ j, tk4 F np c ts v K j = if j < np ∧ selA F c ts K j = true then v else F 6 j
  | 0, _, j => by rw [if_neg (fun q => by have := q.2; cases this)]; rfl
  | K + 1, hK, j => by
    have ih := tk4_eq (F := F) (np := np) (c := c) (ts := ts) hv K (by omega)
    have hP : ∀ i, i < np → okP F c ts K (tk4 F np c ts v K) i = okP F c ts K (F 6) i := fun i hi => by
      by_cases h : selA F c ts K i = true
      · have e := ih i
        rw [if_pos ⟨hi, h⟩] at e
        obtain ⟨k, a, b⟩ := selA_ex h
        have kk := (sel_kind b).2.1
        rw [okP_n (g := tk4 F np c ts v K) (fun q => hv (by rw [← e]; exact q.1)), okP_n (g := F 6) (fun q => absurd (kk.symm.trans q.2) (nI_nej (by omega) (by omega) (by omega)))]
      · have e := ih i
        rw [if_neg (fun q => h q.2)] at e
        exact okP_loc _ _ _ _ _ _ _ e
    show (tkG (okP F c ts K) v (tk4 F np c ts v K) (kP K) np).1 j = _
    rw [(tkG_eq (fun g1 i h => okP_loc F c ts K _ g1 i h) np).2 j]
    by_cases hj : j < np
    · have hf : fst (okP F c ts K (tk4 F np c ts v K)) (kP K) j = sel F c ts K j := by
        unfold sel fst
        rw [hP j hj, cn_cong (fun i hi => hP i (by omega))]
      rw [hf, ih j]
      show (if j < np ∧ sel F c ts K j = true then v else if j < np ∧ selA F c ts K j = true then v else F 6 j) = if j < np ∧ (selA F c ts K j || sel F c ts K j) = true then v else F 6 j
      cases selA F c ts K j <;> cases sel F c ts K j <;> simp [hj]
    · rw [if_neg (fun q => hj q.1), if_neg (fun q => hj q.1), ih j, if_neg (fun q => hj q.1)]
/-! when a pair can be sewn, and how many -/
theorem mxT_spec (F : Nat → Nat → Int32) (np : Nat) (c : Int32) : ∀ n, 2 ≤ mxT F np c n ↔ ∃ s, s < n ∧ F 1 s = c ∧ 2 ≤ fT F np s
  | 0 => ⟨fun h => absurd h (by show ¬ 2 ≤ 0; omega), fun ⟨s, h, _⟩ => absurd h (Nat.not_lt_zero s)⟩
  | n + 1 => by
    have ih := mxT_spec F np c n
    by_cases h : F 1 n = c
    · rw [mxT_t h]
      constructor
      · intro q
        by_cases q2 : 2 ≤ mxT F np c n
        · obtain ⟨s, a, b⟩ := ih.mp q2
          exact ⟨s, by omega, b⟩
        · exact ⟨n, by omega, h, by omega⟩
      · rintro ⟨s, a, b, d⟩
        rcases Nat.lt_or_ge s n with q | q
        · have := ih.mpr ⟨s, q, b, d⟩
          omega
        · have e : s = n := by omega
          subst e
          omega
    · rw [mxT_f h, ih]
      constructor
      · rintro ⟨s, a, b⟩
        exact ⟨s, by omega, b⟩
      · rintro ⟨s, a, b, d⟩
        refine ⟨s, ?_, b, d⟩
        rcases Nat.lt_or_ge s n with q | q
        · exact q
        · exact absurd b (by rw [show s = n by omega]; exact h)
theorem tP_spec (F : Nat → Nat → Int32) (np : Nat) (c : Int32) : ∀ n, 1 ≤ tP F np c n ↔ ∃ s, s < n ∧ F 1 s = c ∧ 2 ≤ fT F np s
  | 0 => ⟨fun h => absurd h (by show ¬ 1 ≤ 0; omega), fun ⟨s, h, _⟩ => absurd h (Nat.not_lt_zero s)⟩
  | n + 1 => by
    have ih := tP_spec F np c n
    by_cases h : F 1 n = c
    · rw [tP_t h]
      constructor
      · intro q
        by_cases q2 : 1 ≤ tP F np c n
        · obtain ⟨s, a, b⟩ := ih.mp q2
          exact ⟨s, by omega, b⟩
        · exact ⟨n, by omega, h, by omega⟩
      · rintro ⟨s, a, b, d⟩
        rcases Nat.lt_or_ge s n with q | q
        · have := ih.mpr ⟨s, q, b, d⟩
          omega
        · have e : s = n := by omega
          subst e
          omega
    · rw [tP_f h, ih]
      constructor
      · rintro ⟨s, a, b⟩
        exact ⟨s, by omega, b⟩
      · rintro ⟨s, a, b, d⟩
        refine ⟨s, ?_, b, d⟩
        rcases Nat.lt_or_ge s n with q | q
        · exact q
        · exact absurd b (by rw [show s = n by omega]; exact h)
theorem prN_3 (F : Nat → Nat → Int32) (n np : Nat) (c : Int32) : prN F n np c 3 = min (min (min (tP F np c n) (fC F np c (nI 1) / 2)) (fC F np c (nI 2) / 6)) (fC F np c (nI 3) / 4) := rfl
theorem lk_0 (F : Nat → Nat → Int32) (n np : Nat) (c : Int32) : lkN F n np c 0 = 2 - mxT F np c n := rfl
theorem lk_1 (F : Nat → Nat → Int32) (n np : Nat) (c : Int32) : lkN F n np c 1 = 2 - fC F np c (nI 1) := rfl
theorem lk_2 (F : Nat → Nat → Int32) (n np : Nat) (c : Int32) : lkN F n np c 2 = 6 - fC F np c (nI 2) := rfl
theorem lk_3 (F : Nat → Nat → Int32) (n np : Nat) (c : Int32) : lkN F n np c 3 = 4 - fC F np c (nI 3) := rfl
theorem canS_facts {F : Nat → Nat → Int32} {n np : Nat} {c : Int32} : canS F n np c = true ↔ (lkN F n np c 0 = 0 ∧ lkN F n np c 1 = 0 ∧ lkN F n np c 2 = 0 ∧ lkN F n np c 3 = 0) := by
  unfold canS
  exact decide_eq_true_iff
/-- nothing is lacking just if a pair can be sewn -/
theorem lack_pairs (F : Nat → Nat → Int32) (n np : Nat) (c : Int32) : (lkN F n np c 0 + lkN F n np c 1 + lkN F n np c 2 + lkN F n np c 3 = 0) ↔ 0 < prN F n np c 3 := by
  have h1 := mxT_spec F np c n
  have h2 := tP_spec F np c n
  rw [lk_0, lk_1, lk_2, lk_3, prN_3]
  have h : 2 ≤ mxT F np c n ↔ 1 ≤ tP F np c n := h1.trans h2.symm
  omega
theorem can_pairs (F : Nat → Nat → Int32) (n np : Nat) (c : Int32) : canS F n np c = true ↔ 0 < prN F n np c 3 := by
  rw [canS_facts, ← lack_pairs]
  omega
/-- the skin of the tranks -/
theorem ts_spec {F : Nat → Nat → Int32} {n np : Nat} {c : Int32} (h : canS F n np c = true) : ∃ t, t < n ∧ tsI F n np c = nI t ∧ F 1 t = c ∧ 2 ≤ fT F np t := by
  have h0 := (canS_facts.mp h).1
  rw [lk_0] at h0
  obtain ⟨s, hs, e, m⟩ := (mxT_spec F np c n).mp (by omega)
  unfold tsI
  rcases fI_spec (tsB F np c) (n - 0) 0 with ⟨q, z⟩ | ⟨j, a, b, d, e2, -⟩
  · have := z s (Nat.zero_le s) (by omega)
    rw [tsB_t e m] at this
    cases this
  · refine ⟨j, by omega, d, ?_⟩
    unfold tsB at e2
    simp only [Bool.and_eq_true, beq_iff_eq, decide_eq_true_eq] at e2
    exact e2
