/-! what the law's loop keeps: the workshop's own sums -/
def kdF (F : Nat → Nat → Int32) (s p : Nat) : Nat := if F 4 p = nI s then kz (cl (F 5 p)) else 0
/-- how many pieces of kind k are in pair q -/
def inQ (F : Nat → Nat → Int32) (q k p : Nat) : Bool := F 6 p == nI q && F 5 p == nI k
def J1 (np nq : Nat) (F : Nat → Nat → Int32) : Prop := ∀ p, p < np → (∃ k, k < 4 ∧ F 5 p = nI k) ∧ (F 6 p = -1 ∨ F 6 p = -2 ∨ ∃ q, q < nq ∧ F 6 p = nI q) ∧ (F 6 p = -2 → F 5 p = nI 2)
def J2 (n np : Nat) (F : Nat → Nat → Int32) : Prop := ∀ s, s < n → cv (F (14 + s)) (nI 3) = sm (kdF F s) np
def J3 (np nq : Nat) (F : Nat → Nat → Int32) : Prop := ∀ q, q < nq → ∀ p, p < np → F 6 p = nI q → F 12 q = 0 ∧ F 1 (cl (F 4 p)) = F 8 q ∧ (F 5 p = nI 0 → F 4 p = F 9 q)
def J4 (n np nq : Nat) (F : Nat → Nat → Int32) : Prop := ∀ q, q < nq → (F 12 q = 0 → (∀ k, k < 4 → cn (inQ F q k) np = kP k) ∧ F 11 q = sS (F 7) (F 6) (nI q) np) ∧ ∃ j, 1 ≤ j ∧ j ≤ n ∧ F 10 q = nI j
def J5 (np nq : Nat) (F : Nat → Nat → Int32) : Prop := pAt F np (-2) + 6 * pUse F nq = 6 * nq
def J (n np nq : Nat) (F : Nat → Nat → Int32) : Prop := Inv n np nq F ∧ J1 np nq F ∧ J2 n np F ∧ J3 np nq F ∧ J4 n np nq F ∧ J5 np nq F
theorem J.inv {n np nq : Nat} {F : Nat → Nat → Int32} (h : J n np nq F) : Inv n np nq F := h.1
/-- only arrays that tell count -/
theorem J_T {n np nq : Nat} {F : Nat → Nat → Int32} (h : J n np nq F) (u : Nat → Int32) : J n np nq (va_up F 13 u) := by
  obtain ⟨a, b, c, d, e, f⟩ := h
  have e0 : ∀ k, ¬ k = 13 → va_up F 13 u k = F k := fun k hk => va_up_ne _ _ hk
  refine ⟨Inv_T a u, ?_, ?_, ?_, ?_, ?_⟩
  · unfold J1; rw [e0 5 (by decide), e0 6 (by decide)]; exact b
  · intro s hs
    unfold kdF
    rw [e0 (14 + s) (by omega), e0 4 (by decide), e0 5 (by decide)]
    exact c s hs
  · unfold J3; rw [e0 6 (by decide), e0 12 (by decide), e0 1 (by decide), e0 4 (by decide), e0 8 (by decide), e0 5 (by decide), e0 9 (by decide)]; exact d
  · unfold J4 inQ; rw [e0 12 (by decide), e0 6 (by decide), e0 5 (by decide), e0 11 (by decide), e0 7 (by decide), e0 10 (by decide)]; exact e
  · unfold J5 pAt pUse; rw [e0 6 (by decide), e0 12 (by decide)]; exact f
/-! the first phase: skins alone -/
def K1 (n : Nat) (F : Nat → Nat → Int32) : Prop := Inv n 0 0 F ∧ ∀ s, s < 10 → ∀ q, q < 96 → ¬ F (14 + s) q = nI 3
theorem K1_0 : K1 0 (fun _ _ => 0) := ⟨Inv_0, fun _ _ _ _ => show ¬ (0 : Int32) = nI 3 from by decide⟩
theorem K1_lay {n : Nat} {F : Nat → Nat → Int32} {c : Nat} (h : K1 n F) (hn : n < 10) (hc : c < 6) : spLay n (nI c) = (0, nI n) ∧ K1 (n + 1) (layF F n (nI c)) := by
  have e : spLay n (nI c) = (0, nI n) := by
    unfold spLay
    rw [if_pos (inR_in hc (by omega)), if_pos hn]
  refine ⟨e, Inv_lay h.1 (by rw [e]), fun s hs => ?_⟩
  unfold layF
  rw [va_up_ne _ _ (by omega)]
  exact h.2 s hs
theorem K1_mark {n : Nat} {F : Nat → Nat → Int32} {s x y w hh v : Nat} (h : K1 n F) (hs : s < n) (hx : x < 12) (hy : y < 8) (hw : 1 ≤ w ∧ w ≤ 12 - x) (hh2 : 1 ≤ hh ∧ hh ≤ 8 - y) (hv : v = 1 ∨ v = 2) : (∃ r, spMark n F (nI s) (nI x) (nI y) (nI w) (nI hh) (nI v) = (0, r)) ∧ K1 n (stMark F (nI s) (nI x) (nI y) (nI w) (nI hh) (nI v)) := by
  have hn := h.1.1
  have e : ∃ r, spMark n F (nI s) (nI x) (nI y) (nI w) (nI hh) (nI v) = (0, r) := by
    rw [spMark_1 hn hs hx hy hw hh2 (inR_in (by omega) (by omega))]
    have c0 : ct (F (14 + s)) (12 * y + x) w (nI 3) (w * hh) = 0 := cn_none (fun j hj => by
      unfold ctP
      have hp := pl_lt (x := x) (y := y) (w := w) (h := hh) (k := j) (by omega) hj
      exact beq_f (h.2 s (by omega) _ (by omega)))
    rw [if_pos c0]
    exact ⟨_, rfl⟩
  refine ⟨e, Inv_mark h.1 (by obtain ⟨r, hr⟩ := e; rw [hr]), fun t ht q hq => ?_⟩
  rw [stMark_n (by omega) hx hy (by omega) (by omega)]
  unfold mkF
  by_cases et : t = s
  · subst et
    rw [va_up_self]
    rcases fl_or (F (14 + t)) (12 * y + x) w (nI v) (w * hh) q with z | z
    · rw [z]; exact h.2 t ht q hq
    · rw [z]; exact nI_nej (by omega) (by omega) (by omega)
  · rw [va_up_ne _ _ (by omega)]
    exact h.2 t ht q hq
theorem J_K1 {n : Nat} {F : Nat → Nat → Int32} (h : K1 n F) : J n 0 0 F := by
  refine ⟨h.1, fun p hp => absurd hp (Nat.not_lt_zero p), fun s hs => ?_, fun q hq => absurd hq (Nat.not_lt_zero q), fun q hq => absurd hq (Nat.not_lt_zero q), rfl⟩
  have hn := h.1.1
  exact cn_none (fun q hq => beq_f (h.2 s (by omega) q hq))
/-! a piece is cut -/
theorem cut_eqs (F : Nat → Nat → Int32) (np s k : Nat) (tb : Bool) (fr : Nat) (hs : s < 10) : cutF F np s k tb fr 4 = upd (F 4) np (nI s) ∧ cutF F np s k tb fr 5 = upd (F 5) np (nI k) ∧ cutF F np s k tb fr 6 = upd (F 6) np (-1) ∧ cutF F np s k tb fr 7 = upd (F 7) np (nI (ct (F (14 + s)) fr (wd k tb) (nI 1) (wd k tb * hg k tb))) ∧ cutF F np s k tb fr (14 + s) = gvF (F (14 + s)) k tb fr ∧ (∀ j, ¬ j = 2 → ¬ j = 4 → ¬ j = 5 → ¬ j = 6 → ¬ j = 7 → ¬ j = 14 + s → cutF F np s k tb fr j = F j) := by
  unfold cutF
  refine ⟨?_, ?_, ?_, ?_, ?_, ?_⟩
  · rw [va_up_ne _ _ (by decide), va_up_ne _ _ (by omega), va_up_ne _ _ (by decide), va_up_ne _ _ (by decide), va_up_ne _ _ (by decide), va_up_self]
  · rw [va_up_ne _ _ (by decide), va_up_ne _ _ (by omega), va_up_ne _ _ (by decide), va_up_ne _ _ (by decide), va_up_self]
  · rw [va_up_ne _ _ (by decide), va_up_ne _ _ (by omega), va_up_ne _ _ (by decide), va_up_self]
  · rw [va_up_ne _ _ (by decide), va_up_ne _ _ (by omega), va_up_self]
  · rw [va_up_ne _ _ (by omega), va_up_self]; rfl
  · intro j h2 h4 h5 h6 h7 h14
    rw [va_up_ne _ _ h2, va_up_ne _ _ h14, va_up_ne _ _ h7, va_up_ne _ _ h6, va_up_ne _ _ h5, va_up_ne _ _ h4]
theorem cn_snoc {P Q : Nat → Bool} {np : Nat} (h : ∀ p, p < np → P p = Q p) (hn : P np = false) : cn P (np + 1) = cn Q np := by
  rw [cn_f hn, cn_cong h]
theorem sS_cong {h h' g g' : Nat → Int32} {v : Int32} : ∀ {np : Nat}, (∀ p, p < np → (g p == v) = (g' p == v)) → (∀ p, p < np → h p = h' p) → sS h g v np = sS h' g' v np
  | 0, _, _ => rfl
  | p + 1, a, b => by
    rw [sS, sS, a p (by omega), b p (by omega), sS_cong (fun q hq => a q (by omega)) (fun q hq => b q (by omega))]
theorem sp_cut {n np nq s k a : Nat} {tb : Bool} {F : Nat → Nat → Int32} (hJ : Inv n np nq F) (hs : s < n) (hk : k < 4) (ha : a < 96) : spCut n np F (nI s) (nI k) tb (nI (a % 12)) (nI (a / 12)) = if (fitA (F (14 + s)) k tb a && decide (np < 150)) = true then (0, nI np) else (3, 0) := by
  rw [spCut_1 hJ.1 hs (by omega) (by omega) hk]
  rfl
theorem st_cut {n np nq s k a : Nat} {tb : Bool} {F : Nat → Nat → Int32} (hJ : Inv n np nq F) (hs : s < n) (hk : k < 4) (ha : a < 96) : stCut F np (nI s) (nI k) tb (nI (a % 12)) (nI (a / 12)) = cutF F np s k tb a := by
  have := hJ.1
  rw [stCut_n (by omega) (by omega) (by omega) hk, Nat.div_add_mod]
theorem J_cut {n np nq s k a : Nat} {tb : Bool} {F : Nat → Nat → Int32} (hJ : J n np nq F) (hs : s < n) (hk : k < 4) (ha : a < 96) (hf : fitA (F (14 + s)) k tb a = true) (hp : np < 150) : J n (np + 1) nq (cutF F np s k tb a) := by
  obtain ⟨hI, h1, h2, h3, h4, h5⟩ := hJ
  have hn := hI.1
  have hq := hI.2.2.1
  have hsk := hI.2.2.2.1
  have hsm := hI.2.2.2.2.2.2.2.2.2
  have hI2 : Inv n (np + 1) nq (cutF F np s k tb a) := by
    have := Inv_cut (s := nI s) (k := nI k) (x := nI (a % 12)) (y := nI (a / 12)) (tb := tb) hI (by rw [sp_cut hI hs hk ha, hf, decide_eq_true hp]; rfl)
    rw [st_cut hI hs hk ha] at this
    exact this
  obtain ⟨e4, e5, e6, e7, ec, eo⟩ := cut_eqs F np s k tb a (by omega)
  have e1 := eo 1 (by decide) (by decide) (by decide) (by decide) (by decide) (by omega)
  have e8 := eo 8 (by decide) (by decide) (by decide) (by decide) (by decide) (by omega)
  have e9 := eo 9 (by decide) (by decide) (by decide) (by decide) (by decide) (by omega)
  have e10 := eo 10 (by decide) (by decide) (by decide) (by decide) (by decide) (by omega)
  have e11 := eo 11 (by decide) (by decide) (by decide) (by decide) (by decide) (by omega)
  have e12 := eo 12 (by decide) (by decide) (by decide) (by decide) (by decide) (by omega)
  refine ⟨hI2, ?_, ?_, ?_, ?_, ?_⟩
  · intro p hp2
    rw [e5, e6]
    by_cases e : p = np
    · subst e
      rw [upd_s, upd_s]
      exact ⟨⟨k, hk, rfl⟩, Or.inl rfl, fun z => absurd z (by decide)⟩
    · rw [upd_n _ _ e, upd_n _ _ e]
      exact h1 p (by omega)
  · intro t ht
    have hc : ∀ p, p < np → kdF (cutF F np s k tb a) t p = kdF F t p := fun p hp2 => by
      unfold kdF
      rw [e4, e5, upd_n _ _ (show ¬ p = np by omega), upd_n _ _ (show ¬ p = np by omega)]
    rw [sm_s, sm_cong hc, ← h2 t ht]
    have hlast : kdF (cutF F np s k tb a) t np = if nI s = nI t then kz k else 0 := by
      unfold kdF
      rw [e4, e5, upd_s, upd_s, cl_n (by omega)]
    rw [hlast]
    by_cases e : t = s
    · subst e
      rw [if_pos rfl, ec]
      exact (cut_cv (hsm t (by omega)) hf).2.2.2.1
    · rw [if_neg (nI_nej (by omega) (by omega) (fun z => e z.symm)), eo (14 + t) (by omega) (by omega) (by omega) (by omega) (by omega) (by omega), Nat.add_zero]
  · intro q hq2 p hp2
    rw [e6, e12, e1, e4, e8, e5, e9]
    by_cases e : p = np
    · subst e
      rw [upd_s]
      exact fun z => absurd z (nI_m1 (by omega))
    · rw [upd_n _ _ e, upd_n _ _ e, upd_n _ _ e]
      exact h3 q hq2 p (by omega)
  · intro q hq2
    rw [e12, e11, e10]
    refine ⟨fun hz => ⟨fun i hi => ?_, ?_⟩, (h4 q hq2).2⟩
    · rw [← ((h4 q hq2).1 hz).1 i hi]
      refine cn_snoc (fun p hp2 => ?_) ?_
      · unfold inQ
        rw [e6, e5, upd_n _ _ (show ¬ p = np by omega), upd_n _ _ (show ¬ p = np by omega)]
      · unfold inQ
        rw [e6, upd_s, beq_f (nI_m1 (by omega))]; rfl
    · rw [((h4 q hq2).1 hz).2, e6, e7]
      show _ = sS _ _ (nI q) (np + 1)
      rw [sS, upd_s, beq_f (nI_m1 (by omega))]
      exact (sS_cong (fun p hp2 => by rw [upd_n _ _ (show ¬ p = np by omega)]) (fun p hp2 => by rw [upd_n _ _ (show ¬ p = np by omega)])).symm
  · unfold J5 at h5 ⊢
    rw [← h5]
    unfold pAt pUse
    rw [e6, e12]
    rw [cn_snoc (P := fun p => upd (F 6) np (-1) p == -2) (Q := fun p => F 6 p == -2) (fun p hp2 => by show (upd (F 6) np (-1) p == -2) = _; rw [upd_n _ _ (show ¬ p = np by omega)]) (by show (upd (F 6) np (-1) np == -2) = false; rw [upd_s]; decide)]
