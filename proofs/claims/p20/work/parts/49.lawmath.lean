/-! what the law looks at, step by step -/
def Rel (np : Nat) (F F' : Nat → Nat → Int32) : Prop := ∀ p, p < np → F' 4 p = F 4 p ∧ F' 5 p = F 5 p ∧ F' 7 p = F 7 p ∧ (F 6 p = -2 → F' 6 p = -2)
theorem Rel_refl (np : Nat) (F : Nat → Nat → Int32) : Rel np F F := fun _ _ => ⟨rfl, rfl, rfl, id⟩
theorem Rel_cut {F : Nat → Nat → Int32} {u : Nat → Int32} {np s k a : Nat} {tb : Bool} (hs : s < 10) : Rel np F (cutF (va_up F 13 u) np s k tb a) := by
  intro p hp
  obtain ⟨e4, e5, e6, e7, -⟩ := cut_eqs (va_up F 13 u) np s k tb a hs
  rw [e4, e5, e6, e7, upd_n _ _ (show ¬ p = np by omega), upd_n _ _ (show ¬ p = np by omega), upd_n _ _ (show ¬ p = np by omega), upd_n _ _ (show ¬ p = np by omega), e13 F u 4 (by decide), e13 F u 5 (by decide), e13 F u 6 (by decide), e13 F u 7 (by decide)]
  exact ⟨rfl, rfl, rfl, id⟩
theorem Rel_sew {F : Nat → Nat → Int32} {u : Nat → Int32} {n np nq c : Nat} (hI : Inv n np nq F) (hcan : canS F n np (nI c) = true) : Rel np F (swF (va_up F 13 u) n np nq (nI c)) := by
  intro p hp
  obtain ⟨t, ht, ets, ect, eft⟩ := ts_spec (F := va_up F 13 u) (by rw [canS_T]; exact hcan)
  obtain ⟨e6, -, -, -, -, eo⟩ := sew_eqs (nq := nq) ets
  rw [eo 4 (by decide) (by decide) (by decide) (by decide) (by decide), eo 5 (by decide) (by decide) (by decide) (by decide) (by decide), eo 7 (by decide) (by decide) (by decide) (by decide) (by decide), e6, e13 F u 4 (by decide), e13 F u 5 (by decide), e13 F u 7 (by decide)]
  refine ⟨rfl, rfl, rfl, fun h => ?_⟩
  have := sw_other (F := va_up F 13 u) (np := np) (nq := nq) (t := t) (c := nI c) (x := -2) hI.2.2.1 (nI_m2 (by have := hI.2.2.1; omega)) (by decide) p
  rw [e13 F u 6 (by decide), beq_t h] at this
  exact beq_iff_eq.mp this
theorem Rel_rip {F : Nat → Nat → Int32} {u : Nat → Int32} {n np nq q : Nat} (hI : Inv n np nq F) (hq : q < nq) : Rel np F (ripF (va_up F 13 u) np q) := by
  intro p hp
  obtain ⟨e12, e6, eo⟩ := rip_eqs (va_up F 13 u) np q
  rw [eo 4 (by decide) (by decide), eo 5 (by decide) (by decide), eo 7 (by decide) (by decide), e6, e13 F u 4 (by decide), e13 F u 5 (by decide), e13 F u 7 (by decide), e13 F u 6 (by decide), rp_eq]
  refine ⟨rfl, rfl, rfl, fun h => ?_⟩
  rw [if_neg (fun z => absurd (h.symm.trans z.2) (nI_m2 (by have := hI.2.2.1; omega)))]
  exact h
/-- the piece's row and what is told of it later -/
theorem rel_g {np : Nat} {F F' : Nat → Nat → Int32} {g : Nat → Nat → Int32} (hg : ∀ p, p < np → ∀ w, w < 4 → g p w = pcT F p w) (hr : Rel np F F') : ∀ p, p < np → g p 0 = F' 4 p ∧ g p 1 = F' 5 p ∧ g p 3 = F' 7 p ∧ (g p 2 = -2 → F' 6 p = -2) := by
  intro p hp
  obtain ⟨a, b, c, d⟩ := hr p hp
  have h := hg p hp
  exact ⟨(h 0 (by decide)).trans a.symm, (h 1 (by decide)).trans b.symm, (h 3 (by decide)).trans c.symm, fun z => d ((h 2 (by decide)).symm.trans z)⟩
/-- a piece is cut at its first place -/
theorem cut_law {n np nq s k a : Nat} {tb : Bool} {F F' : Nat → Nat → Int32} {u : Nat → Int32} (hJ : J n np nq F) (hs : s < n) (hk : k < 4) (ha : a < 96) (hg : fI (fitA (F (14 + s)) k tb) 0 (96 - 0) = nI a) (hf : fitA (F (14 + s)) k tb a = true) (hp : np < 150) (hF : F' = cutF (va_up F 13 u) np s k tb a) :
    J n (np + 1) nq F' ∧ Rel np F F' ∧ F' 4 np = nI s ∧ F' 5 np = nI k ∧ F' 6 np = -1 ∧ (∃ x, F' 7 np = nI x ∧ cv (F' (14 + s)) (nI 1) + x = cv (F (14 + s)) (nI 1) ∧ x ≤ kT k) ∧ cv (F' (14 + s)) (nI 3) = cv (F (14 + s)) (nI 3) + kz k ∧ F' (14 + s) (12 * (a / 12) + a % 12) = nI 3 ∧ gvT F' k tb s + 1 = gvT F k tb s := by
  subst hF
  have hn := hJ.inv.1
  have hfu : fitA ((va_up F 13 u) (14 + s)) k tb a = true := by rw [e13 F u _ (by omega)]; exact hf
  obtain ⟨e4, e5, e6, e7, ec, eo⟩ := cut_eqs (va_up F 13 u) np s k tb a (by omega)
  have hsm := hJ.small hs
  have cc := cut_cv hsm hf
  refine ⟨J_cut (J_T hJ u) hs hk ha hfu hp, Rel_cut (by omega), ?_, ?_, ?_, ?_, ?_, ?_, ?_⟩
  · rw [e4, upd_s]
  · rw [e5, upd_s]
  · rw [e6, upd_s]
  · rw [e7, upd_s, ec, e13 F u _ (by omega), wh_kz]
    exact ⟨_, rfl, cc.2.1, (fit_facts hf).2.2.2⟩
  · rw [ec, e13 F u _ (by omega)]
    exact cc.2.2.2.1
  · rw [ec, e13 F u _ (by omega), Nat.div_add_mod, gv_fl]
    have h := fl_in (F (14 + s)) a (wd k tb) (nI 3) (kz k) 0 (kz_ge k)
    rw [show pl a (wd k tb) 0 = a by unfold pl; rw [Nat.zero_div, Nat.zero_mod]; omega] at h
    exact h
  · unfold gvT
    rw [ec, e13 F u _ (by omega)]
    exact (gv_cut hsm ha hg).symm
/-- a pair is sewn -/
theorem sew_law {n np nq c : Nat} {F F' : Nat → Nat → Int32} {u : Nat → Int32} (hJ : J n np nq F) (hc : c < 6) (hcan : canS F n np (nI c) = true) (hq : nq < 20) (hF : F' = swF (va_up F 13 u) n np nq (nI c)) :
    J n np (nq + 1) F' ∧ Rel np F F' ∧ prN F' n np (nI c) 3 + 1 = prN F n np (nI c) 3 ∧ F' 8 nq = nI c ∧ ∃ t, t < n ∧ F' 9 nq = nI t ∧ F' 1 t = nI c := by
  subst hF
  have hcu : canS (va_up F 13 u) n np (nI c) = true := by rw [canS_T]; exact hcan
  obtain ⟨t, ht, ets, ect, eft⟩ := ts_spec hcu
  obtain ⟨e6, e8, e9, e10, e11, eo⟩ := sew_eqs (nq := nq) ets
  refine ⟨J_sew (J_T hJ u) hc hcu hq, Rel_sew hJ.inv hcan, ?_, ?_, t, ht, ?_, ?_⟩
  · rw [pairs_sew (J_T hJ u).inv hcu, prN_T]
  · rw [e8, upd_s]
  · rw [e9, upd_s]
  · rw [eo 1 (by decide) (by decide) (by decide) (by decide) (by decide)]
    exact ect
/-- a pair is ripped up -/
theorem rip_law {n np nq q : Nat} {F F' : Nat → Nat → Int32} {u : Nat → Int32} (hJ : J n np nq F) (hq : q < nq) (h0 : F 12 q = 0) (hF : F' = ripF (va_up F 13 u) np q) :
    J n np nq F' ∧ Rel np F F' ∧ pAt F' np (-2) = pAt F np (-2) + 6 := by
  subst hF
  have h0u : va_up F 13 u 12 q = 0 := by rw [e13 F u 12 (by decide)]; exact h0
  refine ⟨J_rip (J_T hJ u) hq h0u, Rel_rip hJ.inv hq, ?_⟩
  rw [rip_6 (J_T hJ u) hq h0u]
  unfold pAt
  rw [e13 F u 6 (by decide)]
/-! the law's own sums -/
theorem st_ce {F : Nat → Nat → Int32} {n p k kd : Nat} {f : Nat → Int32} (hn : n ≤ 10) (h : ∀ s, s < n → f s = nI (sm (kdF F s) p)) (hk : k < n) (e4 : F 4 p = nI k) (e5 : F 5 p = nI kd) (hkd : kd < 4) : ∀ s, s < n → upd f k (f k + nI (kz kd)) s = nI (sm (kdF F s) (p + 1)) := by
  intro s hs
  rw [sm_s]
  unfold kdF
  rw [e4, e5, cl_n (by omega)]
  by_cases e : s = k
  · subst e
    rw [upd_s, h s hs, nI_add, if_pos rfl]
    rfl
  · rw [upd_n _ _ e, h s hs, if_neg (nI_nej (by omega) (by omega) (fun z => e z.symm))]
    rfl
theorem st_ma {F : Nat → Nat → Int32} {n p k : Nat} {f : Nat → Int32} (hn : n ≤ 10) (h : ∀ s, s < n → f s = nI (cn (fun i => F 4 i == nI s) p)) (hk : k < n) (e4 : F 4 p = nI k) : ∀ s, s < n → upd f k (f k + nI 1) s = nI (cn (fun i => F 4 i == nI s) (p + 1)) := by
  intro s hs
  by_cases e : s = k
  · subst e
    rw [upd_s, h s hs, nI_add, cn_t (show (fun i => F 4 i == nI s) p = true from beq_t e4)]
  · rw [upd_n _ _ e, h s hs, cn_f (show (fun i => F 4 i == nI s) p = false from beq_f (by rw [e4]; exact nI_nej (by omega) (by omega) (fun z => e z.symm)))]
theorem st_h0 {F : Nat → Nat → Int32} {p : Nat} {g : Nat → Nat → Int32} (h : ∀ q, q < 20 → ∀ k, k < 4 → g q k = nI (cn (inQ F q k) p)) (e6 : F 6 p = -1 ∨ F 6 p = -2) : ∀ q, q < 20 → ∀ k, k < 4 → g q k = nI (cn (inQ F q k) (p + 1)) := by
  intro q hq k hk
  rw [h q hq k hk, cn_f (show inQ F q k p = false from by
    unfold inQ
    rcases e6 with z | z
    · rw [z, beq_f (nI_m1 (by omega))]; rfl
    · rw [z, beq_f (nI_m2 (by omega))]; rfl)]
theorem st_hq {F : Nat → Nat → Int32} {p q0 kd : Nat} {g : Nat → Nat → Int32} (h : ∀ q, q < 20 → ∀ k, k < 4 → g q k = nI (cn (inQ F q k) p)) (hq0 : q0 < 20) (hkd : kd < 4) (e6 : F 6 p = nI q0) (e5 : F 5 p = nI kd) : ∀ q, q < 20 → ∀ k, k < 4 → va_up g q0 (upd (g q0) kd (g q0 kd + nI 1)) q k = nI (cn (inQ F q k) (p + 1)) := by
  intro q hq k hk
  by_cases e : q = q0
  · subst e
    rw [va_up_self]
    by_cases e2 : k = kd
    · subst e2
      rw [upd_s, h q hq k hk, nI_add, cn_t (show inQ F q k p = true from by unfold inQ; rw [e6, e5, beq_t rfl, beq_t rfl]; rfl)]
    · rw [upd_n _ _ e2, h q hq k hk, cn_f (show inQ F q k p = false from by unfold inQ; rw [e5, beq_f (nI_nej (by omega) (by omega) (fun z => e2 z.symm)), Bool.and_false])]
  · rw [va_up_ne _ _ e, h q hq k hk, cn_f (show inQ F q k p = false from by unfold inQ; rw [e6, beq_f (nI_nej (by omega) (by omega) (fun z => e z.symm)), Bool.false_and])]
theorem st_t0 {F : Nat → Nat → Int32} {p : Nat} {f : Nat → Int32} (h : ∀ q, q < 20 → f q = sS (F 7) (F 6) (nI q) p) (e6 : F 6 p = -1 ∨ F 6 p = -2) : ∀ q, q < 20 → f q = sS (F 7) (F 6) (nI q) (p + 1) := by
  intro q hq
  rw [h q hq, sS, beq_f (by
    rcases e6 with z | z
    · rw [z]; exact nI_m1 (by omega)
    · rw [z]; exact nI_m2 (by omega))]
  rfl
theorem st_tq {F : Nat → Nat → Int32} {p q0 : Nat} {f : Nat → Int32} (h : ∀ q, q < 20 → f q = sS (F 7) (F 6) (nI q) p) (hq0 : q0 < 20) (e6 : F 6 p = nI q0) : ∀ q, q < 20 → upd f q0 (f q0 + F 7 p) q = sS (F 7) (F 6) (nI q) (p + 1) := by
  intro q hq
  by_cases e : q = q0
  · subst e
    rw [upd_s, h q hq, sS, beq_t e6]
    rfl
  · rw [upd_n _ _ e, h q hq, sS, beq_f (by rw [e6]; exact nI_nej (by omega) (by omega) (fun z => e z.symm))]
    rfl
theorem due_ok : ∀ j, j < 4 → upd (upd (upd (upd (fun _ => 0) 0 (nI 2)) 1 (nI 2)) 2 (nI 6)) 3 (nI 4) j = nI (kP j) := by
  intro j hj
  rcases lt4 hj with rfl | rfl | rfl | rfl <;> rfl
theorem size_ok : ∀ j, j < 4 → upd (upd (upd (upd (fun _ => 0) 0 (nI 12)) 1 (nI 4)) 2 (nI 3)) 3 (nI 1) j = nI (kz j) := by
  intro j hj
  rcases lt4 hj with rfl | rfl | rfl | rfl <;> rfl
theorem kz_le {k : Nat} : kz k ≤ 12 := Nat.le_trans (Nat.mul_le_mul (kW_le k).1 (kH_le k).1) (Nat.le_refl _)
theorem no_pair {n np nq q k : Nat} {F : Nat → Nat → Int32} (hJ : J n np nq F) (hq : q < nq) (h1 : F 12 q = 1) : cn (inQ F q k) np = 0 := cn_none (fun p hp => by
  unfold inQ
  rw [beq_f (fun z => by rw [(hJ.2.2.2.1 q hq p hp z).1] at h1; exact absurd h1 (by decide))]
  rfl)
theorem sm4 (f : Nat → Nat) : sm f 4 = f 0 + f 1 + f 2 + f 3 := by
  show 0 + f 0 + f 1 + f 2 + f 3 = _
  omega
theorem share_eq (F : Nat → Nat → Int32) (n : Nat) : shV F n = if shA F n = 0 then 0 else FP.ddiv (FP.i2d (nI (shC F n))) (FP.i2d (nI (shA F n))) := rfl
theorem prN_b {F : Nat → Nat → Int32} {n np : Nat} {c : Int32} (h : np ≤ 150) : prN F n np c 3 ≤ 150 := by
  rw [prN_3]
  have := fC_le F np c (nI 3)
  omega
theorem dc_selfN {x : UInt64} (h : FP.Core.dIsNaN x = false) : Op.cmpValue (FP.dcmp x x) CmpOp.l = nI 0 := dc_self h
