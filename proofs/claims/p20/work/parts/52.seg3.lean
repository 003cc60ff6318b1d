set_option maxHeartbeats 4000000 in
set_option maxRecDepth 100000 in
/-- what is done in this round -/
theorem sg_3 {p : Program} {l : Launch} {e : Env} {R : Room} {s : State} {m : MethodId} {args : Array Value} {below : List Frame} {meth : Method} {c : Code} {Q : State → Prop} {D : va_G} {cI cZ cO : ClassId} {ad : Nat → Nat} {b L : Nat} {xs : Nat → Int32} (hst : l.stackTraces = false) (hCx : LC cL_law 29 wsL_law p s m c args R D cI cZ cO b L xs) (hAD : inj ad 23 ∧ ∀ i, i ≤ 23 → s.heap.size ≤ ad i) (n np nq : Nat) (F : Nat → Nat → Int32) (z : Nat) (szf : Nat → Int32) (tm : Nat) (v : Int32) (sk kd co : Nat) (tb : Bool) (pl : Int32) (pq : Nat) (g9 : Nat → Nat → Int32) (hadz : ∀ i, i ≤ 23 → ad i < z) (hzA : s.heap.size ≤ z) (hsz : ∀ k, k < 4 → szf k = nI (kz k)) (htm : tm < 24) (hn1 : 1 ≤ n) (hsk : sk < n) (hkd : kd < 4) (hco : co < 4) (hzp : z < pq) (hg : ∀ p, p < np → ∀ w, w < 4 → g9 p w = pcT F p w) (hJ : J n np nq F) (cc ss : Nat) (H1 : Heap) (locs : List Loc) (ls : Array Slot) (hRc : cc + 10 ≤ R.cells) (hRs : ss + 10 ≤ R.slots) (hG : GW D cI cZ cO ad n np nq F H1) (h_z : ar cI z 4 szf H1) (h_pqo : ao cO pq np H1) (h_pq : ∀ i, i < np → ar cI (pq + 1 + i) 4 (g9 i) H1) (hS : va_S (LA s) s.heap H1 locs) (hl : lv_has ls 29 [(0, .ref b), (1, .ref (ad 0)), (2, .int (nI n)), (3, .ref z), (4, .int (nI tm)), (5, .int v), (6, .int (nI np)), (7, .int (nI nq)), (8, .int (nI (pAt F np (-2)))), (9, .int (nI sk)), (10, .int (nI kd)), (11, .int (bI tb)), (12, .long (dG n np nq F)), (14, .int (nI (gvT F kd tb sk))), (16, .int pl), (17, .int (nI co)), (18, .int (nI (prN F n np (nI co) 3))), (19, .ref pq)]) (kk352 : ∀ (cc' ss' : Nat) (H1 : Heap) (locs : List Loc) (ls : Array Slot), cc' ≤ cc + 10 → ss' ≤ ss + 10 → GW D cI cZ cO ad n np nq F H1 → (ar cI z 4 szf H1) → (ao cO pq np H1) → (∀ i, i < np → ar cI (pq + 1 + i) 4 (g9 i) H1) → va_S (LA s) s.heap H1 locs → lv_has ls 29 [(0, .ref b), (1, .ref (ad 0)), (2, .int (nI n)), (3, .ref z), (4, .int (nI tm)), (5, .int v), (6, .int (nI np)), (7, .int (nI nq)), (8, .int (nI (pAt F np (-2)))), (9, .int (nI sk)), (10, .int (nI kd)), (11, .int (bI tb)), (12, .long (dG n np nq F)), (14, .int (nI (gvT F kd tb sk))), (16, .int pl), (17, .int (nI co)), (18, .int (nI (prN F n np (nI co) 3))), (19, .ref pq)] → W p l e R s m args below meth c H1 locs cc' ss' Q (F0 m 352 ls [])) (kk564 : ∀ (cc' ss' : Nat) (H1 : Heap) (locs : List Loc) (ls : Array Slot), cc' ≤ cc + 10 → ss' ≤ ss + 10 → GW D cI cZ cO ad n np nq F H1 → (ar cI z 4 szf H1) → (ao cO pq np H1) → (∀ i, i < np → ar cI (pq + 1 + i) 4 (g9 i) H1) → va_S (LA s) s.heap H1 locs → lv_has ls 29 [(0, .ref b), (1, .ref (ad 0)), (2, .int (nI n)), (3, .ref z), (4, .int (nI tm)), (5, .int v), (6, .int (nI np)), (7, .int (nI nq)), (8, .int (nI (pAt F np (-2)))), (9, .int (nI sk)), (10, .int (nI kd)), (11, .int (bI tb)), (12, .long (dG n np nq F)), (14, .int (nI (gvT F kd tb sk))), (16, .int pl), (17, .int (nI co)), (18, .int (nI (prN F n np (nI co) 3))), (19, .ref pq)] → W p l e R s m args below meth c H1 locs cc' ss' Q (F0 m 564 ls [])) (kk659 : ∀ (cc' ss' : Nat) (H1 : Heap) (locs : List Loc) (ls : Array Slot), cc' ≤ cc + 10 → ss' ≤ ss + 10 → GW D cI cZ cO ad n np nq F H1 → (ar cI z 4 szf H1) → (ao cO pq np H1) → (∀ i, i < np → ar cI (pq + 1 + i) 4 (g9 i) H1) → va_S (LA s) s.heap H1 locs → lv_has ls 29 [(0, .ref b), (1, .ref (ad 0)), (2, .int (nI n)), (3, .ref z), (4, .int (nI tm)), (5, .int v), (6, .int (nI np)), (7, .int (nI nq)), (8, .int (nI (pAt F np (-2)))), (9, .int (nI sk)), (10, .int (nI kd)), (11, .int (bI tb)), (12, .long (dG n np nq F)), (14, .int (nI (gvT F kd tb sk))), (16, .int pl), (17, .int (nI co)), (18, .int (nI (prN F n np (nI co) 3))), (19, .ref pq)] → W p l e R s m args below meth c H1 locs cc' ss' Q (F0 m 659 ls [])) : W p l e R s m args below meth c H1 locs cc ss Q (F0 m 321 ls []) := by
  obtain ⟨hx, hb, hml, hown, hts, hK, hX, hbl, hL, hAO, hE, hRf, hRl⟩ := id hCx
  obtain ⟨hinj, hLA⟩ := id hAD
  have hbA : ¬ LA s b := Nat.not_le.mpr hbl
  have hAG : ∀ q, inA ad 23 q → LA s q := fun q ⟨i, hi, e⟩ => e ▸ hLA i hi
  obtain ⟨hn9, hnp9, hnq9, hsk9, hrip9, -⟩ := id hJ.inv
  refine lv_iload hx hb dL_law_321 (lv_at hl 5 rfl) ?_
  refine lv_iconst (v := nI 4) hx hb dL_law_323 (by decide) ?_
  refine va_calli (va_runS (As := [.int v, .int (nI 4)]) (rest := []) ⟨hx, hb, hml, hown, hts⟩ (c_L_below l D v 4 (by omega) (by omega)) (va_cwS 2 hts gL_law_L_below rfl rfl rfl (by decide +kernel) ⟨Nat.le_trans (Nat.le_of_ble_eq_true rfl) hRf, Nat.le_trans (Nat.le_of_ble_eq_true rfl) hRl⟩) (pr_S P_nil hK [] rfl V0_at V0_c) rfl rfl hl.1 rfl (lv_room (Nat.le_of_ble_eq_true rfl)) dL_law_324 ⟨by omega, by omega⟩) hS (fun _ _ h => h.elim) (fun _ h => h.elim) (fun r_1 _ t H1 locs ht hvm hw hB hz hk hS => ?_)
  obtain ⟨j_2, hj_2, rfl⟩ := hw
  have hG := hG.kept hk
  have h_z := h_z.kept (hk _ h_z.lt id)
  have h_pqo := h_pqo.kept (hk _ h_pqo.lt id)
  have h_pq := fun (i : Nat) (hi : i < np) => (h_pq i hi).kept (hk _ (h_pq i hi).lt id)
  rcases (show j_2 = 0 ∨ j_2 = 1 ∨ j_2 = 2 ∨ j_2 = 3 by omega) with rfl | rfl | rfl | rfl
  · refine lv_tableIn (off := 25) (tgt := 352) hx hb dL_law_327 (by decide) (by decide) (by decide) (by decide) ?_
    exact kk352  _ _ _ _ _ (by omega) (by omega)  hG h_z h_pqo h_pq hS (lv_sub hl [0, 1, 2, 3, 4, 5, 6, 7, 8, 9, 10, 11, 12, 13, 14, 15, 16, 17] rfl)
  · refine lv_tableIn (off := 25) (tgt := 352) hx hb dL_law_327 (by decide) (by decide) (by decide) (by decide) ?_
    exact kk352  _ _ _ _ _ (by omega) (by omega)  hG h_z h_pqo h_pq hS (lv_sub hl [0, 1, 2, 3, 4, 5, 6, 7, 8, 9, 10, 11, 12, 13, 14, 15, 16, 17] rfl)
  · refine lv_tableIn (off := 237) (tgt := 564) hx hb dL_law_327 (by decide) (by decide) (by decide) (by decide) ?_
    exact kk564  _ _ _ _ _ (by omega) (by omega)  hG h_z h_pqo h_pq hS (lv_sub hl [0, 1, 2, 3, 4, 5, 6, 7, 8, 9, 10, 11, 12, 13, 14, 15, 16, 17] rfl)
  · refine lv_tableOut (tgt := 659) hx hb dL_law_327 (by decide) (by decide) ?_
    exact kk659  _ _ _ _ _ (by omega) (by omega)  hG h_z h_pqo h_pq hS (lv_sub hl [0, 1, 2, 3, 4, 5, 6, 7, 8, 9, 10, 11, 12, 13, 14, 15, 16, 17] rfl)
set_option maxHeartbeats 4000000 in
set_option maxRecDepth 100000 in
/-- a piece is cut at its first place -/
theorem sg_3a {p : Program} {l : Launch} {e : Env} {R : Room} {s : State} {m : MethodId} {args : Array Value} {below : List Frame} {meth : Method} {c : Code} {Q : State → Prop} {D : va_G} {cI cZ cO : ClassId} {ad : Nat → Nat} {b L : Nat} {xs : Nat → Int32} (hst : l.stackTraces = false) (hCx : LC cL_law 29 wsL_law p s m c args R D cI cZ cO b L xs) (hAD : inj ad 23 ∧ ∀ i, i ≤ 23 → s.heap.size ≤ ad i) (n np nq : Nat) (F : Nat → Nat → Int32) (z : Nat) (szf : Nat → Int32) (tm : Nat) (v : Int32) (sk kd co : Nat) (tb : Bool) (pl : Int32) (pq : Nat) (g9 : Nat → Nat → Int32) (hadz : ∀ i, i ≤ 23 → ad i < z) (hzA : s.heap.size ≤ z) (hsz : ∀ k, k < 4 → szf k = nI (kz k)) (htm : tm < 24) (hn1 : 1 ≤ n) (hsk : sk < n) (hkd : kd < 4) (hco : co < 4) (hpl : (∃ a, a < 96 ∧ pl = nI a ∧ fI (fitA (F (14 + sk)) kd tb) 0 (96 - 0) = nI a ∧ fitA (F (14 + sk)) kd tb a = true ∧ 0 < gvT F kd tb sk) ∨ (pl = -1 ∧ gvT F kd tb sk = 0)) (hzp : z < pq) (hg : ∀ p, p < np → ∀ w, w < 4 → g9 p w = pcT F p w) (hJ : J n np nq F) (cc ss : Nat) (H1 : Heap) (locs : List Loc) (ls : Array Slot) (hRc : cc + 60 ≤ R.cells) (hRs : ss + 600 ≤ R.slots) (hG : GW D cI cZ cO ad n np nq F H1) (h_z : ar cI z 4 szf H1) (h_pqo : ao cO pq np H1) (h_pq : ∀ i, i < np → ar cI (pq + 1 + i) 4 (g9 i) H1) (hS : va_S (LA s) s.heap H1 locs) (hl : lv_has ls 29 [(0, .ref b), (1, .ref (ad 0)), (2, .int (nI n)), (3, .ref z), (4, .int (nI tm)), (5, .int v), (6, .int (nI np)), (7, .int (nI nq)), (8, .int (nI (pAt F np (-2)))), (9, .int (nI sk)), (10, .int (nI kd)), (11, .int (bI tb)), (12, .long (dG n np nq F)), (14, .int (nI (gvT F kd tb sk))), (16, .int pl), (17, .int (nI co)), (18, .int (nI (prN F n np (nI co) 3))), (19, .ref pq)]) (kk740 : ∀ (np2 : Nat) (nq2 : Nat) (F2 : Nat → Nat → Int32) (cc' ss' : Nat) (H1 : Heap) (locs : List Loc) (ls : Array Slot), cc' ≤ cc + 60 → ss' ≤ ss + 600 → (np ≤ np2) → (∀ p, p < np → g9 p 0 = F2 4 p ∧ g9 p 1 = F2 5 p ∧ g9 p 3 = F2 7 p ∧ (g9 p 2 = -2 → F2 6 p = -2)) → J n np2 nq2 F2 → GW D cI cZ cO ad n np2 nq2 F2 H1 → (ar cI z 4 szf H1) → (ao cO pq np H1) → (∀ i, i < np → ar cI (pq + 1 + i) 4 (g9 i) H1) → va_S (LA s) s.heap H1 locs → lv_has ls 29 [(0, .ref b), (1, .ref (ad 0)), (2, .int (nI n)), (3, .ref z), (4, .int (nI tm)), (6, .int (nI np)), (19, .ref pq)] → W p l e R s m args below meth c H1 locs cc' ss' Q (F0 m 740 ls [])) : W p l e R s m args below meth c H1 locs cc ss Q (F0 m 352 ls []) := by
  obtain ⟨hx, hb, hml, hown, hts, hK, hX, hbl, hL, hAO, hE, hRf, hRl⟩ := id hCx
  obtain ⟨hinj, hLA⟩ := id hAD
  have hbA : ¬ LA s b := Nat.not_le.mpr hbl
  have hAG : ∀ q, inA ad 23 q → LA s q := fun q ⟨i, hi, e⟩ => e ▸ hLA i hi
  obtain ⟨hn9, hnp9, hnq9, hsk9, hrip9, -⟩ := id hJ.inv
  have hc1 := cv_tot (hJ.small hsk)
  rcases hpl with ⟨a9, ha9, rfl, ea9, hf9, hg9⟩ | ⟨rfl, hg9⟩
  · rcases Nat.lt_or_ge np 150 with h150 | h150
    · have hok : okCut F np sk kd tb a9 = true := by unfold okCut; rw [hf9, decide_eq_true h150]; rfl
      refine lv_iload hx hb dL_law_352 (lv_at hl 14 rfl) ?_
      refine nv_if_ge (tgt := 360) hx hb (by omega) dL_law_354 (by decide) ?_
      refine lv_aload_n hx hb dL_law_360 rfl (lv_at hl 1 rfl) ?_
      refine lv_iload hx hb dL_law_361 (lv_at hl 9 rfl) ?_
      refine lv_iconst (v := nI 4) hx hb dL_law_363 (by decide) ?_
      refine va_calli (va_runV (As := [.int (nI sk), .int (nI 4)]) (rest := []) ⟨hx, hb, hml, hown, hts⟩ (n_skin l hst D cI cZ cO ad n np nq F sk 4 hJ (by omega) (by omega)) (cwV 2 hts gL_law_X0_skin rfl rfl rfl (by decide +kernel) ⟨Nat.le_trans (Nat.le_of_ble_eq_true rfl) hRf, Nat.le_trans (Nat.le_of_ble_eq_true rfl) hRl⟩) (prG_V hG hK (hE.1.at hS sub_id sub_no) EnvG_c) rfl rfl hl.1 rfl (lv_room (Nat.le_of_ble_eq_true rfl)) dL_law_364 ⟨by omega, by omega⟩) hS (fun _ _ h => h.elim) (fun _ h => h.elim) (fun r_2 _ t H1 locs ht hvm hw hB hz hk hS => ?_)
      have hG := hG.kept hk
      have h_z := h_z.kept (hk _ h_z.lt id)
      have h_pqo := h_pqo.kept (hk _ h_pqo.lt id)
      have h_pq := fun (i : Nat) (hi : i < np) => (h_pq i hi).kept (hk _ (h_pq i hi).lt id)
      obtain rfl := hw
      rw [sk_4 F sk]
      refine lv_istore (lv' := [(20, .int (nI (cv (F (14 + sk)) (nI 3)))), (0, .ref b), (1, .ref (ad 0)), (2, .int (nI n)), (3, .ref z), (4, .int (nI tm)), (5, .int v), (6, .int (nI np)), (7, .int (nI nq)), (8, .int (nI (pAt F np (-2)))), (9, .int (nI sk)), (10, .int (nI kd)), (11, .int (bI tb)), (12, .long (dG n np nq F)), (14, .int (nI (gvT F kd tb sk))), (16, .int (nI a9)), (17, .int (nI co)), (18, .int (nI (prN F n np (nI co) 3))), (19, .ref pq)]) hx hb dL_law_367 hl (by decide) rfl (fun ls hl => ?_)
      refine lv_aload_n hx hb dL_law_369 rfl (lv_at hl 2 rfl) ?_
      refine lv_iload hx hb dL_law_370 (lv_at hl 10 rfl) ?_
      refine lv_iconst (v := nI 2) hx hb dL_law_372 (by decide) ?_
      refine va_calli (va_runV (As := [.int (nI sk), .int (nI 2)]) (rest := []) ⟨hx, hb, hml, hown, hts⟩ (n_skin l hst D cI cZ cO ad n np nq F sk 2 hJ (by omega) (by omega)) (cwV 2 hts gL_law_X0_skin rfl rfl rfl (by decide +kernel) ⟨Nat.le_trans (Nat.le_of_ble_eq_true rfl) hRf, Nat.le_trans (Nat.le_of_ble_eq_true rfl) hRl⟩) (prG_V hG hK (hE.1.at hS sub_id sub_no) EnvG_c) rfl rfl hl.1 rfl (lv_room (Nat.le_of_ble_eq_true rfl)) dL_law_373 ⟨by omega, by omega⟩) hS (fun _ _ h => h.elim) (fun _ h => h.elim) (fun r_3 _ t H1 locs ht hvm hw hB hz hk hS => ?_)
      have hG := hG.kept hk
      have h_z := h_z.kept (hk _ h_z.lt id)
      have h_pqo := h_pqo.kept (hk _ h_pqo.lt id)
      have h_pq := fun (i : Nat) (hi : i < np) => (h_pq i hi).kept (hk _ (h_pq i hi).lt id)
      obtain rfl := hw
      rw [sk_2 F sk]
      refine lv_istore (lv' := [(21, .int (nI (cv (F (14 + sk)) (nI 1)))), (20, .int (nI (cv (F (14 + sk)) (nI 3)))), (0, .ref b), (1, .ref (ad 0)), (2, .int (nI n)), (3, .ref z), (4, .int (nI tm)), (5, .int v), (6, .int (nI np)), (7, .int (nI nq)), (8, .int (nI (pAt F np (-2)))), (9, .int (nI sk)), (10, .int (nI kd)), (11, .int (bI tb)), (12, .long (dG n np nq F)), (14, .int (nI (gvT F kd tb sk))), (16, .int (nI a9)), (17, .int (nI co)), (18, .int (nI (prN F n np (nI co) 3))), (19, .ref pq)]) hx hb dL_law_376 hl (by decide) rfl (fun ls hl => ?_)
      refine lv_aload_n hx hb dL_law_378 rfl (lv_at hl 3 rfl) ?_
      refine lv_iload hx hb dL_law_379 (lv_at hl 11 rfl) ?_
      refine lv_iload hx hb dL_law_381 (lv_at hl 12 rfl) ?_
      refine lv_iload hx hb dL_law_383 (lv_at hl 13 rfl) ?_
      refine lv_iload hx hb dL_law_385 (lv_at hl 16 rfl) ?_
      refine va_calli (vx_runSW (As := [.ref (ad 0), .int (nI sk), .int (nI kd), .int (bI tb), .int (nI a9)]) (rest := []) ⟨hx, hb, hml, hown, hts⟩ (c_L_cut l hst D cI cZ cO ad n np nq F sk kd tb a9 hinj hJ (by omega) (by omega) (by omega)) (vx_cwSW 5 hts gL_law_L_cut rfl rfl rfl (by decide +kernel) ⟨Nat.le_trans (Nat.le_of_ble_eq_true rfl) hRf, Nat.le_trans (Nat.le_of_ble_eq_true rfl) hRl⟩) (prG_S hG hK (hE.at hS sub_id hAG) EnvL_c) rfl rfl hl.1 rfl (lv_room (Nat.le_of_ble_eq_true rfl)) dL_law_387 ⟨by omega, by omega⟩) hS (fun q _ h => hAG q h) (fun q h => hAG q h) (fun r_4 _ t H1 locs ht hvm hw hB hz hk hS => ?_)
      rw [ht] at hB
      have h_z := h_z.kept (hk _ h_z.lt (nin hadz (by omega)))
      have h_pqo := h_pqo.kept (hk _ h_pqo.lt (nin hadz (by omega)))
      have h_pq := fun (i : Nat) (hi : i < np) => (h_pq i hi).kept (hk _ (h_pq i hi).lt (nin hadz (by omega)))
      rw [hok, if_pos rfl] at hw
      obtain rfl := hw
      obtain ⟨u9, hG⟩ := hB.elim (fun h => h.2) (fun h => absurd (hok.symm.trans h.1) (by decide))
      obtain ⟨F2, eF2⟩ : ∃ z, z = cutF (va_up F 13 u9) np sk kd tb a9 := ⟨_, rfl⟩
      rw [← eF2] at hG
      obtain ⟨hJ2, hrel, q4, q5, q6, ⟨x9, q7, qc1, hx9⟩, qc3, qcell, qgv⟩ := cut_law hJ hsk hkd ha9 ea9 hf9 h150 eF2
      have hJ0 := hJ
      have hJ := hJ2
      have hnp9 := hJ2.inv.2.1
      have hnq9 := hJ2.inv.2.2.1
      have hpa2 := pAt_le F2 np (-2)
      have hc2 := cv_tot (hJ2.small hsk)
      have hkT := kT_le kd
      have hkT0 : kd = 0 → x9 = 0 := fun h => by subst h; exact Nat.le_zero.mp hx9
      have hgv0 : gvT F kd tb sk ≤ 96 := gv_le96 kd tb (hJ0.small hsk)
      have hgv2 : gvT F2 kd tb sk ≤ 96 := gv_le96 kd tb (hJ2.small hsk)
      have hkz := kz_le (k := kd)
      refine lv_istore (lv' := [(22, .int (nI np)), (21, .int (nI (cv (F (14 + sk)) (nI 1)))), (20, .int (nI (cv (F (14 + sk)) (nI 3)))), (0, .ref b), (1, .ref (ad 0)), (2, .int (nI n)), (3, .ref z), (4, .int (nI tm)), (5, .int v), (6, .int (nI np)), (7, .int (nI nq)), (8, .int (nI (pAt F np (-2)))), (9, .int (nI sk)), (10, .int (nI kd)), (11, .int (bI tb)), (12, .long (dG n np nq F)), (14, .int (nI (gvT F kd tb sk))), (16, .int (nI a9)), (17, .int (nI co)), (18, .int (nI (prN F n np (nI co) 3))), (19, .ref pq)]) hx hb dL_law_390 hl (by decide) rfl (fun ls hl => ?_)
      refine lv_iload hx hb dL_law_392 (lv_at hl 0 rfl) ?_
      refine lv_iload hx hb dL_law_394 (lv_at hl 9 rfl) ?_
      refine lv_sipush (v := nI 150) hx hb dL_law_396 (by decide) ?_
      refine nv_icmp_ge (tgt := 407) hx hb (by omega) (by omega) dL_law_399 (by decide) (fun c_5 => ?_) (fun c_5 => ?_)
      · exfalso; omega
      · refine lv_iload hx hb dL_law_402 (lv_at hl 9 rfl) ?_
        refine lv_goto (tgt := 408) hx hb dL_law_404 (by decide) ?_
        refine nv_icmp_eq (tgt := 413) hx hb (by omega) (by omega) dL_law_408 (by decide) (fun c_6 => ?_) (fun c_6 => ?_)
        · refine lv_iload hx hb dL_law_413 (lv_at hl 0 rfl) ?_
          refine nv_if_ge (tgt := 421) hx hb (by omega) dL_law_415 (by decide) ?_
          refine lv_aload_n hx hb dL_law_421 rfl (lv_at hl 4 rfl) ?_
          refine lv_iload hx hb dL_law_422 (lv_at hl 0 rfl) ?_
          refine lv_iconst (v := nI 0) hx hb dL_law_424 (by decide) ?_
          refine va_calli (va_runV (As := [.int (nI np), .int (nI 0)]) (rest := []) ⟨hx, hb, hml, hown, hts⟩ (n_piece l hst D cI cZ cO ad n (np + 1) nq F2 np 0 hJ (by omega) (by omega)) (cwV 2 hts gL_law_X0_piece rfl rfl rfl (by decide +kernel) ⟨Nat.le_trans (Nat.le_of_ble_eq_true rfl) hRf, Nat.le_trans (Nat.le_of_ble_eq_true rfl) hRl⟩) (prG_V hG hK (hE.1.at hS sub_id sub_no) EnvG_c) rfl rfl hl.1 rfl (lv_room (Nat.le_of_ble_eq_true rfl)) dL_law_425 ⟨by omega, by omega⟩) hS (fun _ _ h => h.elim) (fun _ h => h.elim) (fun r_8 _ t H1 locs ht hvm hw hB hz hk hS => ?_)
          have hG := hG.kept hk
          have h_z := h_z.kept (hk _ h_z.lt id)
          have h_pqo := h_pqo.kept (hk _ h_pqo.lt id)
          have h_pq := fun (i : Nat) (hi : i < np) => (h_pq i hi).kept (hk _ (h_pq i hi).lt id)
          obtain rfl := hw
          rw [(show pcT F2 np 0 = F2 4 np from rfl)]
          rw [q4]
          refine lv_iload hx hb dL_law_428 (lv_at hl 12 rfl) ?_
          refine nv_icmp_ne (tgt := 562) hx hb (by omega) (by omega) dL_law_430 (by decide) (fun c_9 => ?_) (fun c_9 => ?_)
          · exact absurd rfl c_9
          · refine lv_aload_n hx hb dL_law_433 rfl (lv_at hl 4 rfl) ?_
            refine lv_iload hx hb dL_law_434 (lv_at hl 0 rfl) ?_
            refine lv_iconst (v := nI 1) hx hb dL_law_436 (by decide) ?_
            refine va_calli (va_runV (As := [.int (nI np), .int (nI 1)]) (rest := []) ⟨hx, hb, hml, hown, hts⟩ (n_piece l hst D cI cZ cO ad n (np + 1) nq F2 np 1 hJ (by omega) (by omega)) (cwV 2 hts gL_law_X0_piece rfl rfl rfl (by decide +kernel) ⟨Nat.le_trans (Nat.le_of_ble_eq_true rfl) hRf, Nat.le_trans (Nat.le_of_ble_eq_true rfl) hRl⟩) (prG_V hG hK (hE.1.at hS sub_id sub_no) EnvG_c) rfl rfl hl.1 rfl (lv_room (Nat.le_of_ble_eq_true rfl)) dL_law_437 ⟨by omega, by omega⟩) hS (fun _ _ h => h.elim) (fun _ h => h.elim) (fun r_10 _ t H1 locs ht hvm hw hB hz hk hS => ?_)
            have hG := hG.kept hk
            have h_z := h_z.kept (hk _ h_z.lt id)
            have h_pqo := h_pqo.kept (hk _ h_pqo.lt id)
            have h_pq := fun (i : Nat) (hi : i < np) => (h_pq i hi).kept (hk _ (h_pq i hi).lt id)
            obtain rfl := hw
            rw [(show pcT F2 np 1 = F2 5 np from rfl)]
            rw [q5]
            refine lv_iload hx hb dL_law_440 (lv_at hl 13 rfl) ?_
            refine nv_icmp_ne (tgt := 562) hx hb (by omega) (by omega) dL_law_442 (by decide) (fun c_11 => ?_) (fun c_11 => ?_)
            · exact absurd rfl c_11
            · refine lv_aload_n hx hb dL_law_445 rfl (lv_at hl 4 rfl) ?_
              refine lv_iload hx hb dL_law_446 (lv_at hl 0 rfl) ?_
              refine lv_iconst (v := nI 2) hx hb dL_law_448 (by decide) ?_
              refine va_calli (va_runV (As := [.int (nI np), .int (nI 2)]) (rest := []) ⟨hx, hb, hml, hown, hts⟩ (n_piece l hst D cI cZ cO ad n (np + 1) nq F2 np 2 hJ (by omega) (by omega)) (cwV 2 hts gL_law_X0_piece rfl rfl rfl (by decide +kernel) ⟨Nat.le_trans (Nat.le_of_ble_eq_true rfl) hRf, Nat.le_trans (Nat.le_of_ble_eq_true rfl) hRl⟩) (prG_V hG hK (hE.1.at hS sub_id sub_no) EnvG_c) rfl rfl hl.1 rfl (lv_room (Nat.le_of_ble_eq_true rfl)) dL_law_449 ⟨by omega, by omega⟩) hS (fun _ _ h => h.elim) (fun _ h => h.elim) (fun r_12 _ t H1 locs ht hvm hw hB hz hk hS => ?_)
              have hG := hG.kept hk
              have h_z := h_z.kept (hk _ h_z.lt id)
              have h_pqo := h_pqo.kept (hk _ h_pqo.lt id)
              have h_pq := fun (i : Nat) (hi : i < np) => (h_pq i hi).kept (hk _ (h_pq i hi).lt id)
              obtain rfl := hw
              rw [(show pcT F2 np 2 = F2 6 np from rfl)]
              rw [q6]
              refine lv_iconst (v := -1) hx hb dL_law_452 (by decide) ?_
              refine lv_icmp_ne (tgt := 562) hx hb dL_law_453 (by decide) (fun c_13 => ?_) (fun c_13 => ?_)
              · exact absurd rfl c_13
              · refine lv_aload_n hx hb dL_law_456 rfl (lv_at hl 4 rfl) ?_
                refine lv_iload hx hb dL_law_457 (lv_at hl 0 rfl) ?_
                refine lv_iconst (v := nI 3) hx hb dL_law_459 (by decide) ?_
                refine va_calli (va_runV (As := [.int (nI np), .int (nI 3)]) (rest := []) ⟨hx, hb, hml, hown, hts⟩ (n_piece l hst D cI cZ cO ad n (np + 1) nq F2 np 3 hJ (by omega) (by omega)) (cwV 2 hts gL_law_X0_piece rfl rfl rfl (by decide +kernel) ⟨Nat.le_trans (Nat.le_of_ble_eq_true rfl) hRf, Nat.le_trans (Nat.le_of_ble_eq_true rfl) hRl⟩) (prG_V hG hK (hE.1.at hS sub_id sub_no) EnvG_c) rfl rfl hl.1 rfl (lv_room (Nat.le_of_ble_eq_true rfl)) dL_law_460 ⟨by omega, by omega⟩) hS (fun _ _ h => h.elim) (fun _ h => h.elim) (fun r_14 _ t H1 locs ht hvm hw hB hz hk hS => ?_)
                have hG := hG.kept hk
                have h_z := h_z.kept (hk _ h_z.lt id)
                have h_pqo := h_pqo.kept (hk _ h_pqo.lt id)
                have h_pq := fun (i : Nat) (hi : i < np) => (h_pq i hi).kept (hk _ (h_pq i hi).lt id)
                obtain rfl := hw
                rw [(show pcT F2 np 3 = F2 7 np from rfl)]
                rw [q7]
                refine lv_iload hx hb dL_law_463 (lv_at hl 1 rfl) ?_
                refine lv_aload_n hx hb dL_law_465 rfl (lv_at hl 4 rfl) ?_
                refine lv_iload hx hb dL_law_466 (lv_at hl 12 rfl) ?_
                refine lv_iconst (v := nI 2) hx hb dL_law_468 (by decide) ?_
                refine va_calli (va_runV (As := [.int (nI sk), .int (nI 2)]) (rest := [.int (nI (cv (F (14 + sk)) (nI 1))), .int (nI x9)]) ⟨hx, hb, hml, hown, hts⟩ (n_skin l hst D cI cZ cO ad n (np + 1) nq F2 sk 2 hJ (by omega) (by omega)) (cwV 2 hts gL_law_X0_skin rfl rfl rfl (by decide +kernel) ⟨Nat.le_trans (Nat.le_of_ble_eq_true rfl) hRf, Nat.le_trans (Nat.le_of_ble_eq_true rfl) hRl⟩) (prG_V hG hK (hE.1.at hS sub_id sub_no) EnvG_c) rfl rfl hl.1 rfl (lv_room (Nat.le_of_ble_eq_true rfl)) dL_law_469 ⟨by omega, by omega⟩) hS (fun _ _ h => h.elim) (fun _ h => h.elim) (fun r_15 _ t H1 locs ht hvm hw hB hz hk hS => ?_)
                have hG := hG.kept hk
                have h_z := h_z.kept (hk _ h_z.lt id)
                have h_pqo := h_pqo.kept (hk _ h_pqo.lt id)
                have h_pq := fun (i : Nat) (hi : i < np) => (h_pq i hi).kept (hk _ (h_pq i hi).lt id)
                obtain rfl := hw
                rw [sk_2 F2 sk]
                refine nv_isub hx hb (by omega) dL_law_472 ?_
                refine nv_icmp_ne (tgt := 562) hx hb (by omega) (by omega) dL_law_473 (by decide) (fun c_16 => ?_) (fun c_16 => ?_)
                · exfalso; omega
                · refine lv_aload_n hx hb dL_law_476 rfl (lv_at hl 4 rfl) ?_
                  refine lv_iload hx hb dL_law_477 (lv_at hl 12 rfl) ?_
                  refine lv_iconst (v := nI 4) hx hb dL_law_479 (by decide) ?_
                  refine va_calli (va_runV (As := [.int (nI sk), .int (nI 4)]) (rest := []) ⟨hx, hb, hml, hown, hts⟩ (n_skin l hst D cI cZ cO ad n (np + 1) nq F2 sk 4 hJ (by omega) (by omega)) (cwV 2 hts gL_law_X0_skin rfl rfl rfl (by decide +kernel) ⟨Nat.le_trans (Nat.le_of_ble_eq_true rfl) hRf, Nat.le_trans (Nat.le_of_ble_eq_true rfl) hRl⟩) (prG_V hG hK (hE.1.at hS sub_id sub_no) EnvG_c) rfl rfl hl.1 rfl (lv_room (Nat.le_of_ble_eq_true rfl)) dL_law_480 ⟨by omega, by omega⟩) hS (fun _ _ h => h.elim) (fun _ h => h.elim) (fun r_17 _ t H1 locs ht hvm hw hB hz hk hS => ?_)
                  have hG := hG.kept hk
                  have h_z := h_z.kept (hk _ h_z.lt id)
                  have h_pqo := h_pqo.kept (hk _ h_pqo.lt id)
                  have h_pq := fun (i : Nat) (hi : i < np) => (h_pq i hi).kept (hk _ (h_pq i hi).lt id)
                  obtain rfl := hw
                  rw [sk_4 F2 sk]
                  refine lv_iload hx hb dL_law_483 (lv_at hl 2 rfl) ?_
                  refine lv_aload_n hx hb dL_law_485 rfl (lv_at hl 6 rfl) ?_
                  refine lv_iload hx hb dL_law_486 (lv_at hl 13 rfl) ?_
                  refine w_iald hx hb hK 0 h_z rfl (by omega) (by omega) dL_law_488 ?_
                  rw [hsz kd (by omega)]
                  refine nv_iadd hx hb dL_law_489 ?_
                  refine nv_icmp_ne (tgt := 562) hx hb (by omega) (by omega) dL_law_490 (by decide) (fun c_18 => ?_) (fun c_18 => ?_)
                  · exfalso; omega
                  · refine lv_aload_n hx hb dL_law_493 rfl (lv_at hl 4 rfl) ?_
                    refine lv_iload hx hb dL_law_494 (lv_at hl 12 rfl) ?_
                    refine lv_iload hx hb dL_law_496 (lv_at hl 17 rfl) ?_
                    refine lv_bipush (v := nI 12) hx hb dL_law_498 (by decide) ?_
                    refine nv_irem hx hb (by omega) (by omega) (by omega) dL_law_500 ?_
                    refine lv_iload hx hb dL_law_501 (lv_at hl 17 rfl) ?_
                    refine lv_bipush (v := nI 12) hx hb dL_law_503 (by decide) ?_
                    refine nv_idiv hx hb (by omega) (by omega) (by omega) dL_law_505 ?_
                    refine va_calli (va_runV (As := [.int (nI sk), .int (nI (a9 % 12)), .int (nI (a9 / 12))]) (rest := []) ⟨hx, hb, hml, hown, hts⟩ (n_cell l hst D cI cZ cO ad n (np + 1) nq F2 sk (a9 % 12) (a9 / 12) hJ (by omega) (by omega) (by omega)) (cwV 3 hts gL_law_X0_cell rfl rfl rfl (by decide +kernel) ⟨Nat.le_trans (Nat.le_of_ble_eq_true rfl) hRf, Nat.le_trans (Nat.le_of_ble_eq_true rfl) hRl⟩) (prG_V hG hK (hE.1.at hS sub_id sub_no) EnvG_c) rfl rfl hl.1 rfl (lv_room (Nat.le_of_ble_eq_true rfl)) dL_law_506 ⟨by omega, by omega⟩) hS (fun _ _ h => h.elim) (fun _ h => h.elim) (fun r_19 _ t H1 locs ht hvm hw hB hz hk hS => ?_)
                    have hG := hG.kept hk
                    have h_z := h_z.kept (hk _ h_z.lt id)
                    have h_pqo := h_pqo.kept (hk _ h_pqo.lt id)
                    have h_pq := fun (i : Nat) (hi : i < np) => (h_pq i hi).kept (hk _ (h_pq i hi).lt id)
                    obtain rfl := hw
                    rw [qcell]
                    refine lv_iconst (v := nI 3) hx hb dL_law_509 (by decide) ?_
                    refine nv_icmp_ne (tgt := 562) hx hb (by omega) (by omega) dL_law_510 (by decide) (fun h9 => absurd h9 (by decide)) (fun _ => ?_)
                    refine lv_aload_n hx hb dL_law_513 rfl (lv_at hl 4 rfl) ?_
                    refine lv_iload hx hb dL_law_514 (lv_at hl 12 rfl) ?_
                    refine lv_iload hx hb dL_law_516 (lv_at hl 13 rfl) ?_
                    refine lv_iload hx hb dL_law_518 (lv_at hl 14 rfl) ?_
                    refine va_calli (va_runV (As := [.int (nI sk), .int (nI kd), .int (bI tb)]) (rest := []) ⟨hx, hb, hml, hown, hts⟩ (n_gives l hst D cI cZ cO ad n (np + 1) nq F2 sk kd tb hinj hJ (by omega) (by omega)) (cwV 3 hts gL_law_X0_gives rfl rfl rfl (by decide +kernel) ⟨Nat.le_trans (Nat.le_of_ble_eq_true rfl) hRf, Nat.le_trans (Nat.le_of_ble_eq_true rfl) hRl⟩) (prG_V hG hK (hE.1.at hS sub_id hAG) EnvG_c) rfl rfl hl.1 rfl (lv_room (Nat.le_of_ble_eq_true rfl)) dL_law_520 ⟨by omega, by omega⟩) hS (fun q _ h => hAG q h) (fun q h => hAG q h) (fun r_21 _ t H1 locs ht hvm hw hB hz hk hS => ?_)
                    rw [ht] at hB
                    have h_z := h_z.kept (hk _ h_z.lt (nin hadz (by omega)))
                    have h_pqo := h_pqo.kept (hk _ h_pqo.lt (nin hadz (by omega)))
                    have h_pq := fun (i : Nat) (hi : i < np) => (h_pq i hi).kept (hk _ (h_pq i hi).lt (nin hadz (by omega)))
                    have hG := hB
                    obtain rfl := hw
                    refine lv_iload hx hb dL_law_523 (lv_at hl 16 rfl) ?_
                    refine lv_iconst (v := nI 1) hx hb dL_law_525 (by decide) ?_
                    refine nv_isub hx hb (by omega) dL_law_526 ?_
                    refine nv_icmp_ne (tgt := 562) hx hb (by omega) (by omega) dL_law_527 (by decide) (fun c_22 => ?_) (fun c_22 => ?_)
                    · exfalso; omega
                    · refine lv_iload hx hb dL_law_530 (lv_at hl 13 rfl) ?_
                      refine nv_if_ne (tgt := 545) hx hb (by omega) dL_law_532 (by decide) (fun c_23 => ?_) (fun c_23 => ?_)
                      · refine lv_iload hx hb dL_law_545 (lv_at hl 13 rfl) ?_
                        refine lv_iconst (v := nI 3) hx hb dL_law_547 (by decide) ?_
                        refine nv_icmp_ge (tgt := 740) hx hb (by omega) (by omega) dL_law_548 (by decide) (fun c_24 => ?_) (fun c_24 => ?_)
                        · exact kk740 (np + 1) nq F2 _ _ _ _ _ (by omega) (by omega) (by omega) (rel_g hg hrel) hJ hG h_z h_pqo h_pq hS (lv_sub hl [3, 4, 5, 6, 7, 9, 20] rfl)
                        · refine lv_aload_n hx hb dL_law_551 rfl (lv_at hl 4 rfl) ?_
                          refine lv_iload hx hb dL_law_552 (lv_at hl 0 rfl) ?_
                          refine lv_iconst (v := nI 3) hx hb dL_law_554 (by decide) ?_
                          refine va_calli (va_runV (As := [.int (nI np), .int (nI 3)]) (rest := []) ⟨hx, hb, hml, hown, hts⟩ (n_piece l hst D cI cZ cO ad n (np + 1) nq F2 np 3 hJ (by omega) (by omega)) (cwV 2 hts gL_law_X0_piece rfl rfl rfl (by decide +kernel) ⟨Nat.le_trans (Nat.le_of_ble_eq_true rfl) hRf, Nat.le_trans (Nat.le_of_ble_eq_true rfl) hRl⟩) (prG_V hG hK (hE.1.at hS sub_id sub_no) EnvG_c) rfl rfl hl.1 rfl (lv_room (Nat.le_of_ble_eq_true rfl)) dL_law_555 ⟨by omega, by omega⟩) hS (fun _ _ h => h.elim) (fun _ h => h.elim) (fun r_25 _ t H1 locs ht hvm hw hB hz hk hS => ?_)
                          have hG := hG.kept hk
                          have h_z := h_z.kept (hk _ h_z.lt id)
                          have h_pqo := h_pqo.kept (hk _ h_pqo.lt id)
                          have h_pq := fun (i : Nat) (hi : i < np) => (h_pq i hi).kept (hk _ (h_pq i hi).lt id)
                          obtain rfl := hw
                          rw [(show pcT F2 np 3 = F2 7 np from rfl)]
                          rw [q7]
                          refine lv_iconst (v := nI 1) hx hb dL_law_558 (by decide) ?_
                          refine nv_icmp_le (tgt := 740) hx hb (by omega) (by omega) dL_law_559 (by decide) (fun c_26 => ?_) (fun c_26 => ?_)
                          · exact kk740 (np + 1) nq F2 _ _ _ _ _ (by omega) (by omega) (by omega) (rel_g hg hrel) hJ hG h_z h_pqo h_pq hS (lv_sub hl [3, 4, 5, 6, 7, 9, 20] rfl)
                          · exfalso; omega
                      · refine lv_aload_n hx hb dL_law_535 rfl (lv_at hl 4 rfl) ?_
                        refine lv_iload hx hb dL_law_536 (lv_at hl 0 rfl) ?_
                        refine lv_iconst (v := nI 3) hx hb dL_law_538 (by decide) ?_
                        refine va_calli (va_runV (As := [.int (nI np), .int (nI 3)]) (rest := []) ⟨hx, hb, hml, hown, hts⟩ (n_piece l hst D cI cZ cO ad n (np + 1) nq F2 np 3 hJ (by omega) (by omega)) (cwV 2 hts gL_law_X0_piece rfl rfl rfl (by decide +kernel) ⟨Nat.le_trans (Nat.le_of_ble_eq_true rfl) hRf, Nat.le_trans (Nat.le_of_ble_eq_true rfl) hRl⟩) (prG_V hG hK (hE.1.at hS sub_id sub_no) EnvG_c) rfl rfl hl.1 rfl (lv_room (Nat.le_of_ble_eq_true rfl)) dL_law_539 ⟨by omega, by omega⟩) hS (fun _ _ h => h.elim) (fun _ h => h.elim) (fun r_27 _ t H1 locs ht hvm hw hB hz hk hS => ?_)
                        have hG := hG.kept hk
                        have h_z := h_z.kept (hk _ h_z.lt id)
                        have h_pqo := h_pqo.kept (hk _ h_pqo.lt id)
                        have h_pq := fun (i : Nat) (hi : i < np) => (h_pq i hi).kept (hk _ (h_pq i hi).lt id)
                        obtain rfl := hw
                        rw [(show pcT F2 np 3 = F2 7 np from rfl)]
                        rw [q7]
                        refine nv_if_gt (tgt := 562) hx hb (by omega) dL_law_542 (by decide) (fun c_28 => ?_) (fun c_28 => ?_)
                        · exfalso; omega
                        · refine lv_iload hx hb dL_law_545 (lv_at hl 13 rfl) ?_
                          refine lv_iconst (v := nI 3) hx hb dL_law_547 (by decide) ?_
                          refine nv_icmp_ge (tgt := 740) hx hb (by omega) (by omega) dL_law_548 (by decide) (fun c_29 => ?_) (fun c_29 => ?_)
                          · exact kk740 (np + 1) nq F2 _ _ _ _ _ (by omega) (by omega) (by omega) (rel_g hg hrel) hJ hG h_z h_pqo h_pq hS (lv_sub hl [3, 4, 5, 6, 7, 9, 20] rfl)
                          · refine lv_aload_n hx hb dL_law_551 rfl (lv_at hl 4 rfl) ?_
                            refine lv_iload hx hb dL_law_552 (lv_at hl 0 rfl) ?_
                            refine lv_iconst (v := nI 3) hx hb dL_law_554 (by decide) ?_
                            refine va_calli (va_runV (As := [.int (nI np), .int (nI 3)]) (rest := []) ⟨hx, hb, hml, hown, hts⟩ (n_piece l hst D cI cZ cO ad n (np + 1) nq F2 np 3 hJ (by omega) (by omega)) (cwV 2 hts gL_law_X0_piece rfl rfl rfl (by decide +kernel) ⟨Nat.le_trans (Nat.le_of_ble_eq_true rfl) hRf, Nat.le_trans (Nat.le_of_ble_eq_true rfl) hRl⟩) (prG_V hG hK (hE.1.at hS sub_id sub_no) EnvG_c) rfl rfl hl.1 rfl (lv_room (Nat.le_of_ble_eq_true rfl)) dL_law_555 ⟨by omega, by omega⟩) hS (fun _ _ h => h.elim) (fun _ h => h.elim) (fun r_30 _ t H1 locs ht hvm hw hB hz hk hS => ?_)
                            have hG := hG.kept hk
                            have h_z := h_z.kept (hk _ h_z.lt id)
                            have h_pqo := h_pqo.kept (hk _ h_pqo.lt id)
                            have h_pq := fun (i : Nat) (hi : i < np) => (h_pq i hi).kept (hk _ (h_pq i hi).lt id)
                            obtain rfl := hw
                            rw [(show pcT F2 np 3 = F2 7 np from rfl)]
                            rw [q7]
                            refine lv_iconst (v := nI 1) hx hb dL_law_558 (by decide) ?_
                            refine nv_icmp_le (tgt := 740) hx hb (by omega) (by omega) dL_law_559 (by decide) (fun c_31 => ?_) (fun c_31 => ?_)
                            · exact kk740 (np + 1) nq F2 _ _ _ _ _ (by omega) (by omega) (by omega) (rel_g hg hrel) hJ hG h_z h_pqo h_pq hS (lv_sub hl [3, 4, 5, 6, 7, 9, 20] rfl)
                            · exfalso; omega
        · exact absurd rfl c_6
    · have hok : okCut F np sk kd tb a9 = false := by unfold okCut; rw [decide_eq_false (Nat.not_lt.mpr h150), Bool.and_false]
      refine lv_iload hx hb dL_law_352 (lv_at hl 14 rfl) ?_
      refine nv_if_ge (tgt := 360) hx hb (by omega) dL_law_354 (by decide) ?_
      refine lv_aload_n hx hb dL_law_360 rfl (lv_at hl 1 rfl) ?_
      refine lv_iload hx hb dL_law_361 (lv_at hl 9 rfl) ?_
      refine lv_iconst (v := nI 4) hx hb dL_law_363 (by decide) ?_
      refine va_calli (va_runV (As := [.int (nI sk), .int (nI 4)]) (rest := []) ⟨hx, hb, hml, hown, hts⟩ (n_skin l hst D cI cZ cO ad n np nq F sk 4 hJ (by omega) (by omega)) (cwV 2 hts gL_law_X0_skin rfl rfl rfl (by decide +kernel) ⟨Nat.le_trans (Nat.le_of_ble_eq_true rfl) hRf, Nat.le_trans (Nat.le_of_ble_eq_true rfl) hRl⟩) (prG_V hG hK (hE.1.at hS sub_id sub_no) EnvG_c) rfl rfl hl.1 rfl (lv_room (Nat.le_of_ble_eq_true rfl)) dL_law_364 ⟨by omega, by omega⟩) hS (fun _ _ h => h.elim) (fun _ h => h.elim) (fun r_33 _ t H1 locs ht hvm hw hB hz hk hS => ?_)
      have hG := hG.kept hk
      have h_z := h_z.kept (hk _ h_z.lt id)
      have h_pqo := h_pqo.kept (hk _ h_pqo.lt id)
      have h_pq := fun (i : Nat) (hi : i < np) => (h_pq i hi).kept (hk _ (h_pq i hi).lt id)
      obtain rfl := hw
      rw [sk_4 F sk]
      refine lv_istore (lv' := [(20, .int (nI (cv (F (14 + sk)) (nI 3)))), (0, .ref b), (1, .ref (ad 0)), (2, .int (nI n)), (3, .ref z), (4, .int (nI tm)), (5, .int v), (6, .int (nI np)), (7, .int (nI nq)), (8, .int (nI (pAt F np (-2)))), (9, .int (nI sk)), (10, .int (nI kd)), (11, .int (bI tb)), (12, .long (dG n np nq F)), (14, .int (nI (gvT F kd tb sk))), (16, .int (nI a9)), (17, .int (nI co)), (18, .int (nI (prN F n np (nI co) 3))), (19, .ref pq)]) hx hb dL_law_367 hl (by decide) rfl (fun ls hl => ?_)
      refine lv_aload_n hx hb dL_law_369 rfl (lv_at hl 2 rfl) ?_
      refine lv_iload hx hb dL_law_370 (lv_at hl 10 rfl) ?_
      refine lv_iconst (v := nI 2) hx hb dL_law_372 (by decide) ?_
      refine va_calli (va_runV (As := [.int (nI sk), .int (nI 2)]) (rest := []) ⟨hx, hb, hml, hown, hts⟩ (n_skin l hst D cI cZ cO ad n np nq F sk 2 hJ (by omega) (by omega)) (cwV 2 hts gL_law_X0_skin rfl rfl rfl (by decide +kernel) ⟨Nat.le_trans (Nat.le_of_ble_eq_true rfl) hRf, Nat.le_trans (Nat.le_of_ble_eq_true rfl) hRl⟩) (prG_V hG hK (hE.1.at hS sub_id sub_no) EnvG_c) rfl rfl hl.1 rfl (lv_room (Nat.le_of_ble_eq_true rfl)) dL_law_373 ⟨by omega, by omega⟩) hS (fun _ _ h => h.elim) (fun _ h => h.elim) (fun r_34 _ t H1 locs ht hvm hw hB hz hk hS => ?_)
      have hG := hG.kept hk
      have h_z := h_z.kept (hk _ h_z.lt id)
      have h_pqo := h_pqo.kept (hk _ h_pqo.lt id)
      have h_pq := fun (i : Nat) (hi : i < np) => (h_pq i hi).kept (hk _ (h_pq i hi).lt id)
      obtain rfl := hw
      rw [sk_2 F sk]
      refine lv_istore (lv' := [(21, .int (nI (cv (F (14 + sk)) (nI 1)))), (20, .int (nI (cv (F (14 + sk)) (nI 3)))), (0, .ref b), (1, .ref (ad 0)), (2, .int (nI n)), (3, .ref z), (4, .int (nI tm)), (5, .int v), (6, .int (nI np)), (7, .int (nI nq)), (8, .int (nI (pAt F np (-2)))), (9, .int (nI sk)), (10, .int (nI kd)), (11, .int (bI tb)), (12, .long (dG n np nq F)), (14, .int (nI (gvT F kd tb sk))), (16, .int (nI a9)), (17, .int (nI co)), (18, .int (nI (prN F n np (nI co) 3))), (19, .ref pq)]) hx hb dL_law_376 hl (by decide) rfl (fun ls hl => ?_)
      refine lv_aload_n hx hb dL_law_378 rfl (lv_at hl 3 rfl) ?_
      refine lv_iload hx hb dL_law_379 (lv_at hl 11 rfl) ?_
      refine lv_iload hx hb dL_law_381 (lv_at hl 12 rfl) ?_
      refine lv_iload hx hb dL_law_383 (lv_at hl 13 rfl) ?_
      refine lv_iload hx hb dL_law_385 (lv_at hl 16 rfl) ?_
      refine va_calli (vx_runSW (As := [.ref (ad 0), .int (nI sk), .int (nI kd), .int (bI tb), .int (nI a9)]) (rest := []) ⟨hx, hb, hml, hown, hts⟩ (c_L_cut l hst D cI cZ cO ad n np nq F sk kd tb a9 hinj hJ (by omega) (by omega) (by omega)) (vx_cwSW 5 hts gL_law_L_cut rfl rfl rfl (by decide +kernel) ⟨Nat.le_trans (Nat.le_of_ble_eq_true rfl) hRf, Nat.le_trans (Nat.le_of_ble_eq_true rfl) hRl⟩) (prG_S hG hK (hE.at hS sub_id hAG) EnvL_c) rfl rfl hl.1 rfl (lv_room (Nat.le_of_ble_eq_true rfl)) dL_law_387 ⟨by omega, by omega⟩) hS (fun q _ h => hAG q h) (fun q h => hAG q h) (fun r_35 _ t H1 locs ht hvm hw hB hz hk hS => ?_)
      rw [ht] at hB
      have h_z := h_z.kept (hk _ h_z.lt (nin hadz (by omega)))
      have h_pqo := h_pqo.kept (hk _ h_pqo.lt (nin hadz (by omega)))
      have h_pq := fun (i : Nat) (hi : i < np) => (h_pq i hi).kept (hk _ (h_pq i hi).lt (nin hadz (by omega)))
      rw [hok, if_neg Bool.false_ne_true] at hw
      obtain rfl := hw
      have hG := hB.elim (fun h => absurd (hok.symm.trans h.1) (by decide)) (fun h => h.2)
      refine lv_istore (lv' := [(22, .int (-1)), (21, .int (nI (cv (F (14 + sk)) (nI 1)))), (20, .int (nI (cv (F (14 + sk)) (nI 3)))), (0, .ref b), (1, .ref (ad 0)), (2, .int (nI n)), (3, .ref z), (4, .int (nI tm)), (5, .int v), (6, .int (nI np)), (7, .int (nI nq)), (8, .int (nI (pAt F np (-2)))), (9, .int (nI sk)), (10, .int (nI kd)), (11, .int (bI tb)), (12, .long (dG n np nq F)), (14, .int (nI (gvT F kd tb sk))), (16, .int (nI a9)), (17, .int (nI co)), (18, .int (nI (prN F n np (nI co) 3))), (19, .ref pq)]) hx hb dL_law_390 hl (by decide) rfl (fun ls hl => ?_)
      refine lv_iload hx hb dL_law_392 (lv_at hl 0 rfl) ?_
      refine lv_iload hx hb dL_law_394 (lv_at hl 9 rfl) ?_
      refine lv_sipush (v := nI 150) hx hb dL_law_396 (by decide) ?_
      refine nv_icmp_ge (tgt := 407) hx hb (by omega) (by omega) dL_law_399 (by decide) (fun c_36 => ?_) (fun c_36 => ?_)
      · refine lv_iconst (v := -1) hx hb dL_law_407 (by decide) ?_
        refine lv_icmp_eq (tgt := 413) hx hb dL_law_408 (by decide) (fun c_37 => ?_) (fun c_37 => ?_)
        · refine lv_iload hx hb dL_law_413 (lv_at hl 0 rfl) ?_
          refine lv_if_ge (tgt := 421) hx hb dL_law_415 (by decide) (fun c_38 => ?_) (fun c_38 => ?_)
          · exact absurd c_38 (by decide)
          · refine lv_goto (tgt := 740) hx hb dL_law_418 (by decide) ?_
            exact kk740 np nq F _ _ _ _ _ (by omega) (by omega) (by omega) (rel_g hg (Rel_refl np F)) hJ hG h_z h_pqo h_pq hS (lv_sub hl [3, 4, 5, 6, 7, 9, 20] rfl)
        · exact absurd rfl c_37
      · exfalso; omega
  · refine lv_iload hx hb dL_law_352 (lv_at hl 14 rfl) ?_
    refine lv_if_ge (tgt := 360) hx hb dL_law_354 (by decide) (fun c_39 => ?_) (fun c_39 => ?_)
    · exact absurd c_39 (by decide)
    · refine lv_goto (tgt := 740) hx hb dL_law_357 (by decide) ?_
      exact kk740 np nq F _ _ _ _ _ (by omega) (by omega) (by omega) (rel_g hg (Rel_refl np F)) hJ hG h_z h_pqo h_pq hS (lv_sub hl [0, 1, 2, 3, 4, 6, 17] rfl)
