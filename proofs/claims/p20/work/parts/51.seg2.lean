set_option maxHeartbeats 4000000 in
set_option maxRecDepth 100000 in
/-- the pieces are written down -/
theorem sg_2 {p : Program} {l : Launch} {e : Env} {R : Room} {s : State} {m : MethodId} {args : Array Value} {below : List Frame} {meth : Method} {c : Code} {Q : State → Prop} {D : va_G} {cI cZ cO : ClassId} {ad : Nat → Nat} {b L : Nat} {xs : Nat → Int32} (hst : l.stackTraces = false) (hCx : LC cL_law 29 wsL_law p s m c args R D cI cZ cO b L xs) (hAD : inj ad 23 ∧ ∀ i, i ≤ 23 → s.heap.size ≤ ad i) (n np nq : Nat) (F : Nat → Nat → Int32) (z : Nat) (szf : Nat → Int32) (tm : Nat) (v : Int32) (sk kd co : Nat) (tb : Bool) (pl : Int32) (hadz : ∀ i, i ≤ 23 → ad i < z) (hzA : s.heap.size ≤ z) (hsz : ∀ k, k < 4 → szf k = nI (kz k)) (htm : tm < 24) (hn1 : 1 ≤ n) (hsk : sk < n) (hkd : kd < 4) (hco : co < 4) (hJ : J n np nq F) (cc ss : Nat) (H1 : Heap) (locs : List Loc) (ls : Array Slot) (hRc : cc + 1700 ≤ R.cells) (hRs : ss + 10000 ≤ R.slots) (hG : GW D cI cZ cO ad n np nq F H1) (h_z : ar cI z 4 szf H1) (hS : va_S (LA s) s.heap H1 locs) (hl : lv_has ls 29 [(0, .ref b), (1, .ref (ad 0)), (2, .int (nI n)), (3, .ref z), (4, .int (nI tm)), (5, .int v), (6, .int (nI np)), (7, .int (nI nq)), (8, .int (nI (pAt F np (-2)))), (9, .int (nI sk)), (10, .int (nI kd)), (11, .int (bI tb)), (12, .long (dG n np nq F)), (14, .int (nI (gvT F kd tb sk))), (16, .int pl), (17, .int (nI co)), (18, .int (nI (prN F n np (nI co) 3)))]) (kk321 : ∀ (pq : Nat) (g9 : Nat → Nat → Int32) (cc' ss' : Nat) (H1 : Heap) (locs : List Loc) (ls : Array Slot), cc' ≤ cc + 1700 → ss' ≤ ss + 10000 → (z < pq) → (∀ p, p < np → ∀ w, w < 4 → g9 p w = pcT F p w) → GW D cI cZ cO ad n np nq F H1 → (ar cI z 4 szf H1) → (ao cO pq np H1) → (∀ i, i < np → ar cI (pq + 1 + i) 4 (g9 i) H1) → va_S (LA s) s.heap H1 locs → lv_has ls 29 [(0, .ref b), (1, .ref (ad 0)), (2, .int (nI n)), (3, .ref z), (4, .int (nI tm)), (5, .int v), (6, .int (nI np)), (7, .int (nI nq)), (8, .int (nI (pAt F np (-2)))), (9, .int (nI sk)), (10, .int (nI kd)), (11, .int (bI tb)), (12, .long (dG n np nq F)), (14, .int (nI (gvT F kd tb sk))), (16, .int pl), (17, .int (nI co)), (18, .int (nI (prN F n np (nI co) 3))), (19, .ref pq)] → W p l e R s m args below meth c H1 locs cc' ss' Q (F0 m 321 ls [])) : W p l e R s m args below meth c H1 locs cc ss Q (F0 m 265 ls []) := by
  obtain ⟨hx, hb, hml, hown, hts, hK, hX, hbl, hL, hAO, hE, hRf, hRl⟩ := id hCx
  obtain ⟨hinj, hLA⟩ := id hAD
  have hbA : ¬ LA s b := Nat.not_le.mpr hbl
  have hAG : ∀ q, inA ad 23 q → LA s q := fun q ⟨i, hi, e⟩ => e ▸ hLA i hi
  obtain ⟨hn9, hnp9, hnq9, hsk9, hrip9, -⟩ := id hJ.inv
  refine lv_iload hx hb dL_law_265 (lv_at hl 6 rfl) ?_
  refine lv_iconst (v := nI 4) hx hb dL_law_267 (by decide) ?_
  obtain ⟨pq, eq_pq⟩ : ∃ z, H1.size = z := ⟨_, rfl⟩
  have hzp : z < pq := by have := h_z.lt; omega
  refine w_mnaQ eq_pq hx hb hown (hts (.classLink RL 88 "[[I") (by decide +kernel)) hAO (hts (.arrayClass .int) (by decide +kernel)) hK 0 2 rfl rfl hS (by omega) (by omega) (by omega) (by omega) dL_law_268 (fun H1 h_pqo h_pq z1 o1 hS => ?_)
  have hG := hG.newQ eq_pq o1
  have h_z := h_z.kept (o1 _ (by have := h_z.lt; omega))
  obtain ⟨g_1, eg_1⟩ : ∃ z : Nat → Nat → Int32, z = (fun _ _ => 0) := ⟨_, rfl⟩
  have h_pq : ∀ i, i < np → ar cI (pq + 1 + i) 4 (g_1 i) H1 := by rw [eg_1]; exact h_pq
  refine lv_astore (lv' := [(19, .ref pq), (0, .ref b), (1, .ref (ad 0)), (2, .int (nI n)), (3, .ref z), (4, .int (nI tm)), (5, .int v), (6, .int (nI np)), (7, .int (nI nq)), (8, .int (nI (pAt F np (-2)))), (9, .int (nI sk)), (10, .int (nI kd)), (11, .int (bI tb)), (12, .long (dG n np nq F)), (14, .int (nI (gvT F kd tb sk))), (16, .int pl), (17, .int (nI co)), (18, .int (nI (prN F n np (nI co) 3)))]) hx hb dL_law_272 hl (by decide) rfl (fun ls hl => ?_)
  refine lv_iconst (v := nI 0) hx hb dL_law_274 (by decide) ?_
  refine lv_istore (lv' := [(20, .int (nI 0)), (19, .ref pq), (0, .ref b), (1, .ref (ad 0)), (2, .int (nI n)), (3, .ref z), (4, .int (nI tm)), (5, .int v), (6, .int (nI np)), (7, .int (nI nq)), (8, .int (nI (pAt F np (-2)))), (9, .int (nI sk)), (10, .int (nI kd)), (11, .int (bI tb)), (12, .long (dG n np nq F)), (14, .int (nI (gvT F kd tb sk))), (16, .int pl), (17, .int (nI co)), (18, .int (nI (prN F n np (nI co) 3)))]) hx hb dL_law_275 hl (by decide) rfl (fun ls hl => ?_)
  have L277 : ∀ (fu : Nat) (i9 : Nat) (g9 : Nat → Nat → Int32) (c277 s277 : Nat) (H1 : Heap) (locs : List Loc) (ls : Array Slot), np - i9 < fu → (c277 ≤ cc + 1 + np + 10 * i9) → (s277 ≤ ss + np + np * 4 + 60 * i9) → (i9 ≤ np) → (∀ p, p < i9 → ∀ w, w < 4 → g9 p w = pcT F p w) → GW D cI cZ cO ad n np nq F H1 → (ar cI z 4 szf H1) → (ao cO pq np H1) → (∀ i, i < np → ar cI (pq + 1 + i) 4 (g9 i) H1) → va_S (LA s) s.heap H1 locs → lv_has ls 29 [(0, .ref b), (1, .ref (ad 0)), (2, .int (nI n)), (3, .ref z), (4, .int (nI tm)), (5, .int v), (6, .int (nI np)), (7, .int (nI nq)), (8, .int (nI (pAt F np (-2)))), (9, .int (nI sk)), (10, .int (nI kd)), (11, .int (bI tb)), (12, .long (dG n np nq F)), (14, .int (nI (gvT F kd tb sk))), (16, .int pl), (17, .int (nI co)), (18, .int (nI (prN F n np (nI co) 3))), (19, .ref pq), (20, .int (nI i9))] → W p l e R s m args below meth c H1 locs c277 s277 Q (F0 m 277 ls []) := by
    intro fu
    induction fu with
    | zero => intro _ _ _ _ _ _ _ h; exact absurd h (Nat.not_lt_zero _)
    | succ fu ih277 =>
      intro i9 g9 c277 s277 H1 locs ls hm277 hc277 hs277 hi hg hG h_z h_pqo h_pq hS hl
      refine lv_iload hx hb dL_law_277 (lv_at hl 18 rfl) ?_
      refine lv_iload hx hb dL_law_279 (lv_at hl 6 rfl) ?_
      refine nv_icmp_ge (tgt := 321) hx hb (by omega) (by omega) dL_law_281 (by decide) (fun c_2 => ?_) (fun c_2 => ?_)
      · exact kk321 pq g9 _ _ _ _ _ (by omega) (by omega) hzp (fun p hp w hw => hg p (by omega) w hw) hG h_z h_pqo h_pq hS (lv_sub hl [0, 1, 2, 3, 4, 5, 6, 7, 8, 9, 10, 11, 12, 13, 14, 15, 16, 17] rfl)
      · refine lv_iconst (v := nI 0) hx hb dL_law_284 (by decide) ?_
        refine lv_istore (lv' := [(21, .int (nI 0)), (0, .ref b), (1, .ref (ad 0)), (2, .int (nI n)), (3, .ref z), (4, .int (nI tm)), (5, .int v), (6, .int (nI np)), (7, .int (nI nq)), (8, .int (nI (pAt F np (-2)))), (9, .int (nI sk)), (10, .int (nI kd)), (11, .int (bI tb)), (12, .long (dG n np nq F)), (14, .int (nI (gvT F kd tb sk))), (16, .int pl), (17, .int (nI co)), (18, .int (nI (prN F n np (nI co) 3))), (19, .ref pq), (20, .int (nI i9))]) hx hb dL_law_285 hl (by decide) rfl (fun ls hl => ?_)
        have L287 : ∀ (fu : Nat) (j9 : Nat) (k9 : Nat → Nat → Int32) (c287 s287 : Nat) (H1 : Heap) (locs : List Loc) (ls : Array Slot), 4 - j9 < fu → (c287 ≤ cc + 1 + np + 10 * i9 + 2 * j9) → (s287 ≤ ss + np + np * 4 + 60 * i9 + 12 * j9) → (j9 ≤ 4) → (∀ p, p < i9 → ∀ w, w < 4 → k9 p w = pcT F p w) → (∀ w, w < j9 → k9 i9 w = pcT F i9 w) → GW D cI cZ cO ad n np nq F H1 → (ar cI z 4 szf H1) → (ao cO pq np H1) → (∀ i, i < np → ar cI (pq + 1 + i) 4 (k9 i) H1) → va_S (LA s) s.heap H1 locs → lv_has ls 29 [(0, .ref b), (1, .ref (ad 0)), (2, .int (nI n)), (3, .ref z), (4, .int (nI tm)), (5, .int v), (6, .int (nI np)), (7, .int (nI nq)), (8, .int (nI (pAt F np (-2)))), (9, .int (nI sk)), (10, .int (nI kd)), (11, .int (bI tb)), (12, .long (dG n np nq F)), (14, .int (nI (gvT F kd tb sk))), (16, .int pl), (17, .int (nI co)), (18, .int (nI (prN F n np (nI co) 3))), (19, .ref pq), (20, .int (nI i9)), (21, .int (nI j9))] → W p l e R s m args below meth c H1 locs c287 s287 Q (F0 m 287 ls []) := by
          intro fu
          induction fu with
          | zero => intro _ _ _ _ _ _ _ h; exact absurd h (Nat.not_lt_zero _)
          | succ fu ih287 =>
            intro j9 k9 c287 s287 H1 locs ls hm287 hc287 hs287 hj hg3 hg2 hG h_z h_pqo h_pq hS hl
            refine lv_iload hx hb dL_law_287 (lv_at hl 19 rfl) ?_
            refine lv_iconst (v := nI 4) hx hb dL_law_289 (by decide) ?_
            refine nv_icmp_ge (tgt := 315) hx hb (by omega) (by omega) dL_law_290 (by decide) (fun c_3 => ?_) (fun c_3 => ?_)
            · refine lv_iinc (k := 18) (v := nI (i9 + 1)) (lv' := [(20, .int (nI (i9 + 1))), (0, .ref b), (1, .ref (ad 0)), (2, .int (nI n)), (3, .ref z), (4, .int (nI tm)), (5, .int v), (6, .int (nI np)), (7, .int (nI nq)), (8, .int (nI (pAt F np (-2)))), (9, .int (nI sk)), (10, .int (nI kd)), (11, .int (bI tb)), (12, .long (dG n np nq F)), (14, .int (nI (gvT F kd tb sk))), (16, .int pl), (17, .int (nI co)), (18, .int (nI (prN F n np (nI co) 3))), (19, .ref pq), (21, .int (nI j9))]) hx hb dL_law_315 hl rfl (nI_add i9 1) (by decide) rfl (fun ls hl => ?_)
              refine lv_goto (tgt := 277) hx hb dL_law_318 (by decide) ?_
              exact ih277 (i9 + 1) k9 _ _ _ _ _ (by omega) (by omega) (by omega) (by omega) (fun p hp w hw => (Nat.lt_or_ge p i9).elim (fun q => hg3 p q w hw) (fun q => by rw [show p = i9 by omega]; exact hg2 w (by omega))) hG h_z h_pqo h_pq hS (lv_sub hl [1, 2, 3, 4, 5, 6, 7, 8, 9, 10, 11, 12, 13, 14, 15, 16, 17, 18, 0] rfl)
            · refine lv_aload hx hb dL_law_293 (lv_at hl 17 rfl) ?_
              refine lv_iload hx hb dL_law_295 (lv_at hl 18 rfl) ?_
              refine w_aald hx hb hK 2 h_pqo rfl (by omega) (by omega) dL_law_297 ?_
              refine lv_iload hx hb dL_law_298 (lv_at hl 19 rfl) ?_
              refine lv_aload_n hx hb dL_law_300 rfl (lv_at hl 1 rfl) ?_
              refine lv_iload hx hb dL_law_301 (lv_at hl 18 rfl) ?_
              refine lv_iload hx hb dL_law_303 (lv_at hl 19 rfl) ?_
              refine va_calli (va_runV (As := [.int (nI i9), .int (nI j9)]) (rest := [.int (nI j9), .ref (pq + 1 + i9)]) ⟨hx, hb, hml, hown, hts⟩ (n_piece l hst D cI cZ cO ad n np nq F i9 j9 hJ (by omega) (by omega)) (cwV 2 hts gL_law_X0_piece rfl rfl rfl (by decide +kernel) ⟨Nat.le_trans (Nat.le_of_ble_eq_true rfl) hRf, Nat.le_trans (Nat.le_of_ble_eq_true rfl) hRl⟩) (prG_V hG hK (hE.1.at hS sub_id sub_no) EnvG_c) rfl rfl hl.1 rfl (lv_room (Nat.le_of_ble_eq_true rfl)) dL_law_305 ⟨by omega, by omega⟩) hS (fun _ _ h => h.elim) (fun _ h => h.elim) (fun r_4 _ t H1 locs ht hvm hw hB hz hk hS => ?_)
              have hG := hG.kept hk
              have h_z := h_z.kept (hk _ h_z.lt id)
              have h_pqo := h_pqo.kept (hk _ h_pqo.lt id)
              have h_pq := fun (i : Nat) (hi : i < np) => (h_pq i hi).kept (hk _ (h_pq i hi).lt id)
              obtain rfl := hw
              refine w_iast hx hb hK 0 (h_pq i9 (by omega)) rfl (show s.heap.size ≤ _ by omega) hS (by omega) (by decide) dL_law_308 (fun H1 locs h9 z1 oq hS => ?_)
              have hG := hG.put hinj hadz (by omega) oq
              have h_z := h_z.kept (oq _ (by omega))
              have h_pqo := h_pqo.kept (oq _ (by omega))
              have h_pq : ∀ i, i < np → ar cI (pq + 1 + i) 4 ((va_up k9 i9 (upd (k9 i9) j9 (pcT F i9 j9))) i) H1 := fun i hi => by
                by_cases e9 : i = i9
                · subst e9; rw [va_up_self]; exact h9
                · rw [va_up_ne _ _ e9]; exact (h_pq i hi).kept (oq _ (by omega))
              obtain ⟨g_5, eg_5⟩ : ∃ z : Nat → Nat → Int32, z = va_up k9 i9 (upd (k9 i9) j9 (pcT F i9 j9)) := ⟨_, rfl⟩
              rw [← eg_5] at h_pq
              refine lv_iinc (k := 19) (v := nI (j9 + 1)) (lv' := [(21, .int (nI (j9 + 1))), (0, .ref b), (1, .ref (ad 0)), (2, .int (nI n)), (3, .ref z), (4, .int (nI tm)), (5, .int v), (6, .int (nI np)), (7, .int (nI nq)), (8, .int (nI (pAt F np (-2)))), (9, .int (nI sk)), (10, .int (nI kd)), (11, .int (bI tb)), (12, .long (dG n np nq F)), (14, .int (nI (gvT F kd tb sk))), (16, .int pl), (17, .int (nI co)), (18, .int (nI (prN F n np (nI co) 3))), (19, .ref pq), (20, .int (nI i9))]) hx hb dL_law_309 hl rfl (nI_add j9 1) (by decide) rfl (fun ls hl => ?_)
              refine lv_goto (tgt := 287) hx hb dL_law_312 (by decide) ?_
              exact ih287 (j9 + 1) g_5 _ _ _ _ _ (by omega) (by omega) (by omega) (by omega) (fun p hp w hw => by rw [eg_5, va_up_ne _ _ (by omega)]; exact hg3 p hp w hw) (fun w hw => by rw [eg_5, va_up_self]; exact (Nat.lt_or_ge w j9).elim (fun q => by rw [upd_n _ _ (show ¬ w = j9 by omega)]; exact hg2 w q) (fun q => by rw [show w = j9 by omega, upd_s])) hG h_z h_pqo h_pq hS (lv_sub hl [1, 2, 3, 4, 5, 6, 7, 8, 9, 10, 11, 12, 13, 14, 15, 16, 17, 18, 19, 0] rfl)
        exact L287 _ 0 g9 _ _ _ _ _ (Nat.lt_succ_self _) (by omega) (by omega) (by omega) hg (fun w h => absurd h (Nat.not_lt_zero w)) hG h_z h_pqo h_pq hS (lv_sub hl [1, 2, 3, 4, 5, 6, 7, 8, 9, 10, 11, 12, 13, 14, 15, 16, 17, 18, 19, 0] rfl)
  exact L277 _ 0 g_1 _ _ _ _ _ (Nat.lt_succ_self _) (by omega) (by omega) (by omega) (fun p h => absurd h (Nat.not_lt_zero p)) hG h_z h_pqo h_pq hS (lv_sub hl [2, 3, 4, 5, 6, 7, 8, 9, 10, 11, 12, 13, 14, 15, 16, 17, 18, 1, 0] rfl)
