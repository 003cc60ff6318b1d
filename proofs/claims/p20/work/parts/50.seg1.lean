set_option maxHeartbeats 4000000 in
set_option maxRecDepth 100000 in
/-- from the head of a round to what is asked first -/
theorem sg_1 {p : Program} {l : Launch} {e : Env} {R : Room} {s : State} {m : MethodId} {args : Array Value} {below : List Frame} {meth : Method} {c : Code} {Q : State → Prop} {D : va_G} {cI cZ cO : ClassId} {ad : Nat → Nat} {b L : Nat} {xs : Nat → Int32} (hst : l.stackTraces = false) (hCx : LC cL_law 29 wsL_law p s m c args R D cI cZ cO b L xs) (hAD : inj ad 23 ∧ ∀ i, i ≤ 23 → s.heap.size ≤ ad i) (n np nq : Nat) (F : Nat → Nat → Int32) (z : Nat) (szf : Nat → Int32) (tm : Nat) (hadz : ∀ i, i ≤ 23 → ad i < z) (hzA : s.heap.size ≤ z) (hsz : ∀ k, k < 4 → szf k = nI (kz k)) (htm : tm < 24) (hn1 : 1 ≤ n) (hJ : J n np nq F) (cc ss : Nat) (H1 : Heap) (locs : List Loc) (ls : Array Slot) (hRc : cc + 60 ≤ R.cells) (hRs : ss + 600 ≤ R.slots) (hG : GW D cI cZ cO ad n np nq F H1) (h_z : ar cI z 4 szf H1) (hS : va_S (LA s) s.heap H1 locs) (hl : lv_has ls 29 [(0, .ref b), (1, .ref (ad 0)), (2, .int (nI n)), (3, .ref z), (4, .int (nI tm))]) (kk265 : ∀ (v : Int32) (sk : Nat) (kd : Nat) (co : Nat) (tb : Bool) (pl : Int32) (cc' ss' : Nat) (H1 : Heap) (locs : List Loc) (ls : Array Slot), cc' ≤ cc + 60 → ss' ≤ ss + 600 → (sk < n) → (kd < 4) → (co < 4) → ((∃ a, a < 96 ∧ pl = nI a ∧ fI (fitA (F (14 + sk)) kd tb) 0 (96 - 0) = nI a ∧ fitA (F (14 + sk)) kd tb a = true ∧ 0 < gvT F kd tb sk) ∨ (pl = -1 ∧ gvT F kd tb sk = 0)) → GW D cI cZ cO ad n np nq F H1 → (ar cI z 4 szf H1) → va_S (LA s) s.heap H1 locs → lv_has ls 29 [(0, .ref b), (1, .ref (ad 0)), (2, .int (nI n)), (3, .ref z), (4, .int (nI tm)), (5, .int v), (6, .int (nI np)), (7, .int (nI nq)), (8, .int (nI (pAt F np (-2)))), (9, .int (nI sk)), (10, .int (nI kd)), (11, .int (bI tb)), (12, .long (dG n np nq F)), (14, .int (nI (gvT F kd tb sk))), (16, .int pl), (17, .int (nI co)), (18, .int (nI (prN F n np (nI co) 3)))] → W p l e R s m args below meth c H1 locs cc' ss' Q (F0 m 265 ls [])) : W p l e R s m args below meth c H1 locs cc ss Q (F0 m 42 ls []) := by
  obtain ⟨hx, hb, hml, hown, hts, hK, hX, hbl, hL, hAO, hE, hRf, hRl⟩ := id hCx
  obtain ⟨hinj, hLA⟩ := id hAD
  have hbA : ¬ LA s b := Nat.not_le.mpr hbl
  have hAG : ∀ q, inA ad 23 q → LA s q := fun q ⟨i, hi, e⟩ => e ▸ hLA i hi
  obtain ⟨hn9, hnp9, hnq9, hsk9, hrip9, -⟩ := id hJ.inv
  have hpa := pAt_le F np (-2)
  have hpb := pAt_le F np (-1)
  have hpu := pUse_le F nq
  refine lv_aload_n hx hb dL_law_42 rfl (lv_at hl 0 rfl) ?_
  refine lv_iload hx hb dL_law_43 (lv_at hl 4 rfl) ?_
  refine lv_bipush (v := nI 16) hx hb dL_law_45 (by decide) ?_
  refine nv_irem hx hb (by omega) (by omega) (by omega) dL_law_47 ?_
  refine va_calli (va_runS (As := [.ref b, .int (nI (tm % 16))]) (rest := []) ⟨hx, hb, hml, hown, hts⟩ (c_L_cell l D b L xs (tm % 16) (by omega) hL) (va_cwS 2 hts gL_law_L_cell rfl rfl rfl (by decide +kernel) ⟨Nat.le_trans (Nat.le_of_ble_eq_true rfl) hRf, Nat.le_trans (Nat.le_of_ble_eq_true rfl) hRl⟩) (pr_S P_nil hK [] rfl (VX.at hX hbl hS hbA) VX_c) rfl rfl hl.1 rfl (lv_room (Nat.le_of_ble_eq_true rfl)) dL_law_48 ⟨by omega, by omega⟩) hS (fun _ _ h => h.elim) (fun _ h => h.elim) (fun r_1 _ t H1 locs ht hvm hw hB hz hk hS => ?_)
  have hG := hG.kept hk
  have h_z := h_z.kept (hk _ h_z.lt id)
  refine lv_iload hx hb dL_law_51 (lv_at hl 4 rfl) ?_
  refine lv_bipush (v := nI 16) hx hb dL_law_53 (by decide) ?_
  refine nv_idiv hx hb (by omega) (by omega) (by omega) dL_law_55 ?_
  refine lv_bipush (v := nI 6) hx hb dL_law_56 (by decide) ?_
  refine nv_imul hx hb dL_law_58 ?_
  refine lv_ishr hx hb dL_law_59 ?_
  refine lv_topi (fun v_2 ev_2 => ?_)
  refine lv_istore (lv' := [(5, .int v_2), (0, .ref b), (1, .ref (ad 0)), (2, .int (nI n)), (3, .ref z), (4, .int (nI tm))]) hx hb dL_law_60 hl (by decide) rfl (fun ls hl => ?_)
  refine lv_aload_n hx hb dL_law_62 rfl (lv_at hl 2 rfl) ?_
  refine lv_iconst (v := nI 1) hx hb dL_law_63 (by decide) ?_
  refine va_calli (va_runV (As := [.int (nI 1)]) (rest := []) ⟨hx, hb, hml, hown, hts⟩ (n_count l hst D cI cZ cO ad n np nq F 1 hJ (by decide)) (cwV 1 hts gL_law_X0_count rfl rfl rfl (by decide +kernel) ⟨Nat.le_trans (Nat.le_of_ble_eq_true rfl) hRf, Nat.le_trans (Nat.le_of_ble_eq_true rfl) hRl⟩) (prG_V hG hK (hE.1.at hS sub_id sub_no) EnvG_c) rfl rfl hl.1 rfl (lv_room (Nat.le_of_ble_eq_true rfl)) dL_law_64 ⟨by omega, by omega⟩) hS (fun _ _ h => h.elim) (fun _ h => h.elim) (fun r_3 _ t H1 locs ht hvm hw hB hz hk hS => ?_)
  have hG := hG.kept hk
  have h_z := h_z.kept (hk _ h_z.lt id)
  obtain rfl : r_3 = nI np := hw
  refine lv_istore (lv' := [(6, .int (nI np)), (5, .int v_2), (0, .ref b), (1, .ref (ad 0)), (2, .int (nI n)), (3, .ref z), (4, .int (nI tm))]) hx hb dL_law_67 hl (by decide) rfl (fun ls hl => ?_)
  refine lv_aload_n hx hb dL_law_69 rfl (lv_at hl 3 rfl) ?_
  refine lv_iconst (v := nI 5) hx hb dL_law_70 (by decide) ?_
  refine va_calli (va_runV (As := [.int (nI 5)]) (rest := []) ⟨hx, hb, hml, hown, hts⟩ (n_count l hst D cI cZ cO ad n np nq F 5 hJ (by decide)) (cwV 1 hts gL_law_X0_count rfl rfl rfl (by decide +kernel) ⟨Nat.le_trans (Nat.le_of_ble_eq_true rfl) hRf, Nat.le_trans (Nat.le_of_ble_eq_true rfl) hRl⟩) (prG_V hG hK (hE.1.at hS sub_id sub_no) EnvG_c) rfl rfl hl.1 rfl (lv_room (Nat.le_of_ble_eq_true rfl)) dL_law_71 ⟨by omega, by omega⟩) hS (fun _ _ h => h.elim) (fun _ h => h.elim) (fun r_4 _ t H1 locs ht hvm hw hB hz hk hS => ?_)
  have hG := hG.kept hk
  have h_z := h_z.kept (hk _ h_z.lt id)
  obtain rfl : r_4 = nI nq := hw
  refine lv_istore (lv' := [(7, .int (nI nq)), (6, .int (nI np)), (5, .int v_2), (0, .ref b), (1, .ref (ad 0)), (2, .int (nI n)), (3, .ref z), (4, .int (nI tm))]) hx hb dL_law_74 hl (by decide) rfl (fun ls hl => ?_)
  refine lv_aload_n hx hb dL_law_76 rfl (lv_at hl 4 rfl) ?_
  refine lv_iconst (v := nI 4) hx hb dL_law_77 (by decide) ?_
  refine va_calli (va_runV (As := [.int (nI 4)]) (rest := []) ⟨hx, hb, hml, hown, hts⟩ (n_count l hst D cI cZ cO ad n np nq F 4 hJ (by decide)) (cwV 1 hts gL_law_X0_count rfl rfl rfl (by decide +kernel) ⟨Nat.le_trans (Nat.le_of_ble_eq_true rfl) hRf, Nat.le_trans (Nat.le_of_ble_eq_true rfl) hRl⟩) (prG_V hG hK (hE.1.at hS sub_id sub_no) EnvG_c) rfl rfl hl.1 rfl (lv_room (Nat.le_of_ble_eq_true rfl)) dL_law_78 ⟨by omega, by omega⟩) hS (fun _ _ h => h.elim) (fun _ h => h.elim) (fun r_5 _ t H1 locs ht hvm hw hB hz hk hS => ?_)
  have hG := hG.kept hk
  have h_z := h_z.kept (hk _ h_z.lt id)
  obtain rfl : r_5 = nI (pAt F np (-2)) := hw
  refine lv_istore (lv' := [(8, .int (nI (pAt F np (-2)))), (7, .int (nI nq)), (6, .int (nI np)), (5, .int v_2), (0, .ref b), (1, .ref (ad 0)), (2, .int (nI n)), (3, .ref z), (4, .int (nI tm))]) hx hb dL_law_81 hl (by decide) rfl (fun ls hl => ?_)
  refine lv_iload hx hb dL_law_83 (lv_at hl 3 rfl) ?_
  refine lv_iconst (v := nI 3) hx hb dL_law_85 (by decide) ?_
  refine lv_ishr hx hb dL_law_86 ?_
  refine lv_topi (fun v_6 ev_6 => ?_)
  refine lv_iload_n hx hb dL_law_87 rfl (lv_at hl 6 rfl) ?_
  refine va_calli (va_runS (As := [.int v_6, .int (nI n)]) (rest := []) ⟨hx, hb, hml, hown, hts⟩ (c_L_below l D v_6 n (by omega) (by omega)) (va_cwS 2 hts gL_law_L_below rfl rfl rfl (by decide +kernel) ⟨Nat.le_trans (Nat.le_of_ble_eq_true rfl) hRf, Nat.le_trans (Nat.le_of_ble_eq_true rfl) hRl⟩) (pr_S P_nil hK [] rfl V0_at V0_c) rfl rfl hl.1 rfl (lv_room (Nat.le_of_ble_eq_true rfl)) dL_law_88 ⟨by omega, by omega⟩) hS (fun _ _ h => h.elim) (fun _ h => h.elim) (fun r_7 _ t H1 locs ht hvm hw hB hz hk hS => ?_)
  obtain ⟨sk, hsk, rfl⟩ := hw
  have hG := hG.kept hk
  have h_z := h_z.kept (hk _ h_z.lt id)
  refine lv_istore (lv' := [(9, .int (nI sk)), (8, .int (nI (pAt F np (-2)))), (7, .int (nI nq)), (6, .int (nI np)), (5, .int v_2), (0, .ref b), (1, .ref (ad 0)), (2, .int (nI n)), (3, .ref z), (4, .int (nI tm))]) hx hb dL_law_91 hl (by decide) rfl (fun ls hl => ?_)
  refine lv_iload hx hb dL_law_93 (lv_at hl 4 rfl) ?_
  refine lv_iconst (v := nI 5) hx hb dL_law_95 (by decide) ?_
  refine lv_ishr hx hb dL_law_96 ?_
  refine lv_topi (fun v_8 ev_8 => ?_)
  refine lv_iconst (v := nI 4) hx hb dL_law_97 (by decide) ?_
  refine va_calli (va_runS (As := [.int v_8, .int (nI 4)]) (rest := []) ⟨hx, hb, hml, hown, hts⟩ (c_L_below l D v_8 4 (by omega) (by omega)) (va_cwS 2 hts gL_law_L_below rfl rfl rfl (by decide +kernel) ⟨Nat.le_trans (Nat.le_of_ble_eq_true rfl) hRf, Nat.le_trans (Nat.le_of_ble_eq_true rfl) hRl⟩) (pr_S P_nil hK [] rfl V0_at V0_c) rfl rfl hl.1 rfl (lv_room (Nat.le_of_ble_eq_true rfl)) dL_law_98 ⟨by omega, by omega⟩) hS (fun _ _ h => h.elim) (fun _ h => h.elim) (fun r_9 _ t H1 locs ht hvm hw hB hz hk hS => ?_)
  obtain ⟨kd, hkd, rfl⟩ := hw
  have hG := hG.kept hk
  have h_z := h_z.kept (hk _ h_z.lt id)
  refine lv_istore (lv' := [(10, .int (nI kd)), (9, .int (nI sk)), (8, .int (nI (pAt F np (-2)))), (7, .int (nI nq)), (6, .int (nI np)), (5, .int v_2), (0, .ref b), (1, .ref (ad 0)), (2, .int (nI n)), (3, .ref z), (4, .int (nI tm))]) hx hb dL_law_101 hl (by decide) rfl (fun ls hl => ?_)
  refine lv_iload hx hb dL_law_103 (lv_at hl 5 rfl) ?_
  refine lv_bipush (v := nI 7) hx hb dL_law_105 (by decide) ?_
  refine lv_ishr hx hb dL_law_107 ?_
  refine lv_topi (fun v_10 ev_10 => ?_)
  refine lv_iconst (v := nI 2) hx hb dL_law_108 (by decide) ?_
  refine va_calli (va_runS (As := [.int v_10, .int (nI 2)]) (rest := []) ⟨hx, hb, hml, hown, hts⟩ (c_L_below l D v_10 2 (by omega) (by omega)) (va_cwS 2 hts gL_law_L_below rfl rfl rfl (by decide +kernel) ⟨Nat.le_trans (Nat.le_of_ble_eq_true rfl) hRf, Nat.le_trans (Nat.le_of_ble_eq_true rfl) hRl⟩) (pr_S P_nil hK [] rfl V0_at V0_c) rfl rfl hl.1 rfl (lv_room (Nat.le_of_ble_eq_true rfl)) dL_law_109 ⟨by omega, by omega⟩) hS (fun _ _ h => h.elim) (fun _ h => h.elim) (fun r_11 _ t H1 locs ht hvm hw hB hz hk hS => ?_)
  obtain ⟨j_12, hj_12, rfl⟩ := hw
  have hG := hG.kept hk
  have h_z := h_z.kept (hk _ h_z.lt id)
  refine wb_ne hx hb (by omega) dL_law_112 dL_law_115 dL_law_116 dL_law_119 ?_
  obtain ⟨tb_13, etb_13⟩ : ∃ z, z = decide (j_12 = 0) := ⟨_, rfl⟩
  rw [← etb_13]
  refine lv_istore (lv' := [(11, .int (bI tb_13)), (10, .int (nI kd)), (9, .int (nI sk)), (8, .int (nI (pAt F np (-2)))), (7, .int (nI nq)), (6, .int (nI np)), (5, .int v_2), (0, .ref b), (1, .ref (ad 0)), (2, .int (nI n)), (3, .ref z), (4, .int (nI tm))]) hx hb dL_law_120 hl (by decide) rfl (fun ls hl => ?_)
  refine lv_aload_n hx hb dL_law_122 rfl (lv_at hl 8 rfl) ?_
  refine va_calll (va_runV (As := []) (rest := []) ⟨hx, hb, hml, hown, hts⟩ (n_digest l hst D cI cZ cO ad n np nq F  hJ) (cwV 0 hts gL_law_X0_digest rfl rfl rfl (by decide +kernel) ⟨Nat.le_trans (Nat.le_of_ble_eq_true rfl) hRf, Nat.le_trans (Nat.le_of_ble_eq_true rfl) hRl⟩) (prG_V hG hK V0_at V0_c) rfl rfl hl.1 rfl (lv_room (Nat.le_of_ble_eq_true rfl)) dL_law_123 ⟨by omega, by omega⟩) hS (fun _ _ h => h.elim) (fun _ h => h.elim) (fun r_14 _ t H1 locs ht hvm hw hB hz hk hS => ?_)
  have hG := hG.kept hk
  have h_z := h_z.kept (hk _ h_z.lt id)
  obtain rfl := hw
  refine lv_lstore (lv' := [(12, .long (dG n np nq F)), (11, .int (bI tb_13)), (10, .int (nI kd)), (9, .int (nI sk)), (8, .int (nI (pAt F np (-2)))), (7, .int (nI nq)), (6, .int (nI np)), (5, .int v_2), (0, .ref b), (1, .ref (ad 0)), (2, .int (nI n)), (3, .ref z), (4, .int (nI tm))]) hx hb dL_law_126 hl (by decide) rfl (fun ls hl => ?_)
  refine lv_aload_n hx hb dL_law_128 rfl (lv_at hl 9 rfl) ?_
  refine lv_iload hx hb dL_law_129 (lv_at hl 3 rfl) ?_
  refine lv_iload hx hb dL_law_131 (lv_at hl 2 rfl) ?_
  refine lv_iload hx hb dL_law_133 (lv_at hl 1 rfl) ?_
  refine va_calli (va_runV (As := [.int (nI sk), .int (nI kd), .int (bI tb_13)]) (rest := []) ⟨hx, hb, hml, hown, hts⟩ (n_gives l hst D cI cZ cO ad n np nq F sk kd tb_13 hinj hJ (by omega) (by omega)) (cwV 3 hts gL_law_X0_gives rfl rfl rfl (by decide +kernel) ⟨Nat.le_trans (Nat.le_of_ble_eq_true rfl) hRf, Nat.le_trans (Nat.le_of_ble_eq_true rfl) hRl⟩) (prG_V hG hK (hE.1.at hS sub_id hAG) EnvG_c) rfl rfl hl.1 rfl (lv_room (Nat.le_of_ble_eq_true rfl)) dL_law_135 ⟨by omega, by omega⟩) hS (fun q _ h => hAG q h) (fun q h => hAG q h) (fun r_15 _ t H1 locs ht hvm hw hB hz hk hS => ?_)
  rw [ht] at hB
  have h_z := h_z.kept (hk _ h_z.lt (nin hadz (by omega)))
  have hG := hB
  obtain rfl := hw
  have hgv : gvT F kd tb_13 sk ≤ 96 := gv_le96 kd tb_13 (hJ.small hsk)
  refine lv_istore (lv' := [(14, .int (nI (gvT F kd tb_13 sk))), (12, .long (dG n np nq F)), (11, .int (bI tb_13)), (10, .int (nI kd)), (9, .int (nI sk)), (8, .int (nI (pAt F np (-2)))), (7, .int (nI nq)), (6, .int (nI np)), (5, .int v_2), (0, .ref b), (1, .ref (ad 0)), (2, .int (nI n)), (3, .ref z), (4, .int (nI tm))]) hx hb dL_law_138 hl (by decide) rfl (fun ls hl => ?_)
  refine lv_aload_n hx hb dL_law_140 rfl (lv_at hl 10 rfl) ?_
  refine lv_iload hx hb dL_law_141 (lv_at hl 3 rfl) ?_
  refine lv_iload hx hb dL_law_143 (lv_at hl 2 rfl) ?_
  refine va_calli (va_runV (As := [.int (nI kd), .int (bI tb_13)]) (rest := []) ⟨hx, hb, hml, hown, hts⟩ (n_best l hst D cI cZ cO ad n np nq F kd tb_13 hinj hJ (by omega)) (cwV 2 hts gL_law_X0_best rfl rfl rfl (by decide +kernel) ⟨Nat.le_trans (Nat.le_of_ble_eq_true rfl) hRf, Nat.le_trans (Nat.le_of_ble_eq_true rfl) hRl⟩) (prG_V hG hK (hE.1.at hS sub_id hAG) EnvG_c) rfl rfl hl.1 rfl (lv_room (Nat.le_of_ble_eq_true rfl)) dL_law_145 ⟨by omega, by omega⟩) hS (fun q _ h => hAG q h) (fun q h => hAG q h) (fun r_16 _ t H1 locs ht hvm hw hB hz hk hS => ?_)
  rw [ht] at hB
  have h_z := h_z.kept (hk _ h_z.lt (nin hadz (by omega)))
  have hG := hB
  obtain rfl := hw
  refine lv_istore (lv' := [(15, .int (bB (gvT F kd tb_13) n)), (14, .int (nI (gvT F kd tb_13 sk))), (12, .long (dG n np nq F)), (11, .int (bI tb_13)), (10, .int (nI kd)), (9, .int (nI sk)), (8, .int (nI (pAt F np (-2)))), (7, .int (nI nq)), (6, .int (nI np)), (5, .int v_2), (0, .ref b), (1, .ref (ad 0)), (2, .int (nI n)), (3, .ref z), (4, .int (nI tm))]) hx hb dL_law_148 hl (by decide) rfl (fun ls hl => ?_)
  refine lv_aload_n hx hb dL_law_150 rfl (lv_at hl 11 rfl) ?_
  refine lv_iload hx hb dL_law_151 (lv_at hl 5 rfl) ?_
  refine lv_iload hx hb dL_law_153 (lv_at hl 4 rfl) ?_
  refine lv_iload hx hb dL_law_155 (lv_at hl 3 rfl) ?_
  refine va_calli (va_runV (As := [.int (nI sk), .int (nI kd), .int (bI tb_13)]) (rest := []) ⟨hx, hb, hml, hown, hts⟩ (n_place l hst D cI cZ cO ad n np nq F sk kd tb_13 hJ (by omega) (by omega)) (cwV 3 hts gL_law_X0_place rfl rfl rfl (by decide +kernel) ⟨Nat.le_trans (Nat.le_of_ble_eq_true rfl) hRf, Nat.le_trans (Nat.le_of_ble_eq_true rfl) hRl⟩) (prG_V hG hK (hE.1.at hS sub_id sub_no) EnvG_c) rfl rfl hl.1 rfl (lv_room (Nat.le_of_ble_eq_true rfl)) dL_law_157 ⟨by omega, by omega⟩) hS (fun _ _ h => h.elim) (fun _ h => h.elim) (fun r_17 _ t H1 locs ht hvm hw hB hz hk hS => ?_)
  have hG := hG.kept hk
  have h_z := h_z.kept (hk _ h_z.lt id)
  obtain rfl := hw
  refine lv_istore (lv' := [(16, .int (fI (fitA (F (14 + sk)) kd tb_13) 0 (96 - 0))), (15, .int (bB (gvT F kd tb_13) n)), (14, .int (nI (gvT F kd tb_13 sk))), (12, .long (dG n np nq F)), (11, .int (bI tb_13)), (10, .int (nI kd)), (9, .int (nI sk)), (8, .int (nI (pAt F np (-2)))), (7, .int (nI nq)), (6, .int (nI np)), (5, .int v_2), (0, .ref b), (1, .ref (ad 0)), (2, .int (nI n)), (3, .ref z), (4, .int (nI tm))]) hx hb dL_law_160 hl (by decide) rfl (fun ls hl => ?_)
  refine lv_iload hx hb dL_law_162 (lv_at hl 10 rfl) ?_
  refine lv_iconst (v := nI 4) hx hb dL_law_164 (by decide) ?_
  refine lv_ishr hx hb dL_law_165 ?_
  refine lv_topi (fun v_18 ev_18 => ?_)
  refine lv_iconst (v := nI 4) hx hb dL_law_166 (by decide) ?_
  refine va_calli (va_runS (As := [.int v_18, .int (nI 4)]) (rest := []) ⟨hx, hb, hml, hown, hts⟩ (c_L_below l D v_18 4 (by omega) (by omega)) (va_cwS 2 hts gL_law_L_below rfl rfl rfl (by decide +kernel) ⟨Nat.le_trans (Nat.le_of_ble_eq_true rfl) hRf, Nat.le_trans (Nat.le_of_ble_eq_true rfl) hRl⟩) (pr_S P_nil hK [] rfl V0_at V0_c) rfl rfl hl.1 rfl (lv_room (Nat.le_of_ble_eq_true rfl)) dL_law_167 ⟨by omega, by omega⟩) hS (fun _ _ h => h.elim) (fun _ h => h.elim) (fun r_19 _ t H1 locs ht hvm hw hB hz hk hS => ?_)
  obtain ⟨co, hco, rfl⟩ := hw
  have hG := hG.kept hk
  have h_z := h_z.kept (hk _ h_z.lt id)
  refine lv_istore (lv' := [(17, .int (nI co)), (16, .int (fI (fitA (F (14 + sk)) kd tb_13) 0 (96 - 0))), (15, .int (bB (gvT F kd tb_13) n)), (14, .int (nI (gvT F kd tb_13 sk))), (12, .long (dG n np nq F)), (11, .int (bI tb_13)), (10, .int (nI kd)), (9, .int (nI sk)), (8, .int (nI (pAt F np (-2)))), (7, .int (nI nq)), (6, .int (nI np)), (5, .int v_2), (0, .ref b), (1, .ref (ad 0)), (2, .int (nI n)), (3, .ref z), (4, .int (nI tm))]) hx hb dL_law_170 hl (by decide) rfl (fun ls hl => ?_)
  refine lv_aload_n hx hb dL_law_172 rfl (lv_at hl 13 rfl) ?_
  refine lv_iload hx hb dL_law_173 (lv_at hl 0 rfl) ?_
  refine va_calli (va_runV (As := [.int (nI co)]) (rest := []) ⟨hx, hb, hml, hown, hts⟩ (n_pairs l hst D cI cZ cO ad n np nq F co hJ (by omega)) (cwV 1 hts gL_law_X0_pairs rfl rfl rfl (by decide +kernel) ⟨Nat.le_trans (Nat.le_of_ble_eq_true rfl) hRf, Nat.le_trans (Nat.le_of_ble_eq_true rfl) hRl⟩) (prG_V hG hK (hE.1.at hS sub_id sub_no) EnvG_c) rfl rfl hl.1 rfl (lv_room (Nat.le_of_ble_eq_true rfl)) dL_law_175 ⟨by omega, by omega⟩) hS (fun _ _ h => h.elim) (fun _ h => h.elim) (fun r_20 _ t H1 locs ht hvm hw hB hz hk hS => ?_)
  have hG := hG.kept hk
  have h_z := h_z.kept (hk _ h_z.lt id)
  obtain rfl := hw
  have hpr := prN_b (F := F) (n := n) (c := nI co) hnp9
  refine lv_istore (lv' := [(18, .int (nI (prN F n np (nI co) 3))), (17, .int (nI co)), (16, .int (fI (fitA (F (14 + sk)) kd tb_13) 0 (96 - 0))), (15, .int (bB (gvT F kd tb_13) n)), (14, .int (nI (gvT F kd tb_13 sk))), (12, .long (dG n np nq F)), (11, .int (bI tb_13)), (10, .int (nI kd)), (9, .int (nI sk)), (8, .int (nI (pAt F np (-2)))), (7, .int (nI nq)), (6, .int (nI np)), (5, .int v_2), (0, .ref b), (1, .ref (ad 0)), (2, .int (nI n)), (3, .ref z), (4, .int (nI tm))]) hx hb dL_law_178 hl (by decide) rfl (fun ls hl => ?_)
  refine lv_aload_n hx hb dL_law_180 rfl (lv_at hl 14 rfl) ?_
  refine va_calll (va_runV (As := []) (rest := []) ⟨hx, hb, hml, hown, hts⟩ (n_digest l hst D cI cZ cO ad n np nq F  hJ) (cwV 0 hts gL_law_X0_digest rfl rfl rfl (by decide +kernel) ⟨Nat.le_trans (Nat.le_of_ble_eq_true rfl) hRf, Nat.le_trans (Nat.le_of_ble_eq_true rfl) hRl⟩) (prG_V hG hK V0_at V0_c) rfl rfl hl.1 rfl (lv_room (Nat.le_of_ble_eq_true rfl)) dL_law_181 ⟨by omega, by omega⟩) hS (fun _ _ h => h.elim) (fun _ h => h.elim) (fun r_21 _ t H1 locs ht hvm hw hB hz hk hS => ?_)
  have hG := hG.kept hk
  have h_z := h_z.kept (hk _ h_z.lt id)
  obtain rfl := hw
  refine lv_lload hx hb dL_law_184 (lv_at hl 5 rfl) ?_
  refine lv_lcmpN hx hb dL_law_186 ?_
  refine nv_if_ne (tgt := 263) hx hb (by omega) dL_law_187 (by decide) (fun h9 => absurd h9 (by decide)) (fun _ => ?_)
  have hb9 : gvT F kd tb_13 sk * kz kd ≤ cv (F (14 + sk)) (nI 0) + cv (F (14 + sk)) (nI 1) := gv_bound kd tb_13 97 (F (14 + sk)) (hJ.small (by omega))
  have ht9 := cv_tot (hJ.small (show sk < n by omega))
  have hkz := kz_le (k := kd)
  rcases gv_iff (F (14 + sk)) kd tb_13 with ⟨a9, ha9, ea9, hf9, hg9⟩ | ⟨ea9, hg9⟩
  · have hg9 : 0 < gvT F kd tb_13 sk := hg9
    obtain ⟨t9, ht9b, et9, hle9⟩ := best_ge (g := gvT F kd tb_13) (n := n) (s := sk) (by omega) hg9
    have hgt9 : gvT F kd tb_13 t9 ≤ 96 := gv_le96 kd tb_13 (hJ.small ht9b)
    rw [ea9, et9] at hl
    refine lv_iload hx hb dL_law_190 (lv_at hl 4 rfl) ?_
    refine nv_if_le (tgt := 199) hx hb (by omega) dL_law_192 (by decide) (fun c_23 => ?_) (fun c_23 => ?_)
    · exfalso; omega
    · refine lv_iconst (v := nI 1) hx hb dL_law_195 (by decide) ?_
      refine lv_goto (tgt := 200) hx hb dL_law_196 (by decide) ?_
      refine lv_iload hx hb dL_law_200 (lv_at hl 2 rfl) ?_
      refine nv_if_lt (tgt := 209) hx hb (by omega) dL_law_202 (by decide) ?_
      refine lv_iconst (v := nI 1) hx hb dL_law_205 (by decide) ?_
      refine lv_goto (tgt := 210) hx hb dL_law_206 (by decide) ?_
      refine nv_icmp_ne (tgt := 263) hx hb (by omega) (by omega) dL_law_210 (by decide) (fun h9 => absurd h9 (by decide)) (fun _ => ?_)
      refine lv_iload hx hb dL_law_213 (lv_at hl 4 rfl) ?_
      refine nv_if_le (tgt := 238) hx hb (by omega) dL_law_215 (by decide) (fun c_26 => ?_) (fun c_26 => ?_)
      · exfalso; omega
      · refine lv_iload hx hb dL_law_218 (lv_at hl 3 rfl) ?_
        refine nv_if_lt (tgt := 263) hx hb (by omega) dL_law_220 (by decide) ?_
        refine lv_aload_n hx hb dL_law_223 rfl (lv_at hl 14 rfl) ?_
        refine lv_iload hx hb dL_law_224 (lv_at hl 3 rfl) ?_
        refine lv_iload hx hb dL_law_226 (lv_at hl 7 rfl) ?_
        refine lv_iload hx hb dL_law_228 (lv_at hl 6 rfl) ?_
        refine va_calli (va_runV (As := [.int (nI t9), .int (nI kd), .int (bI tb_13)]) (rest := []) ⟨hx, hb, hml, hown, hts⟩ (n_gives l hst D cI cZ cO ad n np nq F t9 kd tb_13 hinj hJ (by omega) (by omega)) (cwV 3 hts gL_law_X0_gives rfl rfl rfl (by decide +kernel) ⟨Nat.le_trans (Nat.le_of_ble_eq_true rfl) hRf, Nat.le_trans (Nat.le_of_ble_eq_true rfl) hRl⟩) (prG_V hG hK (hE.1.at hS sub_id hAG) EnvG_c) rfl rfl hl.1 rfl (lv_room (Nat.le_of_ble_eq_true rfl)) dL_law_230 ⟨by omega, by omega⟩) hS (fun q _ h => hAG q h) (fun q h => hAG q h) (fun r_28 _ t H1 locs ht hvm hw hB hz hk hS => ?_)
        rw [ht] at hB
        have h_z := h_z.kept (hk _ h_z.lt (nin hadz (by omega)))
        have hG := hB
        obtain rfl := hw
        refine lv_iload hx hb dL_law_233 (lv_at hl 4 rfl) ?_
        refine nv_icmp_lt (tgt := 263) hx hb (by omega) (by omega) dL_law_235 (by decide) (fun c_29 => ?_) (fun c_29 => ?_)
        · exfalso; omega
        · refine lv_iload hx hb dL_law_238 (lv_at hl 4 rfl) ?_
          refine lv_aload_n hx hb dL_law_240 rfl (lv_at hl 16 rfl) ?_
          refine lv_iload hx hb dL_law_241 (lv_at hl 7 rfl) ?_
          refine w_iald hx hb hK 0 h_z rfl (by omega) (by omega) dL_law_243 ?_
          rw [hsz kd (by omega)]
          refine nv_imul hx hb dL_law_244 ?_
          refine lv_aload_n hx hb dL_law_245 rfl (lv_at hl 14 rfl) ?_
          refine lv_iload hx hb dL_law_246 (lv_at hl 8 rfl) ?_
          refine lv_iconst (v := nI 1) hx hb dL_law_248 (by decide) ?_
          refine va_calli (va_runV (As := [.int (nI sk), .int (nI 1)]) (rest := [.int (nI ((gvT F kd tb_13 sk) * (kz kd)))]) ⟨hx, hb, hml, hown, hts⟩ (n_skin l hst D cI cZ cO ad n np nq F sk 1 hJ (by omega) (by omega)) (cwV 2 hts gL_law_X0_skin rfl rfl rfl (by decide +kernel) ⟨Nat.le_trans (Nat.le_of_ble_eq_true rfl) hRf, Nat.le_trans (Nat.le_of_ble_eq_true rfl) hRl⟩) (prG_V hG hK (hE.1.at hS sub_id sub_no) EnvG_c) rfl rfl hl.1 rfl (lv_room (Nat.le_of_ble_eq_true rfl)) dL_law_249 ⟨by omega, by omega⟩) hS (fun _ _ h => h.elim) (fun _ h => h.elim) (fun r_30 _ t H1 locs ht hvm hw hB hz hk hS => ?_)
          have hG := hG.kept hk
          have h_z := h_z.kept (hk _ h_z.lt id)
          obtain rfl := hw
          rw [sk_1 F sk]
          refine lv_aload_n hx hb dL_law_252 rfl (lv_at hl 14 rfl) ?_
          refine lv_iload hx hb dL_law_253 (lv_at hl 8 rfl) ?_
          refine lv_iconst (v := nI 2) hx hb dL_law_255 (by decide) ?_
          refine va_calli (va_runV (As := [.int (nI sk), .int (nI 2)]) (rest := [.int (nI (cv (F (14 + sk)) (nI 0))), .int (nI ((gvT F kd tb_13 sk) * (kz kd)))]) ⟨hx, hb, hml, hown, hts⟩ (n_skin l hst D cI cZ cO ad n np nq F sk 2 hJ (by omega) (by omega)) (cwV 2 hts gL_law_X0_skin rfl rfl rfl (by decide +kernel) ⟨Nat.le_trans (Nat.le_of_ble_eq_true rfl) hRf, Nat.le_trans (Nat.le_of_ble_eq_true rfl) hRl⟩) (prG_V hG hK (hE.1.at hS sub_id sub_no) EnvG_c) rfl rfl hl.1 rfl (lv_room (Nat.le_of_ble_eq_true rfl)) dL_law_256 ⟨by omega, by omega⟩) hS (fun _ _ h => h.elim) (fun _ h => h.elim) (fun r_31 _ t H1 locs ht hvm hw hB hz hk hS => ?_)
          have hG := hG.kept hk
          have h_z := h_z.kept (hk _ h_z.lt id)
          obtain rfl := hw
          rw [sk_2 F sk]
          refine nv_iadd hx hb dL_law_259 ?_
          refine nv_icmp_le (tgt := 265) hx hb (by omega) (by omega) dL_law_260 (by decide) (fun c_32 => ?_) (fun c_32 => ?_)
          · exact kk265 v_2 sk kd co tb_13 (nI a9) _ _ _ _ _ (by omega) (by omega) (by omega) (by omega) (by omega) (Or.inl ⟨a9, ha9, rfl, ea9, hf9, hg9⟩) hG h_z hS (lv_sub hl [13, 14, 15, 16, 17, 12, 11, 10, 9, 8, 7, 6, 5, 4, 2, 1, 0] rfl)
          · exfalso; omega
  · have hg9 : gvT F kd tb_13 sk = 0 := hg9
    rw [ea9] at hl
    refine lv_iload hx hb dL_law_190 (lv_at hl 4 rfl) ?_
    refine nv_if_le (tgt := 199) hx hb (by omega) dL_law_192 (by decide) (fun c_33 => ?_) (fun c_33 => ?_)
    · refine lv_iconst (v := nI 0) hx hb dL_law_199 (by decide) ?_
      refine lv_iload hx hb dL_law_200 (lv_at hl 2 rfl) ?_
      refine lv_if_lt (tgt := 209) hx hb dL_law_202 (by decide) (fun c_34 => ?_) (fun c_34 => ?_)
      · refine lv_iconst (v := nI 0) hx hb dL_law_209 (by decide) ?_
        refine nv_icmp_ne (tgt := 263) hx hb (by omega) (by omega) dL_law_210 (by decide) (fun h9 => absurd h9 (by decide)) (fun _ => ?_)
        refine lv_iload hx hb dL_law_213 (lv_at hl 4 rfl) ?_
        refine nv_if_le (tgt := 238) hx hb (by omega) dL_law_215 (by decide) (fun c_36 => ?_) (fun c_36 => ?_)
        · refine lv_iload hx hb dL_law_238 (lv_at hl 4 rfl) ?_
          refine lv_aload_n hx hb dL_law_240 rfl (lv_at hl 16 rfl) ?_
          refine lv_iload hx hb dL_law_241 (lv_at hl 7 rfl) ?_
          refine w_iald hx hb hK 0 h_z rfl (by omega) (by omega) dL_law_243 ?_
          rw [hsz kd (by omega)]
          refine nv_imul hx hb dL_law_244 ?_
          refine lv_aload_n hx hb dL_law_245 rfl (lv_at hl 14 rfl) ?_
          refine lv_iload hx hb dL_law_246 (lv_at hl 8 rfl) ?_
          refine lv_iconst (v := nI 1) hx hb dL_law_248 (by decide) ?_
          refine va_calli (va_runV (As := [.int (nI sk), .int (nI 1)]) (rest := [.int (nI ((gvT F kd tb_13 sk) * (kz kd)))]) ⟨hx, hb, hml, hown, hts⟩ (n_skin l hst D cI cZ cO ad n np nq F sk 1 hJ (by omega) (by omega)) (cwV 2 hts gL_law_X0_skin rfl rfl rfl (by decide +kernel) ⟨Nat.le_trans (Nat.le_of_ble_eq_true rfl) hRf, Nat.le_trans (Nat.le_of_ble_eq_true rfl) hRl⟩) (prG_V hG hK (hE.1.at hS sub_id sub_no) EnvG_c) rfl rfl hl.1 rfl (lv_room (Nat.le_of_ble_eq_true rfl)) dL_law_249 ⟨by omega, by omega⟩) hS (fun _ _ h => h.elim) (fun _ h => h.elim) (fun r_37 _ t H1 locs ht hvm hw hB hz hk hS => ?_)
          have hG := hG.kept hk
          have h_z := h_z.kept (hk _ h_z.lt id)
          obtain rfl := hw
          rw [sk_1 F sk]
          refine lv_aload_n hx hb dL_law_252 rfl (lv_at hl 14 rfl) ?_
          refine lv_iload hx hb dL_law_253 (lv_at hl 8 rfl) ?_
          refine lv_iconst (v := nI 2) hx hb dL_law_255 (by decide) ?_
          refine va_calli (va_runV (As := [.int (nI sk), .int (nI 2)]) (rest := [.int (nI (cv (F (14 + sk)) (nI 0))), .int (nI ((gvT F kd tb_13 sk) * (kz kd)))]) ⟨hx, hb, hml, hown, hts⟩ (n_skin l hst D cI cZ cO ad n np nq F sk 2 hJ (by omega) (by omega)) (cwV 2 hts gL_law_X0_skin rfl rfl rfl (by decide +kernel) ⟨Nat.le_trans (Nat.le_of_ble_eq_true rfl) hRf, Nat.le_trans (Nat.le_of_ble_eq_true rfl) hRl⟩) (prG_V hG hK (hE.1.at hS sub_id sub_no) EnvG_c) rfl rfl hl.1 rfl (lv_room (Nat.le_of_ble_eq_true rfl)) dL_law_256 ⟨by omega, by omega⟩) hS (fun _ _ h => h.elim) (fun _ h => h.elim) (fun r_38 _ t H1 locs ht hvm hw hB hz hk hS => ?_)
          have hG := hG.kept hk
          have h_z := h_z.kept (hk _ h_z.lt id)
          obtain rfl := hw
          rw [sk_2 F sk]
          refine nv_iadd hx hb dL_law_259 ?_
          refine nv_icmp_le (tgt := 265) hx hb (by omega) (by omega) dL_law_260 (by decide) (fun c_39 => ?_) (fun c_39 => ?_)
          · exact kk265 v_2 sk kd co tb_13 (-1) _ _ _ _ _ (by omega) (by omega) (by omega) (by omega) (by omega) (Or.inr ⟨rfl, hg9⟩) hG h_z hS (lv_sub hl [13, 14, 15, 16, 17, 12, 11, 10, 9, 8, 7, 6, 5, 4, 2, 1, 0] rfl)
          · exfalso; omega
        · exfalso; omega
      · exact absurd (by decide) c_34
    · exfalso; omega
