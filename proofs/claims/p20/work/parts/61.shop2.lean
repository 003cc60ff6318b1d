set_option maxHeartbeats 4000000 in
set_option maxRecDepth 100000 in
/-- a piece is chosen -/
theorem hs_2 {p : Program} {l : Launch} {e : Env} {R : Room} {s : State} {m : MethodId} {args : Array Value} {below : List Frame} {meth : Method} {c : Code} {Q : State → Prop} {D : va_G} {cI cZ cO : ClassId} {ad : Nat → Nat} {b L : Nat} {xs : Nat → Int32} (hst : l.stackTraces = false) (hCx : LC cL_shop 11 wsL_shop p s m c args R D cI cZ cO b L xs) (hAD : inj ad 23 ∧ ∀ i, i ≤ 23 → s.heap.size ≤ ad i) (n co np nq : Nat) (F : Nat → Nat → Int32) (cu k9 : Nat) (hn1 : 1 ≤ n) (h2 : 1 ≤ co) (h3 : co ≤ 3) (hk : k9 < 130) (hJ : J n np nq F) (cc ss : Nat) (H1 : Heap) (locs : List Loc) (ls : Array Slot) (hRc : cc + 2 ≤ R.cells) (hRs : ss + 12 ≤ R.slots) (hG : GW D cI cZ cO ad n np nq F H1)  (hS : va_S (LA s) s.heap H1 locs) (hl : lv_has ls 11 [(0, .ref b), (1, .ref (ad 0)), (2, .int (nI n)), (3, .int (nI co)), (4, .int (nI cu)), (5, .int (nI k9))]) (kk351 : ∀ (v : Int32) (sk : Nat) (kd : Nat) (tb : Bool) (pl : Int32) (cc' ss' : Nat) (H1 : Heap) (locs : List Loc) (ls : Array Slot), cc' ≤ cc + 2 → ss' ≤ ss + 12 → (sk < n) → (kd < 4) → ((∃ a, a < 96 ∧ pl = nI a) ∨ pl = -1) → GW D cI cZ cO ad n np nq F H1 → va_S (LA s) s.heap H1 locs → lv_has ls 11 [(0, .ref b), (1, .ref (ad 0)), (2, .int (nI n)), (3, .int (nI co)), (4, .int (nI cu)), (5, .int (nI k9)), (6, .int v), (7, .int (nI sk)), (8, .int (nI kd)), (9, .int (bI tb))] → W p l e R s m args below meth c H1 locs cc' ss' Q (F0 m 351 ls [.int pl])) : W p l e R s m args below meth c H1 locs cc ss Q (F0 m 217 ls []) := by
  obtain ⟨hx, hb, hml, hown, hts, hK, hX, hbl, hL, hAO, hE, hRf, hRl⟩ := id hCx
  obtain ⟨hinj, hLA⟩ := id hAD
  have hbA : ¬ LA s b := Nat.not_le.mpr hbl
  have hAG : ∀ q, inA ad 23 q → LA s q := fun q ⟨i, hi, e⟩ => e ▸ hLA i hi
  obtain ⟨hn9, hnp9, hnq9, hsk9, hrip9, -⟩ := id hJ.inv
  refine lv_aload_n hx hb dL_shop_217 rfl (lv_at hl 0 rfl) ?_
  refine lv_bipush (v := nI 8) hx hb dL_shop_218 (by decide) ?_
  refine lv_iload hx hb dL_shop_220 (lv_at hl 5 rfl) ?_
  refine lv_bipush (v := nI 7) hx hb dL_shop_222 (by decide) ?_
  refine nv_irem hx hb (by omega) (by omega) (by omega) dL_shop_224 ?_
  refine nv_iadd hx hb dL_shop_225 ?_
  refine va_calli (va_runS (As := [.ref b, .int (nI (8 + (k9 % 7)))]) (rest := []) ⟨hx, hb, hml, hown, hts⟩ (c_L_cell l D b L xs (8 + (k9 % 7)) (by omega) hL) (va_cwS 2 hts gL_shop_L_cell rfl rfl rfl (by decide +kernel) ⟨Nat.le_trans (Nat.le_of_ble_eq_true rfl) hRf, Nat.le_trans (Nat.le_of_ble_eq_true rfl) hRl⟩) (pr_S P_nil hK [] rfl (VX.at hX hbl hS hbA) VX_c) rfl rfl hl.1 rfl (lv_room (Nat.le_of_ble_eq_true rfl)) dL_shop_226 ⟨by omega, by omega⟩) hS (fun _ _ h => h.elim) (fun _ h => h.elim) (fun r_1 _ t H1 locs ht hvm hw hB hz hk hS => ?_)
  have hG := hG.kept hk
  refine lv_iload hx hb dL_shop_229 (lv_at hl 5 rfl) ?_
  refine lv_bipush (v := nI 7) hx hb dL_shop_231 (by decide) ?_
  refine nv_idiv hx hb (by omega) (by omega) (by omega) dL_shop_233 ?_
  refine lv_bipush (v := nI 11) hx hb dL_shop_234 (by decide) ?_
  refine nv_irem hx hb (by omega) (by omega) (by omega) dL_shop_236 ?_
  refine lv_ishr hx hb dL_shop_237 ?_
  refine lv_topi (fun v_2 ev_2 => ?_)
  refine lv_bipush (v := nI 29) hx hb dL_shop_238 (by decide) ?_
  refine lv_iload hx hb dL_shop_240 (lv_at hl 5 rfl) ?_
  refine nv_imul hx hb dL_shop_242 ?_
  refine lv_iadd hx hb dL_shop_243 ?_
  refine lv_topi (fun v_3 ev_3 => ?_)
  refine lv_istore (lv' := [(6, .int v_3), (0, .ref b), (1, .ref (ad 0)), (2, .int (nI n)), (3, .int (nI co)), (4, .int (nI cu)), (5, .int (nI k9))]) hx hb dL_shop_244 hl (by decide) rfl (fun ls hl => ?_)
  refine lv_iload hx hb dL_shop_246 (lv_at hl 0 rfl) ?_
  refine lv_iload_n hx hb dL_shop_248 rfl (lv_at hl 3 rfl) ?_
  refine va_calli (va_runS (As := [.int v_3, .int (nI n)]) (rest := []) ⟨hx, hb, hml, hown, hts⟩ (c_L_below l D v_3 n (by omega) (by omega)) (va_cwS 2 hts gL_shop_L_below rfl rfl rfl (by decide +kernel) ⟨Nat.le_trans (Nat.le_of_ble_eq_true rfl) hRf, Nat.le_trans (Nat.le_of_ble_eq_true rfl) hRl⟩) (pr_S P_nil hK [] rfl V0_at V0_c) rfl rfl hl.1 rfl (lv_room (Nat.le_of_ble_eq_true rfl)) dL_shop_249 ⟨by omega, by omega⟩) hS (fun _ _ h => h.elim) (fun _ h => h.elim) (fun r_4 _ t H1 locs ht hvm hw hB hz hk hS => ?_)
  obtain ⟨sk, hsk, rfl⟩ := hw
  have hG := hG.kept hk
  refine lv_istore (lv' := [(7, .int (nI sk)), (6, .int v_3), (0, .ref b), (1, .ref (ad 0)), (2, .int (nI n)), (3, .int (nI co)), (4, .int (nI cu)), (5, .int (nI k9))]) hx hb dL_shop_252 hl (by decide) rfl (fun ls hl => ?_)
  refine lv_iload hx hb dL_shop_254 (lv_at hl 1 rfl) ?_
  refine lv_iconst (v := nI 3) hx hb dL_shop_256 (by decide) ?_
  refine lv_ishr hx hb dL_shop_257 ?_
  refine lv_topi (fun v_5 ev_5 => ?_)
  refine lv_bipush (v := nI 9) hx hb dL_shop_258 (by decide) ?_
  refine va_calli (va_runS (As := [.int v_5, .int (nI 9)]) (rest := []) ⟨hx, hb, hml, hown, hts⟩ (c_L_below l D v_5 9 (by omega) (by omega)) (va_cwS 2 hts gL_shop_L_below rfl rfl rfl (by decide +kernel) ⟨Nat.le_trans (Nat.le_of_ble_eq_true rfl) hRf, Nat.le_trans (Nat.le_of_ble_eq_true rfl) hRl⟩) (pr_S P_nil hK [] rfl V0_at V0_c) rfl rfl hl.1 rfl (lv_room (Nat.le_of_ble_eq_true rfl)) dL_shop_260 ⟨by omega, by omega⟩) hS (fun _ _ h => h.elim) (fun _ h => h.elim) (fun r_6 _ t H1 locs ht hvm hw hB hz hk hS => ?_)
  obtain ⟨k8, hk8, rfl⟩ := hw
  have hG := hG.kept hk
  refine lv_istore (lv' := [(8, .int (nI k8)), (7, .int (nI sk)), (6, .int v_3), (0, .ref b), (1, .ref (ad 0)), (2, .int (nI n)), (3, .int (nI co)), (4, .int (nI cu)), (5, .int (nI k9))]) hx hb dL_shop_263 hl (by decide) rfl (fun ls hl => ?_)
  have J297 : ∀ kd : Nat, kd < 4 → W p l e R s m args below meth c H1 locs (((cc + 0) + 0) + 0) (((ss + 0) + 0) + 0) Q (F0 m 297 ls [.int (nI kd)]) := by
    intro kd hkd
    refine lv_istore (lv' := [(8, .int (nI kd)), (7, .int (nI sk)), (6, .int v_3), (0, .ref b), (1, .ref (ad 0)), (2, .int (nI n)), (3, .int (nI co)), (4, .int (nI cu)), (5, .int (nI k9))]) hx hb dL_shop_297 hl (by decide) rfl (fun ls hl => ?_)
    refine lv_iload hx hb dL_shop_299 (lv_at hl 2 rfl) ?_
    refine lv_iconst (v := nI 5) hx hb dL_shop_301 (by decide) ?_
    refine lv_ishr hx hb dL_shop_302 ?_
    refine lv_topi (fun v_7 ev_7 => ?_)
    refine lv_iconst (v := nI 3) hx hb dL_shop_303 (by decide) ?_
    refine va_calli (va_runS (As := [.int v_7, .int (nI 3)]) (rest := []) ⟨hx, hb, hml, hown, hts⟩ (c_L_below l D v_7 3 (by omega) (by omega)) (va_cwS 2 hts gL_shop_L_below rfl rfl rfl (by decide +kernel) ⟨Nat.le_trans (Nat.le_of_ble_eq_true rfl) hRf, Nat.le_trans (Nat.le_of_ble_eq_true rfl) hRl⟩) (pr_S P_nil hK [] rfl V0_at V0_c) rfl rfl hl.1 rfl (lv_room (Nat.le_of_ble_eq_true rfl)) dL_shop_304 ⟨by omega, by omega⟩) hS (fun _ _ h => h.elim) (fun _ h => h.elim) (fun r_8 _ t H1 locs ht hvm hw hB hz hk hS => ?_)
    obtain ⟨j_9, hj_9, rfl⟩ := hw
    have hG := hG.kept hk
    refine wb_ne hx hb (by omega) dL_shop_307 dL_shop_310 dL_shop_311 dL_shop_314 ?_
    obtain ⟨tb_10, etb_10⟩ : ∃ z, z = decide (j_9 = 0) := ⟨_, rfl⟩
    rw [← etb_10]
    refine lv_istore (lv' := [(9, .int (bI tb_10)), (8, .int (nI kd)), (7, .int (nI sk)), (6, .int v_3), (0, .ref b), (1, .ref (ad 0)), (2, .int (nI n)), (3, .int (nI co)), (4, .int (nI cu)), (5, .int (nI k9))]) hx hb dL_shop_315 hl (by decide) rfl (fun ls hl => ?_)
    refine lv_iload hx hb dL_shop_317 (lv_at hl 3 rfl) ?_
    refine lv_bipush (v := nI 7) hx hb dL_shop_319 (by decide) ?_
    refine lv_ishr hx hb dL_shop_321 ?_
    refine lv_topi (fun v_11 ev_11 => ?_)
    refine lv_iconst (v := nI 4) hx hb dL_shop_322 (by decide) ?_
    refine va_calli (va_runS (As := [.int v_11, .int (nI 4)]) (rest := []) ⟨hx, hb, hml, hown, hts⟩ (c_L_below l D v_11 4 (by omega) (by omega)) (va_cwS 2 hts gL_shop_L_below rfl rfl rfl (by decide +kernel) ⟨Nat.le_trans (Nat.le_of_ble_eq_true rfl) hRf, Nat.le_trans (Nat.le_of_ble_eq_true rfl) hRl⟩) (pr_S P_nil hK [] rfl V0_at V0_c) rfl rfl hl.1 rfl (lv_room (Nat.le_of_ble_eq_true rfl)) dL_shop_323 ⟨by omega, by omega⟩) hS (fun _ _ h => h.elim) (fun _ h => h.elim) (fun r_12 _ t H1 locs ht hvm hw hB hz hk hS => ?_)
    obtain ⟨j_13, hj_13, rfl⟩ := hw
    have hG := hG.kept hk
    refine nv_if_ne (tgt := 341) hx hb (by omega) dL_shop_326 (by decide) (fun c_14 => ?_) (fun c_14 => ?_)
    · refine lv_aload_n hx hb dL_shop_341 rfl (lv_at hl 5 rfl) ?_
      refine lv_iload hx hb dL_shop_342 (lv_at hl 2 rfl) ?_
      refine lv_iload hx hb dL_shop_344 (lv_at hl 1 rfl) ?_
      refine lv_iload hx hb dL_shop_346 (lv_at hl 0 rfl) ?_
      refine va_calli (va_runV (As := [.int (nI sk), .int (nI kd), .int (bI tb_10)]) (rest := []) ⟨hx, hb, hml, hown, hts⟩ (n_place l hst D cI cZ cO ad n np nq F sk kd tb_10 hJ (by omega) (by omega)) (cwV 3 hts gL_shop_X0_place rfl rfl rfl (by decide +kernel) ⟨Nat.le_trans (Nat.le_of_ble_eq_true rfl) hRf, Nat.le_trans (Nat.le_of_ble_eq_true rfl) hRl⟩) (prG_V hG hK (hE.1.at hS sub_id sub_no) EnvG_c) rfl rfl hl.1 rfl (lv_room (Nat.le_of_ble_eq_true rfl)) dL_shop_348 ⟨by omega, by omega⟩) hS (fun _ _ h => h.elim) (fun _ h => h.elim) (fun r_15 _ t H1 locs ht hvm hw hB hz hk hS => ?_)
      have hG := hG.kept hk
      obtain rfl := hw
      exact kk351 v_3 sk kd tb_10 (fI (fitA (F (14 + sk)) kd tb_10) 0 (96 - 0)) _ _ _ _ _ (by omega) (by omega) (by omega) (by omega) (by rcases gv_iff (F (14 + sk)) kd tb_10 with ⟨a, h1, h2, -⟩ | ⟨h1, -⟩; exact Or.inl ⟨a, h1, h2⟩; exact Or.inr h1) hG  hS (lv_sub hl [4, 5, 6, 7, 8, 9, 3, 2, 1, 0] rfl)
    · refine lv_iload hx hb dL_shop_329 (lv_at hl 3 rfl) ?_
      refine lv_iconst (v := nI 2) hx hb dL_shop_331 (by decide) ?_
      refine lv_ishr hx hb dL_shop_332 ?_
      refine lv_topi (fun v_16 ev_16 => ?_)
      refine lv_bipush (v := nI 96) hx hb dL_shop_333 (by decide) ?_
      refine va_calli (va_runS (As := [.int v_16, .int (nI 96)]) (rest := []) ⟨hx, hb, hml, hown, hts⟩ (c_L_below l D v_16 96 (by omega) (by omega)) (va_cwS 2 hts gL_shop_L_below rfl rfl rfl (by decide +kernel) ⟨Nat.le_trans (Nat.le_of_ble_eq_true rfl) hRf, Nat.le_trans (Nat.le_of_ble_eq_true rfl) hRl⟩) (pr_S P_nil hK [] rfl V0_at V0_c) rfl rfl hl.1 rfl (lv_room (Nat.le_of_ble_eq_true rfl)) dL_shop_335 ⟨by omega, by omega⟩) hS (fun _ _ h => h.elim) (fun _ h => h.elim) (fun r_17 _ t H1 locs ht hvm hw hB hz hk hS => ?_)
      obtain ⟨j9, hj9, rfl⟩ := hw
      have hG := hG.kept hk
      refine lv_goto (tgt := 351) hx hb dL_shop_338 (by decide) ?_
      exact kk351 v_3 sk kd tb_10 (nI j9) _ _ _ _ _ (by omega) (by omega) (by omega) (by omega) (Or.inl ⟨j9, hj9, rfl⟩) hG  hS (lv_sub hl [4, 5, 6, 7, 8, 9, 3, 2, 1, 0] rfl)
  refine lv_iload hx hb dL_shop_265 (lv_at hl 0 rfl) ?_
  refine lv_iconst (v := nI 2) hx hb dL_shop_267 (by decide) ?_
  refine nv_icmp_ge (tgt := 275) hx hb (by omega) (by omega) dL_shop_268 (by decide) (fun c_18 => ?_) (fun c_18 => ?_)
  · refine lv_iload hx hb dL_shop_275 (lv_at hl 0 rfl) ?_
    refine lv_iconst (v := nI 4) hx hb dL_shop_277 (by decide) ?_
    refine nv_icmp_ge (tgt := 285) hx hb (by omega) (by omega) dL_shop_278 (by decide) (fun c_19 => ?_) (fun c_19 => ?_)
    · refine lv_iload hx hb dL_shop_285 (lv_at hl 0 rfl) ?_
      refine lv_bipush (v := nI 7) hx hb dL_shop_287 (by decide) ?_
      refine nv_icmp_ge (tgt := 296) hx hb (by omega) (by omega) dL_shop_289 (by decide) (fun c_20 => ?_) (fun c_20 => ?_)
      · refine lv_iconst (v := nI 3) hx hb dL_shop_296 (by decide) ?_
        exact J297 3 (by omega)
      · refine lv_iconst (v := nI 2) hx hb dL_shop_292 (by decide) ?_
        refine lv_goto (tgt := 297) hx hb dL_shop_293 (by decide) ?_
        exact J297 2 (by omega)
    · refine lv_iconst (v := nI 1) hx hb dL_shop_281 (by decide) ?_
      refine lv_goto (tgt := 297) hx hb dL_shop_282 (by decide) ?_
      exact J297 1 (by omega)
  · refine lv_iconst (v := nI 0) hx hb dL_shop_271 (by decide) ?_
    refine lv_goto (tgt := 297) hx hb dL_shop_272 (by decide) ?_
    exact J297 0 (by omega)
set_option maxHeartbeats 4000000 in
set_option maxRecDepth 100000 in
/-- it is cut, if it can be -/
theorem hs_3 {p : Program} {l : Launch} {e : Env} {R : Room} {s : State} {m : MethodId} {args : Array Value} {below : List Frame} {meth : Method} {c : Code} {Q : State → Prop} {D : va_G} {cI cZ cO : ClassId} {ad : Nat → Nat} {b L : Nat} {xs : Nat → Int32} (hst : l.stackTraces = false) (hCx : LC cL_shop 11 wsL_shop p s m c args R D cI cZ cO b L xs) (hAD : inj ad 23 ∧ ∀ i, i ≤ 23 → s.heap.size ≤ ad i) (n co np nq : Nat) (F : Nat → Nat → Int32) (cu k9 : Nat) (v : Int32) (sk kd : Nat) (tb : Bool) (pl : Int32) (hn1 : 1 ≤ n) (h2 : 1 ≤ co) (h3 : co ≤ 3) (hk : k9 < 130) (hsk : sk < n) (hkd : kd < 4) (hpl : (∃ a, a < 96 ∧ pl = nI a) ∨ pl = -1) (hJ : J n np nq F) (cc ss : Nat) (H1 : Heap) (locs : List Loc) (ls : Array Slot) (hRc : cc + 5 ≤ R.cells) (hRs : ss + 30 ≤ R.slots) (hG : GW D cI cZ cO ad n np nq F H1)  (hS : va_S (LA s) s.heap H1 locs) (hl : lv_has ls 11 [(0, .ref b), (1, .ref (ad 0)), (2, .int (nI n)), (3, .int (nI co)), (4, .int (nI cu)), (5, .int (nI k9)), (6, .int v), (7, .int (nI sk)), (8, .int (nI kd)), (9, .int (bI tb))]) (kk371 : ∀ (np2 : Nat) (nq2 : Nat) (F2 : Nat → Nat → Int32) (cc' ss' : Nat) (H1 : Heap) (locs : List Loc) (ls : Array Slot), cc' ≤ cc + 5 → ss' ≤ ss + 30 → J n np2 nq2 F2 → GW D cI cZ cO ad n np2 nq2 F2 H1 → va_S (LA s) s.heap H1 locs → lv_has ls 11 [(0, .ref b), (1, .ref (ad 0)), (2, .int (nI n)), (3, .int (nI co)), (4, .int (nI cu)), (5, .int (nI k9)), (6, .int v)] → W p l e R s m args below meth c H1 locs cc' ss' Q (F0 m 371 ls [])) : W p l e R s m args below meth c H1 locs cc ss Q (F0 m 351 ls [.int pl]) := by
  obtain ⟨hx, hb, hml, hown, hts, hK, hX, hbl, hL, hAO, hE, hRf, hRl⟩ := id hCx
  obtain ⟨hinj, hLA⟩ := id hAD
  have hbA : ¬ LA s b := Nat.not_le.mpr hbl
  have hAG : ∀ q, inA ad 23 q → LA s q := fun q ⟨i, hi, e⟩ => e ▸ hLA i hi
  obtain ⟨hn9, hnp9, hnq9, hsk9, hrip9, -⟩ := id hJ.inv
  rcases hpl with ⟨a9, ha9, rfl⟩ | rfl
  · refine lv_istore (lv' := [(10, .int (nI a9)), (0, .ref b), (1, .ref (ad 0)), (2, .int (nI n)), (3, .int (nI co)), (4, .int (nI cu)), (5, .int (nI k9)), (6, .int v), (7, .int (nI sk)), (8, .int (nI kd)), (9, .int (bI tb))]) hx hb dL_shop_351 hl (by decide) rfl (fun ls hl => ?_)
    refine lv_iload hx hb dL_shop_353 (lv_at hl 0 rfl) ?_
    refine nv_if_lt (tgt := 371) hx hb (by omega) dL_shop_355 (by decide) ?_
    refine lv_aload_n hx hb dL_shop_358 rfl (lv_at hl 2 rfl) ?_
    refine lv_iload hx hb dL_shop_359 (lv_at hl 8 rfl) ?_
    refine lv_iload hx hb dL_shop_361 (lv_at hl 9 rfl) ?_
    refine lv_iload hx hb dL_shop_363 (lv_at hl 10 rfl) ?_
    refine lv_iload hx hb dL_shop_365 (lv_at hl 0 rfl) ?_
    refine va_calli (vx_runSW (As := [.ref (ad 0), .int (nI sk), .int (nI kd), .int (bI tb), .int (nI a9)]) (rest := []) ⟨hx, hb, hml, hown, hts⟩ (c_L_cut l hst D cI cZ cO ad n np nq F sk kd tb a9 hinj hJ (by omega) (by omega) (by omega)) (vx_cwSW 5 hts gL_shop_L_cut rfl rfl rfl (by decide +kernel) ⟨Nat.le_trans (Nat.le_of_ble_eq_true rfl) hRf, Nat.le_trans (Nat.le_of_ble_eq_true rfl) hRl⟩) (prG_S hG hK (hE.at hS sub_id hAG) EnvL_c) rfl rfl hl.1 rfl (lv_room (Nat.le_of_ble_eq_true rfl)) dL_shop_367 ⟨by omega, by omega⟩) hS (fun q _ h => hAG q h) (fun q h => hAG q h) (fun r_2 _ t H1 locs ht hvm hw hB hz hk hS => ?_)
    rw [ht] at hB
    rcases hB with ⟨hok, u9, hG⟩ | ⟨hok, hG⟩
    · unfold okCut at hok
      simp only [Bool.and_eq_true, decide_eq_true_eq] at hok
      have hJ := J_cut (J_T hJ u9) (show sk < n by omega) hkd ha9 (by rw [e13 F u9 _ (by omega)]; exact hok.1) hok.2
      obtain ⟨F2, eF2⟩ : ∃ z, z = cutF (va_up F 13 u9) np sk kd tb a9 := ⟨_, rfl⟩
      rw [← eF2] at hG hJ
      refine lv_pop hx hb dL_shop_370 rfl ?_
      exact kk371 (np + 1) nq F2 _ _ _ _ _ (by omega) (by omega)  hJ hG  hS (lv_sub hl [1, 2, 3, 4, 5, 6, 7] rfl)
    · refine lv_pop hx hb dL_shop_370 rfl ?_
      exact kk371 np nq F _ _ _ _ _ (by omega) (by omega)  hJ hG  hS (lv_sub hl [1, 2, 3, 4, 5, 6, 7] rfl)
  · refine lv_istore (lv' := [(10, .int (-1)), (0, .ref b), (1, .ref (ad 0)), (2, .int (nI n)), (3, .int (nI co)), (4, .int (nI cu)), (5, .int (nI k9)), (6, .int v), (7, .int (nI sk)), (8, .int (nI kd)), (9, .int (bI tb))]) hx hb dL_shop_351 hl (by decide) rfl (fun ls hl => ?_)
    refine lv_iload hx hb dL_shop_353 (lv_at hl 0 rfl) ?_
    refine lv_if_lt (tgt := 371) hx hb dL_shop_355 (by decide) (fun c_3 => ?_) (fun c_3 => ?_)
    · exact kk371 np nq F _ _ _ _ _ (by omega) (by omega)  hJ hG  hS (lv_sub hl [1, 2, 3, 4, 5, 6, 7] rfl)
    · exact absurd (by decide) c_3
set_option maxHeartbeats 4000000 in
set_option maxRecDepth 100000 in
/-- now and then a pair is sewn -/
theorem hs_4 {p : Program} {l : Launch} {e : Env} {R : Room} {s : State} {m : MethodId} {args : Array Value} {below : List Frame} {meth : Method} {c : Code} {Q : State → Prop} {D : va_G} {cI cZ cO : ClassId} {ad : Nat → Nat} {b L : Nat} {xs : Nat → Int32} (hst : l.stackTraces = false) (hCx : LC cL_shop 11 wsL_shop p s m c args R D cI cZ cO b L xs) (hAD : inj ad 23 ∧ ∀ i, i ≤ 23 → s.heap.size ≤ ad i) (n co np nq : Nat) (F : Nat → Nat → Int32) (cu k9 : Nat) (v : Int32) (hn1 : 1 ≤ n) (h2 : 1 ≤ co) (h3 : co ≤ 3) (hk : k9 < 130) (hJ : J n np nq F) (cc ss : Nat) (H1 : Heap) (locs : List Loc) (ls : Array Slot) (hRc : cc + 3 ≤ R.cells) (hRs : ss + 18 ≤ R.slots) (hG : GW D cI cZ cO ad n np nq F H1)  (hS : va_S (LA s) s.heap H1 locs) (hl : lv_has ls 11 [(0, .ref b), (1, .ref (ad 0)), (2, .int (nI n)), (3, .int (nI co)), (4, .int (nI cu)), (5, .int (nI k9)), (6, .int v)]) (kk397 : ∀ (np2 : Nat) (nq2 : Nat) (F2 : Nat → Nat → Int32) (cc' ss' : Nat) (H1 : Heap) (locs : List Loc) (ls : Array Slot), cc' ≤ cc + 3 → ss' ≤ ss + 18 → J n np2 nq2 F2 → GW D cI cZ cO ad n np2 nq2 F2 H1 → va_S (LA s) s.heap H1 locs → lv_has ls 11 [(0, .ref b), (1, .ref (ad 0)), (2, .int (nI n)), (3, .int (nI co)), (4, .int (nI cu)), (5, .int (nI k9)), (6, .int v)] → W p l e R s m args below meth c H1 locs cc' ss' Q (F0 m 397 ls [])) : W p l e R s m args below meth c H1 locs cc ss Q (F0 m 371 ls []) := by
  obtain ⟨hx, hb, hml, hown, hts, hK, hX, hbl, hL, hAO, hE, hRf, hRl⟩ := id hCx
  obtain ⟨hinj, hLA⟩ := id hAD
  have hbA : ¬ LA s b := Nat.not_le.mpr hbl
  have hAG : ∀ q, inA ad 23 q → LA s q := fun q ⟨i, hi, e⟩ => e ▸ hLA i hi
  obtain ⟨hn9, hnp9, hnq9, hsk9, hrip9, -⟩ := id hJ.inv
  refine lv_iload hx hb dL_shop_371 (lv_at hl 6 rfl) ?_
  refine lv_bipush (v := nI 6) hx hb dL_shop_373 (by decide) ?_
  refine lv_ishr hx hb dL_shop_375 ?_
  refine lv_topi (fun v_1 ev_1 => ?_)
  refine lv_bipush (v := nI 12) hx hb dL_shop_376 (by decide) ?_
  refine va_calli (va_runS (As := [.int v_1, .int (nI 12)]) (rest := []) ⟨hx, hb, hml, hown, hts⟩ (c_L_below l D v_1 12 (by omega) (by omega)) (va_cwS 2 hts gL_shop_L_below rfl rfl rfl (by decide +kernel) ⟨Nat.le_trans (Nat.le_of_ble_eq_true rfl) hRf, Nat.le_trans (Nat.le_of_ble_eq_true rfl) hRl⟩) (pr_S P_nil hK [] rfl V0_at V0_c) rfl rfl hl.1 rfl (lv_room (Nat.le_of_ble_eq_true rfl)) dL_shop_378 ⟨by omega, by omega⟩) hS (fun _ _ h => h.elim) (fun _ h => h.elim) (fun r_2 _ t H1 locs ht hvm hw hB hz hk hS => ?_)
  obtain ⟨j_3, hj_3, rfl⟩ := hw
  have hG := hG.kept hk
  refine nv_if_ne (tgt := 397) hx hb (by omega) dL_shop_381 (by decide) (fun c_4 => ?_) (fun c_4 => ?_)
  · exact kk397 np nq F _ _ _ _ _ (by omega) (by omega)  hJ hG  hS (lv_sub hl [0, 1, 2, 3, 4, 5, 6] rfl)
  · refine lv_aload_n hx hb dL_shop_384 rfl (lv_at hl 1 rfl) ?_
    refine lv_iload hx hb dL_shop_385 (lv_at hl 6 rfl) ?_
    refine lv_iconst (v := nI 1) hx hb dL_shop_387 (by decide) ?_
    refine lv_ishr hx hb dL_shop_388 ?_
    refine lv_topi (fun v_5 ev_5 => ?_)
    refine lv_iload_n hx hb dL_shop_389 rfl (lv_at hl 3 rfl) ?_
    refine va_calli (va_runS (As := [.int v_5, .int (nI co)]) (rest := [.ref (ad 0)]) ⟨hx, hb, hml, hown, hts⟩ (c_L_below l D v_5 co (by omega) (by omega)) (va_cwS 2 hts gL_shop_L_below rfl rfl rfl (by decide +kernel) ⟨Nat.le_trans (Nat.le_of_ble_eq_true rfl) hRf, Nat.le_trans (Nat.le_of_ble_eq_true rfl) hRl⟩) (pr_S P_nil hK [] rfl V0_at V0_c) rfl rfl hl.1 rfl (lv_room (Nat.le_of_ble_eq_true rfl)) dL_shop_390 ⟨by omega, by omega⟩) hS (fun _ _ h => h.elim) (fun _ h => h.elim) (fun r_6 _ t H1 locs ht hvm hw hB hz hk hS => ?_)
    obtain ⟨j_7, hj_7, rfl⟩ := hw
    have hG := hG.kept hk
    refine va_calli (vx_runSW (As := [.ref (ad 0), .int (nI j_7)]) (rest := []) ⟨hx, hb, hml, hown, hts⟩ (c_L_sew l hst D cI cZ cO ad n np nq F j_7 hinj hJ (by omega)) (vx_cwSW 2 hts gL_shop_L_sew rfl rfl rfl (by decide +kernel) ⟨Nat.le_trans (Nat.le_of_ble_eq_true rfl) hRf, Nat.le_trans (Nat.le_of_ble_eq_true rfl) hRl⟩) (prG_S hG hK (hE.at hS sub_id hAG) EnvL_c) rfl rfl hl.1 rfl (lv_room (Nat.le_of_ble_eq_true rfl)) dL_shop_393 ⟨by omega, by omega⟩) hS (fun q _ h => hAG q h) (fun q h => hAG q h) (fun r_8 _ t H1 locs ht hvm hw hB hz hk hS => ?_)
    rw [ht] at hB
    rcases hB with ⟨hok, u9, hG⟩ | ⟨hok, hG⟩
    · unfold okSew at hok
      simp only [Bool.and_eq_true, decide_eq_true_eq] at hok
      have hJ := J_sew (J_T hJ u9) (show j_7 < 6 by omega) (by rw [canS_T]; exact hok.1) hok.2
      obtain ⟨F2, eF2⟩ : ∃ z, z = swF (va_up F 13 u9) n np nq (nI j_7) := ⟨_, rfl⟩
      rw [← eF2] at hG hJ
      refine lv_pop hx hb dL_shop_396 rfl ?_
      exact kk397 np (nq + 1) F2 _ _ _ _ _ (by omega) (by omega)  hJ hG  hS (lv_sub hl [0, 1, 2, 3, 4, 5, 6] rfl)
    · refine lv_pop hx hb dL_shop_396 rfl ?_
      exact kk397 np nq F _ _ _ _ _ (by omega) (by omega)  hJ hG  hS (lv_sub hl [0, 1, 2, 3, 4, 5, 6] rfl)
set_option maxHeartbeats 4000000 in
set_option maxRecDepth 100000 in
/-- now and then one is ripped up -/
theorem hs_5 {p : Program} {l : Launch} {e : Env} {R : Room} {s : State} {m : MethodId} {args : Array Value} {below : List Frame} {meth : Method} {c : Code} {Q : State → Prop} {D : va_G} {cI cZ cO : ClassId} {ad : Nat → Nat} {b L : Nat} {xs : Nat → Int32} (hst : l.stackTraces = false) (hCx : LC cL_shop 11 wsL_shop p s m c args R D cI cZ cO b L xs) (hAD : inj ad 23 ∧ ∀ i, i ≤ 23 → s.heap.size ≤ ad i) (n co np nq : Nat) (F : Nat → Nat → Int32) (cu k9 : Nat) (v : Int32) (hn1 : 1 ≤ n) (h2 : 1 ≤ co) (h3 : co ≤ 3) (hk : k9 < 130) (hJ : J n np nq F) (cc ss : Nat) (H1 : Heap) (locs : List Loc) (ls : Array Slot) (hRc : cc + 3 ≤ R.cells) (hRs : ss + 18 ≤ R.slots) (hG : GW D cI cZ cO ad n np nq F H1)  (hS : va_S (LA s) s.heap H1 locs) (hl : lv_has ls 11 [(0, .ref b), (1, .ref (ad 0)), (2, .int (nI n)), (3, .int (nI co)), (4, .int (nI cu)), (5, .int (nI k9)), (6, .int v)]) (kk430 : ∀ (np2 : Nat) (nq2 : Nat) (F2 : Nat → Nat → Int32) (cc' ss' : Nat) (H1 : Heap) (locs : List Loc) (ls : Array Slot), cc' ≤ cc + 3 → ss' ≤ ss + 18 → J n np2 nq2 F2 → GW D cI cZ cO ad n np2 nq2 F2 H1 → va_S (LA s) s.heap H1 locs → lv_has ls 11 [(0, .ref b), (1, .ref (ad 0)), (2, .int (nI n)), (3, .int (nI co)), (4, .int (nI cu)), (5, .int (nI k9))] → W p l e R s m args below meth c H1 locs cc' ss' Q (F0 m 430 ls [])) : W p l e R s m args below meth c H1 locs cc ss Q (F0 m 397 ls []) := by
  obtain ⟨hx, hb, hml, hown, hts, hK, hX, hbl, hL, hAO, hE, hRf, hRl⟩ := id hCx
  obtain ⟨hinj, hLA⟩ := id hAD
  have hbA : ¬ LA s b := Nat.not_le.mpr hbl
  have hAG : ∀ q, inA ad 23 q → LA s q := fun q ⟨i, hi, e⟩ => e ▸ hLA i hi
  obtain ⟨hn9, hnp9, hnq9, hsk9, hrip9, -⟩ := id hJ.inv
  refine lv_iload hx hb dL_shop_397 (lv_at hl 6 rfl) ?_
  refine lv_iconst (v := nI 4) hx hb dL_shop_399 (by decide) ?_
  refine lv_ishr hx hb dL_shop_400 ?_
  refine lv_topi (fun v_1 ev_1 => ?_)
  refine lv_bipush (v := nI 30) hx hb dL_shop_401 (by decide) ?_
  refine va_calli (va_runS (As := [.int v_1, .int (nI 30)]) (rest := []) ⟨hx, hb, hml, hown, hts⟩ (c_L_below l D v_1 30 (by omega) (by omega)) (va_cwS 2 hts gL_shop_L_below rfl rfl rfl (by decide +kernel) ⟨Nat.le_trans (Nat.le_of_ble_eq_true rfl) hRf, Nat.le_trans (Nat.le_of_ble_eq_true rfl) hRl⟩) (pr_S P_nil hK [] rfl V0_at V0_c) rfl rfl hl.1 rfl (lv_room (Nat.le_of_ble_eq_true rfl)) dL_shop_403 ⟨by omega, by omega⟩) hS (fun _ _ h => h.elim) (fun _ h => h.elim) (fun r_2 _ t H1 locs ht hvm hw hB hz hk hS => ?_)
  obtain ⟨j_3, hj_3, rfl⟩ := hw
  have hG := hG.kept hk
  refine nv_if_ne (tgt := 430) hx hb (by omega) dL_shop_406 (by decide) (fun c_4 => ?_) (fun c_4 => ?_)
  · exact kk430 np nq F _ _ _ _ _ (by omega) (by omega)  hJ hG  hS (lv_sub hl [0, 1, 2, 3, 4, 5] rfl)
  · refine lv_aload_n hx hb dL_shop_409 rfl (lv_at hl 1 rfl) ?_
    refine lv_iload hx hb dL_shop_410 (lv_at hl 6 rfl) ?_
    refine lv_iconst (v := nI 2) hx hb dL_shop_412 (by decide) ?_
    refine lv_ishr hx hb dL_shop_413 ?_
    refine lv_topi (fun v_5 ev_5 => ?_)
    refine lv_iconst (v := nI 1) hx hb dL_shop_414 (by decide) ?_
    refine lv_aload_n hx hb dL_shop_415 rfl (lv_at hl 1 rfl) ?_
    refine lv_iconst (v := nI 5) hx hb dL_shop_416 (by decide) ?_
    refine va_calli (va_runV (As := [.int (nI 5)]) (rest := [.int (nI 1), .int v_5, .ref (ad 0)]) ⟨hx, hb, hml, hown, hts⟩ (n_count l hst D cI cZ cO ad n np nq F 5 hJ (by decide)) (cwV 1 hts gL_shop_X0_count rfl rfl rfl (by decide +kernel) ⟨Nat.le_trans (Nat.le_of_ble_eq_true rfl) hRf, Nat.le_trans (Nat.le_of_ble_eq_true rfl) hRl⟩) (prG_V hG hK (hE.1.at hS sub_id sub_no) EnvG_c) rfl rfl hl.1 rfl (lv_room (Nat.le_of_ble_eq_true rfl)) dL_shop_417 ⟨by omega, by omega⟩) hS (fun _ _ h => h.elim) (fun _ h => h.elim) (fun r_6 _ t H1 locs ht hvm hw hB hz hk hS => ?_)
    have hG := hG.kept hk
    obtain rfl : r_6 = nI nq := hw
    refine va_mmax (rest := [.int v_5, .ref (ad 0)]) hx hb (hml.trans hl.1.symm) hown (hts (.methodLink RL 50 Lib.Math.max.name) (by decide +kernel)) (hts (.static Lib.Math.max.name) (by decide +kernel)) (hts (.initialized "java/lang/Math") (by decide +kernel)) (hts (.code Lib.Math.max.name Lib.Math.max.code 2 (some .int)) (by decide +kernel)) (Nat.le_trans (Nat.le_of_ble_eq_true rfl) hRf) (Nat.le_trans (Nat.le_of_ble_eq_true rfl) hRl) (by omega) (by omega) dL_shop_420 ?_
    rw [nI_max (by omega) (by omega)]
    refine va_calli (va_runS (As := [.int v_5, .int (nI (max 1 nq))]) (rest := [.ref (ad 0)]) ⟨hx, hb, hml, hown, hts⟩ (c_L_below l D v_5 (max 1 nq) (by omega) (by omega)) (va_cwS 2 hts gL_shop_L_below rfl rfl rfl (by decide +kernel) ⟨Nat.le_trans (Nat.le_of_ble_eq_true rfl) hRf, Nat.le_trans (Nat.le_of_ble_eq_true rfl) hRl⟩) (pr_S P_nil hK [] rfl V0_at V0_c) rfl rfl hl.1 rfl (lv_room (Nat.le_of_ble_eq_true rfl)) dL_shop_423 ⟨by omega, by omega⟩) hS (fun _ _ h => h.elim) (fun _ h => h.elim) (fun r_7 _ t H1 locs ht hvm hw hB hz hk hS => ?_)
    obtain ⟨j_8, hj_8, rfl⟩ := hw
    have hG := hG.kept hk
    refine va_calli (vx_runSW (As := [.ref (ad 0), .int (nI j_8)]) (rest := []) ⟨hx, hb, hml, hown, hts⟩ (c_L_rip l hst D cI cZ cO ad n np nq F j_8 hinj hJ (by omega)) (vx_cwSW 2 hts gL_shop_L_rip rfl rfl rfl (by decide +kernel) ⟨Nat.le_trans (Nat.le_of_ble_eq_true rfl) hRf, Nat.le_trans (Nat.le_of_ble_eq_true rfl) hRl⟩) (prG_S hG hK (hE.at hS sub_id hAG) EnvL_c) rfl rfl hl.1 rfl (lv_room (Nat.le_of_ble_eq_true rfl)) dL_shop_426 ⟨by omega, by omega⟩) hS (fun q _ h => hAG q h) (fun q h => hAG q h) (fun r_9 _ t H1 locs ht hvm hw hB hz hk hS => ?_)
    rw [ht] at hB
    rcases hB with ⟨hok, u9, hG⟩ | ⟨hok, hG⟩
    · unfold okRip at hok
      simp only [Bool.and_eq_true, decide_eq_true_eq, beq_iff_eq] at hok
      have hJ := J_rip (J_T hJ u9) hok.1 (by rw [e13 F u9 12 (by decide)]; exact hok.2)
      obtain ⟨F2, eF2⟩ : ∃ z, z = ripF (va_up F 13 u9) np j_8 := ⟨_, rfl⟩
      rw [← eF2] at hG hJ
      refine lv_pop hx hb dL_shop_429 rfl ?_
      exact kk430 np nq F2 _ _ _ _ _ (by omega) (by omega)  hJ hG  hS (lv_sub hl [0, 1, 2, 3, 4, 5] rfl)
    · refine lv_pop hx hb dL_shop_429 rfl ?_
      exact kk430 np nq F _ _ _ _ _ (by omega) (by omega)  hJ hG  hS (lv_sub hl [0, 1, 2, 3, 4, 5] rfl)
