set_option maxHeartbeats 4000000 in
set_option maxRecDepth 100000 in
/-- the cuts -/
theorem hs_6 {p : Program} {l : Launch} {e : Env} {R : Room} {s : State} {m : MethodId} {args : Array Value} {below : List Frame} {meth : Method} {c : Code} {Q : State → Prop} {D : va_G} {cI cZ cO : ClassId} {ad : Nat → Nat} {b L : Nat} {xs : Nat → Int32} (hst : l.stackTraces = false) (hCx : LC cL_shop 11 wsL_shop p s m c args R D cI cZ cO b L xs) (hAD : inj ad 23 ∧ ∀ i, i ≤ 23 → s.heap.size ≤ ad i) (n co : Nat) (F : Nat → Nat → Int32) (hn1 : 1 ≤ n) (h2 : 1 ≤ co) (h3 : co ≤ 3) (hJ : J n 0 0 F) (cc ss : Nat) (H1 : Heap) (locs : List Loc) (ls : Array Slot) (hRc : cc + 2400 ≤ R.cells) (hRs : ss + 12000 ≤ R.slots) (hG : GW D cI cZ cO ad n 0 0 F H1)  (hS : va_S (LA s) s.heap H1 locs) (hl : lv_has ls 11 [(0, .ref b), (1, .ref (ad 0)), (2, .int (nI n)), (3, .int (nI co))]) (kk436 : ∀ (np2 : Nat) (nq2 : Nat) (F2 : Nat → Nat → Int32) (cc' ss' : Nat) (H1 : Heap) (locs : List Loc) (ls : Array Slot), cc' ≤ cc + 2400 → ss' ≤ ss + 12000 → J n np2 nq2 F2 → GW D cI cZ cO ad n np2 nq2 F2 H1 → va_S (LA s) s.heap H1 locs → lv_has ls 11 [(0, .ref b), (1, .ref (ad 0))] → W p l e R s m args below meth c H1 locs cc' ss' Q (F0 m 436 ls [])) : W p l e R s m args below meth c H1 locs cc ss Q (F0 m 193 ls []) := by
  obtain ⟨hx, hb, hml, hown, hts, hK, hX, hbl, hL, hAO, hE, hRf, hRl⟩ := id hCx
  obtain ⟨hinj, hLA⟩ := id hAD
  have hbA : ¬ LA s b := Nat.not_le.mpr hbl
  have hAG : ∀ q, inA ad 23 q → LA s q := fun q ⟨i, hi, e⟩ => e ▸ hLA i hi
  obtain ⟨hn9, hnp9, hnq9, hsk9, hrip9, -⟩ := id hJ.inv
  refine lv_aload_n hx hb dL_shop_193 rfl (lv_at hl 0 rfl) ?_
  refine lv_bipush (v := nI 7) hx hb dL_shop_194 (by decide) ?_
  refine va_calli (va_runS (As := [.ref b, .int (nI 7)]) (rest := []) ⟨hx, hb, hml, hown, hts⟩ (c_L_cell l D b L xs 7 (by omega) hL) (va_cwS 2 hts gL_shop_L_cell rfl rfl rfl (by decide +kernel) ⟨Nat.le_trans (Nat.le_of_ble_eq_true rfl) hRf, Nat.le_trans (Nat.le_of_ble_eq_true rfl) hRl⟩) (pr_S P_nil hK [] rfl (VX.at hX hbl hS hbA) VX_c) rfl rfl hl.1 rfl (lv_room (Nat.le_of_ble_eq_true rfl)) dL_shop_196 ⟨by omega, by omega⟩) hS (fun _ _ h => h.elim) (fun _ h => h.elim) (fun r_1 _ t H1 locs ht hvm hw hB hz hk hS => ?_)
  have hG := hG.kept hk
  refine lv_sipush (v := nI 130) hx hb dL_shop_199 (by decide) ?_
  refine va_calli (va_runS (As := [.int r_1, .int (nI 130)]) (rest := []) ⟨hx, hb, hml, hown, hts⟩ (c_L_below l D r_1 130 (by omega) (by omega)) (va_cwS 2 hts gL_shop_L_below rfl rfl rfl (by decide +kernel) ⟨Nat.le_trans (Nat.le_of_ble_eq_true rfl) hRf, Nat.le_trans (Nat.le_of_ble_eq_true rfl) hRl⟩) (pr_S P_nil hK [] rfl V0_at V0_c) rfl rfl hl.1 rfl (lv_room (Nat.le_of_ble_eq_true rfl)) dL_shop_202 ⟨by omega, by omega⟩) hS (fun _ _ h => h.elim) (fun _ h => h.elim) (fun r_2 _ t H1 locs ht hvm hw hB hz hk hS => ?_)
  obtain ⟨cu, hcu, rfl⟩ := hw
  have hG := hG.kept hk
  refine lv_istore (lv' := [(4, .int (nI cu)), (0, .ref b), (1, .ref (ad 0)), (2, .int (nI n)), (3, .int (nI co))]) hx hb dL_shop_205 hl (by decide) rfl (fun ls hl => ?_)
  refine lv_iconst (v := nI 0) hx hb dL_shop_207 (by decide) ?_
  refine lv_istore (lv' := [(5, .int (nI 0)), (4, .int (nI cu)), (0, .ref b), (1, .ref (ad 0)), (2, .int (nI n)), (3, .int (nI co))]) hx hb dL_shop_208 hl (by decide) rfl (fun ls hl => ?_)
  have L210 : ∀ (fu : Nat) (k9 : Nat) (np1 : Nat) (nq1 : Nat) (F1 : Nat → Nat → Int32) (c210 s210 : Nat) (H1 : Heap) (locs : List Loc) (ls : Array Slot), cu - k9 < fu → (c210 ≤ cc + 15 * k9) → (s210 ≤ ss + 90 * k9) → (k9 ≤ cu) → (J n np1 nq1 F1) → GW D cI cZ cO ad n np1 nq1 F1 H1 → va_S (LA s) s.heap H1 locs → lv_has ls 11 [(0, .ref b), (1, .ref (ad 0)), (2, .int (nI n)), (3, .int (nI co)), (4, .int (nI cu)), (5, .int (nI k9))] → W p l e R s m args below meth c H1 locs c210 s210 Q (F0 m 210 ls []) := by
    intro fu
    induction fu with
    | zero => intro _ _ _ _ _ _ _ _ _ h; exact absurd h (Nat.not_lt_zero _)
    | succ fu ih210 =>
      intro k9 np1 nq1 F1 c210 s210 H1 locs ls hm210 hc210 hs210 hk hJ hG  hS hl
      refine lv_iload hx hb dL_shop_210 (lv_at hl 5 rfl) ?_
      refine lv_iload hx hb dL_shop_212 (lv_at hl 4 rfl) ?_
      refine nv_icmp_ge (tgt := 436) hx hb (by omega) (by omega) dL_shop_214 (by decide) (fun c_3 => ?_) (fun c_3 => ?_)
      · exact kk436 np1 nq1 F1 _ _ _ _ _ (by omega) (by omega)  hJ hG  hS (lv_sub hl [0, 1] rfl)
      · refine hs_2 hst hCx ⟨hinj, hLA⟩ n co np1 nq1 F1 cu k9 (by omega) (by omega) (by omega) (by omega) hJ _ _ _ _ _ (by omega) (by omega) hG  hS (lv_sub hl [0, 1, 2, 3, 4, 5] rfl) (fun v sk kd tb pl c4 s4 H1 locs ls hc4 hs4 hsk hkd hpl hG  hS hl => ?_)
        refine hs_3 hst hCx ⟨hinj, hLA⟩ n co np1 nq1 F1 cu k9 v sk kd tb pl (by omega) (by omega) (by omega) (by omega) hsk hkd hpl hJ _ _ _ _ _ (by omega) (by omega) hG  hS (lv_sub hl [0, 1, 2, 3, 4, 5, 6, 7, 8, 9] rfl) (fun np3 nq3 F3 c5 s5 H1 locs ls hc5 hs5  hJ hG  hS hl => ?_)
        refine hs_4 hst hCx ⟨hinj, hLA⟩ n co np3 nq3 F3 cu k9 v (by omega) (by omega) (by omega) (by omega) hJ _ _ _ _ _ (by omega) (by omega) hG  hS (lv_sub hl [0, 1, 2, 3, 4, 5, 6] rfl) (fun np4 nq4 F4 c6 s6 H1 locs ls hc6 hs6  hJ hG  hS hl => ?_)
        refine hs_5 hst hCx ⟨hinj, hLA⟩ n co np4 nq4 F4 cu k9 v (by omega) (by omega) (by omega) (by omega) hJ _ _ _ _ _ (by omega) (by omega) hG  hS (lv_sub hl [0, 1, 2, 3, 4, 5, 6] rfl) (fun np5 nq5 F5 c7 s7 H1 locs ls hc7 hs7  hJ hG  hS hl => ?_)
        refine lv_iinc (k := 5) (v := nI (k9 + 1)) (lv' := [(5, .int (nI (k9 + 1))), (0, .ref b), (1, .ref (ad 0)), (2, .int (nI n)), (3, .int (nI co)), (4, .int (nI cu))]) hx hb dL_shop_430 hl rfl (nI_add k9 1) (by decide) rfl (fun ls hl => ?_)
        refine lv_goto (tgt := 210) hx hb dL_shop_433 (by decide) ?_
        exact ih210 (k9 + 1) np5 nq5 F5 _ _ _ _ _ (by omega) (by omega) (by omega) (by omega) hJ hG  hS (lv_sub hl [1, 2, 3, 4, 5, 0] rfl)
  exact L210 _ 0 0 0 F _ _ _ _ _ (Nat.lt_succ_self _) (by omega) (by omega) (by omega) hJ hG  hS (lv_sub hl [2, 3, 4, 5, 1, 0] rfl)
