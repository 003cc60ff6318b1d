set_option maxHeartbeats 4000000 in
set_option maxRecDepth 100000 in
/-- skins are laid and marked -/
theorem hs_1 {p : Program} {l : Launch} {e : Env} {R : Room} {s : State} {m : MethodId} {args : Array Value} {below : List Frame} {meth : Method} {c : Code} {Q : State → Prop} {D : va_G} {cI cZ cO : ClassId} {ad : Nat → Nat} {b L : Nat} {xs : Nat → Int32} (hst : l.stackTraces = false) (hCx : LC cL_shop 11 wsL_shop p s m c args R D cI cZ cO b L xs) (hAD : inj ad 23 ∧ ∀ i, i ≤ 23 → s.heap.size ≤ ad i)   (hJ : K1 0 (fun _ _ => 0)) (cc ss : Nat) (H1 : Heap) (locs : List Loc) (ls : Array Slot) (hRc : cc + 400 ≤ R.cells) (hRs : ss + 2000 ≤ R.slots) (hG : GW D cI cZ cO ad 0 0 0 (fun _ _ => 0) H1)  (hS : va_S (LA s) s.heap H1 locs) (hl : lv_has ls 11 [(0, .ref b), (1, .ref (ad 0))]) (kk193 : ∀ (n : Nat) (co : Nat) (F : Nat → Nat → Int32) (cc' ss' : Nat) (H1 : Heap) (locs : List Loc) (ls : Array Slot), cc' ≤ cc + 400 → ss' ≤ ss + 2000 → (1 ≤ n) → (1 ≤ co) → (co ≤ 3) → K1 n F → GW D cI cZ cO ad n 0 0 F H1 → va_S (LA s) s.heap H1 locs → lv_has ls 11 [(0, .ref b), (1, .ref (ad 0)), (2, .int (nI n)), (3, .int (nI co))] → W p l e R s m args below meth c H1 locs cc' ss' Q (F0 m 193 ls [])) : W p l e R s m args below meth c H1 locs cc ss Q (F0 m 8 ls []) := by
  obtain ⟨hx, hb, hml, hown, hts, hK, hX, hbl, hL, hAO, hE, hRf, hRl⟩ := id hCx
  obtain ⟨hinj, hLA⟩ := id hAD
  have hbA : ¬ LA s b := Nat.not_le.mpr hbl
  have hAG : ∀ q, inA ad 23 q → LA s q := fun q ⟨i, hi, e⟩ => e ▸ hLA i hi
  have hn9 := hJ.1.1
  refine lv_iconst (v := nI 1) hx hb dL_shop_8 (by decide) ?_
  refine lv_aload_n hx hb dL_shop_9 rfl (lv_at hl 0 rfl) ?_
  refine lv_iconst (v := nI 0) hx hb dL_shop_10 (by decide) ?_
  refine va_calli (va_runS (As := [.ref b, .int (nI 0)]) (rest := [.int (nI 1)]) ⟨hx, hb, hml, hown, hts⟩ (c_L_cell l D b L xs 0 (by omega) hL) (va_cwS 2 hts gL_shop_L_cell rfl rfl rfl (by decide +kernel) ⟨Nat.le_trans (Nat.le_of_ble_eq_true rfl) hRf, Nat.le_trans (Nat.le_of_ble_eq_true rfl) hRl⟩) (pr_S P_nil hK [] rfl (VX.at hX hbl hS hbA) VX_c) rfl rfl hl.1 rfl (lv_room (Nat.le_of_ble_eq_true rfl)) dL_shop_11 ⟨by omega, by omega⟩) hS (fun _ _ h => h.elim) (fun _ h => h.elim) (fun r_1 _ t H1 locs ht hvm hw hB hz hk hS => ?_)
  have hG := hG.kept hk
  refine lv_bipush (v := nI 10) hx hb dL_shop_14 (by decide) ?_
  refine va_calli (va_runS (As := [.int r_1, .int (nI 10)]) (rest := [.int (nI 1)]) ⟨hx, hb, hml, hown, hts⟩ (c_L_below l D r_1 10 (by omega) (by omega)) (va_cwS 2 hts gL_shop_L_below rfl rfl rfl (by decide +kernel) ⟨Nat.le_trans (Nat.le_of_ble_eq_true rfl) hRf, Nat.le_trans (Nat.le_of_ble_eq_true rfl) hRl⟩) (pr_S P_nil hK [] rfl V0_at V0_c) rfl rfl hl.1 rfl (lv_room (Nat.le_of_ble_eq_true rfl)) dL_shop_16 ⟨by omega, by omega⟩) hS (fun _ _ h => h.elim) (fun _ h => h.elim) (fun r_2 _ t H1 locs ht hvm hw hB hz hk hS => ?_)
  obtain ⟨j1, hj1, rfl⟩ := hw
  have hG := hG.kept hk
  refine nv_iadd hx hb dL_shop_19 ?_
  refine lv_istore_n (lv' := [(2, .int (nI (1 + j1))), (0, .ref b), (1, .ref (ad 0))]) hx hb dL_shop_20 rfl hl (by decide) rfl (fun ls hl => ?_)
  refine lv_iconst (v := nI 1) hx hb dL_shop_21 (by decide) ?_
  refine lv_aload_n hx hb dL_shop_22 rfl (lv_at hl 1 rfl) ?_
  refine lv_iconst (v := nI 0) hx hb dL_shop_23 (by decide) ?_
  refine va_calli (va_runS (As := [.ref b, .int (nI 0)]) (rest := [.int (nI 1)]) ⟨hx, hb, hml, hown, hts⟩ (c_L_cell l D b L xs 0 (by omega) hL) (va_cwS 2 hts gL_shop_L_cell rfl rfl rfl (by decide +kernel) ⟨Nat.le_trans (Nat.le_of_ble_eq_true rfl) hRf, Nat.le_trans (Nat.le_of_ble_eq_true rfl) hRl⟩) (pr_S P_nil hK [] rfl (VX.at hX hbl hS hbA) VX_c) rfl rfl hl.1 rfl (lv_room (Nat.le_of_ble_eq_true rfl)) dL_shop_24 ⟨by omega, by omega⟩) hS (fun _ _ h => h.elim) (fun _ h => h.elim) (fun r_3 _ t H1 locs ht hvm hw hB hz hk hS => ?_)
  have hG := hG.kept hk
  refine lv_iconst (v := nI 4) hx hb dL_shop_27 (by decide) ?_
  refine lv_ishr hx hb dL_shop_28 ?_
  refine lv_topi (fun v_4 ev_4 => ?_)
  refine lv_iconst (v := nI 3) hx hb dL_shop_29 (by decide) ?_
  refine va_calli (va_runS (As := [.int v_4, .int (nI 3)]) (rest := [.int (nI 1)]) ⟨hx, hb, hml, hown, hts⟩ (c_L_below l D v_4 3 (by omega) (by omega)) (va_cwS 2 hts gL_shop_L_below rfl rfl rfl (by decide +kernel) ⟨Nat.le_trans (Nat.le_of_ble_eq_true rfl) hRf, Nat.le_trans (Nat.le_of_ble_eq_true rfl) hRl⟩) (pr_S P_nil hK [] rfl V0_at V0_c) rfl rfl hl.1 rfl (lv_room (Nat.le_of_ble_eq_true rfl)) dL_shop_30 ⟨by omega, by omega⟩) hS (fun _ _ h => h.elim) (fun _ h => h.elim) (fun r_5 _ t H1 locs ht hvm hw hB hz hk hS => ?_)
  obtain ⟨j2, hj2, rfl⟩ := hw
  have hG := hG.kept hk
  refine nv_iadd hx hb dL_shop_33 ?_
  refine lv_istore_n (lv' := [(3, .int (nI (1 + j2))), (2, .int (nI (1 + j1))), (0, .ref b), (1, .ref (ad 0))]) hx hb dL_shop_34 rfl hl (by decide) rfl (fun ls hl => ?_)
  refine lv_iconst (v := nI 0) hx hb dL_shop_35 (by decide) ?_
  refine lv_istore (lv' := [(4, .int (nI 0)), (3, .int (nI (1 + j2))), (2, .int (nI (1 + j1))), (0, .ref b), (1, .ref (ad 0))]) hx hb dL_shop_36 hl (by decide) rfl (fun ls hl => ?_)
  have L38 : ∀ (fu : Nat) (k9 : Nat) (F9 : Nat → Nat → Int32) (c38 s38 : Nat) (H1 : Heap) (locs : List Loc) (ls : Array Slot), 10 - k9 < fu → (c38 ≤ cc + 30 * k9) → (s38 ≤ ss + 150 * k9) → (k9 ≤ 1 + j1) → (K1 k9 F9) → GW D cI cZ cO ad k9 0 0 F9 H1 → va_S (LA s) s.heap H1 locs → lv_has ls 11 [(0, .ref b), (1, .ref (ad 0)), (2, .int (nI (1 + j1))), (3, .int (nI (1 + j2))), (4, .int (nI k9))] → W p l e R s m args below meth c H1 locs c38 s38 Q (F0 m 38 ls []) := by
    intro fu
    induction fu with
    | zero => intro _ _ _ _ _ _ _ h; exact absurd h (Nat.not_lt_zero _)
    | succ fu ih38 =>
      intro k9 F9 c38 s38 H1 locs ls hm38 hc38 hs38 hk hJ hG  hS hl
      refine lv_iload hx hb dL_shop_38 (lv_at hl 4 rfl) ?_
      refine lv_iload_n hx hb dL_shop_40 rfl (lv_at hl 2 rfl) ?_
      refine nv_icmp_ge (tgt := 193) hx hb (by omega) (by omega) dL_shop_41 (by decide) (fun c_6 => ?_) (fun c_6 => ?_)
      · obtain rfl : k9 = 1 + j1 := by omega
        exact kk193 (1 + j1) (1 + j2) F9 _ _ _ _ _ (by omega) (by omega) (by omega) (by omega) (by omega) hJ hG  hS (lv_sub hl [0, 1, 2, 3] rfl)
      · refine lv_aload_n hx hb dL_shop_44 rfl (lv_at hl 1 rfl) ?_
        refine lv_aload_n hx hb dL_shop_45 rfl (lv_at hl 0 rfl) ?_
        refine lv_iconst (v := nI 1) hx hb dL_shop_46 (by decide) ?_
        refine va_calli (va_runS (As := [.ref b, .int (nI 1)]) (rest := [.ref (ad 0)]) ⟨hx, hb, hml, hown, hts⟩ (c_L_cell l D b L xs 1 (by omega) hL) (va_cwS 2 hts gL_shop_L_cell rfl rfl rfl (by decide +kernel) ⟨Nat.le_trans (Nat.le_of_ble_eq_true rfl) hRf, Nat.le_trans (Nat.le_of_ble_eq_true rfl) hRl⟩) (pr_S P_nil hK [] rfl (VX.at hX hbl hS hbA) VX_c) rfl rfl hl.1 rfl (lv_room (Nat.le_of_ble_eq_true rfl)) dL_shop_47 ⟨by omega, by omega⟩) hS (fun _ _ h => h.elim) (fun _ h => h.elim) (fun r_7 _ t H1 locs ht hvm hw hB hz hk hS => ?_)
        have hG := hG.kept hk
        refine lv_iconst (v := nI 2) hx hb dL_shop_50 (by decide) ?_
        refine lv_iload hx hb dL_shop_51 (lv_at hl 4 rfl) ?_
        refine nv_imul hx hb dL_shop_53 ?_
        refine lv_ishr hx hb dL_shop_54 ?_
        refine lv_topi (fun v_8 ev_8 => ?_)
        refine lv_iload_n hx hb dL_shop_55 rfl (lv_at hl 3 rfl) ?_
        refine va_calli (va_runS (As := [.int v_8, .int (nI (1 + j2))]) (rest := [.ref (ad 0)]) ⟨hx, hb, hml, hown, hts⟩ (c_L_below l D v_8 (1 + j2) (by omega) (by omega)) (va_cwS 2 hts gL_shop_L_below rfl rfl rfl (by decide +kernel) ⟨Nat.le_trans (Nat.le_of_ble_eq_true rfl) hRf, Nat.le_trans (Nat.le_of_ble_eq_true rfl) hRl⟩) (pr_S P_nil hK [] rfl V0_at V0_c) rfl rfl hl.1 rfl (lv_room (Nat.le_of_ble_eq_true rfl)) dL_shop_56 ⟨by omega, by omega⟩) hS (fun _ _ h => h.elim) (fun _ h => h.elim) (fun r_9 _ t H1 locs ht hvm hw hB hz hk hS => ?_)
        obtain ⟨j3, hj3, rfl⟩ := hw
        have hG := hG.kept hk
        refine va_calli (va_runV (As := [.int (nI j3)]) (rest := []) ⟨hx, hb, hml, hown, hts⟩ (n_lay l hst D cI cZ cO ad k9 0 0 F9 j3 hinj hJ (by omega) (by omega)) (cwV 1 hts gL_shop_X0_lay rfl rfl rfl (by decide +kernel) ⟨Nat.le_trans (Nat.le_of_ble_eq_true rfl) hRf, Nat.le_trans (Nat.le_of_ble_eq_true rfl) hRl⟩) (prG_V hG hK (hE.1.at hS sub_id hAG) EnvG_c) rfl rfl hl.1 rfl (lv_room (Nat.le_of_ble_eq_true rfl)) dL_shop_59 ⟨by omega, by omega⟩) hS (fun q _ h => hAG q h) (fun q h => hAG q h) (fun r_10 u9 t H1 locs ht hvm hw hB hz hk hS => ?_)
        rw [ht] at hB
        have hG := hB
        have hJ := (K1_lay (K1_T u9 hJ) (by omega) (show j3 < 6 by omega)).2
        obtain ⟨F_11, eF_11⟩ : ∃ z, z = layF (va_up F9 13 u9) k9 (nI j3) := ⟨_, rfl⟩
        rw [← eF_11] at hG hJ
        refine lv_pop hx hb dL_shop_62 rfl ?_
        refine lv_aload_n hx hb dL_shop_63 rfl (lv_at hl 0 rfl) ?_
        refine lv_iconst (v := nI 2) hx hb dL_shop_64 (by decide) ?_
        refine va_calli (va_runS (As := [.ref b, .int (nI 2)]) (rest := []) ⟨hx, hb, hml, hown, hts⟩ (c_L_cell l D b L xs 2 (by omega) hL) (va_cwS 2 hts gL_shop_L_cell rfl rfl rfl (by decide +kernel) ⟨Nat.le_trans (Nat.le_of_ble_eq_true rfl) hRf, Nat.le_trans (Nat.le_of_ble_eq_true rfl) hRl⟩) (pr_S P_nil hK [] rfl (VX.at hX hbl hS hbA) VX_c) rfl rfl hl.1 rfl (lv_room (Nat.le_of_ble_eq_true rfl)) dL_shop_65 ⟨by omega, by omega⟩) hS (fun _ _ h => h.elim) (fun _ h => h.elim) (fun r_12 _ t H1 locs ht hvm hw hB hz hk hS => ?_)
        have hG := hG.kept hk
        refine lv_iload hx hb dL_shop_68 (lv_at hl 4 rfl) ?_
        refine lv_ishr hx hb dL_shop_70 ?_
        refine lv_topi (fun v_13 ev_13 => ?_)
        refine lv_iconst (v := nI 5) hx hb dL_shop_71 (by decide) ?_
        refine va_calli (va_runS (As := [.int v_13, .int (nI 5)]) (rest := []) ⟨hx, hb, hml, hown, hts⟩ (c_L_below l D v_13 5 (by omega) (by omega)) (va_cwS 2 hts gL_shop_L_below rfl rfl rfl (by decide +kernel) ⟨Nat.le_trans (Nat.le_of_ble_eq_true rfl) hRf, Nat.le_trans (Nat.le_of_ble_eq_true rfl) hRl⟩) (pr_S P_nil hK [] rfl V0_at V0_c) rfl rfl hl.1 rfl (lv_room (Nat.le_of_ble_eq_true rfl)) dL_shop_72 ⟨by omega, by omega⟩) hS (fun _ _ h => h.elim) (fun _ h => h.elim) (fun r_14 _ t H1 locs ht hvm hw hB hz hk hS => ?_)
        obtain ⟨j4, hj4, rfl⟩ := hw
        have hG := hG.kept hk
        refine lv_istore (lv' := [(5, .int (nI j4)), (0, .ref b), (1, .ref (ad 0)), (2, .int (nI (1 + j1))), (3, .int (nI (1 + j2))), (4, .int (nI k9))]) hx hb dL_shop_75 hl (by decide) rfl (fun ls hl => ?_)
        have L77 : ∀ (fu : Nat) (i9 : Nat) (F8 : Nat → Nat → Int32) (c77 s77 : Nat) (H1 : Heap) (locs : List Loc) (ls : Array Slot), i9 < fu → (c77 ≤ cc + 30 * k9 + 2 + 5 * (4 - i9)) → (s77 ≤ ss + 150 * k9 + 12 + 30 * (4 - i9)) → (i9 ≤ 4) → (K1 (k9 + 1) F8) → GW D cI cZ cO ad (k9 + 1) 0 0 F8 H1 → va_S (LA s) s.heap H1 locs → lv_has ls 11 [(0, .ref b), (1, .ref (ad 0)), (2, .int (nI (1 + j1))), (3, .int (nI (1 + j2))), (4, .int (nI k9)), (5, .int (nI i9))] → W p l e R s m args below meth c H1 locs c77 s77 Q (F0 m 77 ls []) := by
          intro fu
          induction fu with
          | zero => intro _ _ _ _ _ _ _ h; exact absurd h (Nat.not_lt_zero _)
          | succ fu ih77 =>
            intro i9 F8 c77 s77 H1 locs ls hm77 hc77 hs77 hi hJ hG  hS hl
            refine lv_iload hx hb dL_shop_77 (lv_at hl 5 rfl) ?_
            refine nv_if_le (tgt := 187) hx hb (by omega) dL_shop_79 (by decide) (fun c_15 => ?_) (fun c_15 => ?_)
            · refine lv_iinc (k := 4) (v := nI (k9 + 1)) (lv' := [(4, .int (nI (k9 + 1))), (0, .ref b), (1, .ref (ad 0)), (2, .int (nI (1 + j1))), (3, .int (nI (1 + j2))), (5, .int (nI i9))]) hx hb dL_shop_187 hl rfl (nI_add k9 1) (by decide) rfl (fun ls hl => ?_)
              refine lv_goto (tgt := 38) hx hb dL_shop_190 (by decide) ?_
              exact ih38 (k9 + 1) F8 _ _ _ _ _ (by omega) (by omega) (by omega) (by omega) hJ hG  hS (lv_sub hl [1, 2, 3, 4, 0] rfl)
            · refine lv_aload_n hx hb dL_shop_82 rfl (lv_at hl 0 rfl) ?_
              refine lv_iconst (v := nI 3) hx hb dL_shop_83 (by decide) ?_
              refine lv_iload hx hb dL_shop_84 (lv_at hl 4 rfl) ?_
              refine lv_iconst (v := nI 4) hx hb dL_shop_86 (by decide) ?_
              refine nv_irem hx hb (by omega) (by omega) (by omega) dL_shop_87 ?_
              refine nv_iadd hx hb dL_shop_88 ?_
              refine va_calli (va_runS (As := [.ref b, .int (nI (3 + (k9 % 4)))]) (rest := []) ⟨hx, hb, hml, hown, hts⟩ (c_L_cell l D b L xs (3 + (k9 % 4)) (by omega) hL) (va_cwS 2 hts gL_shop_L_cell rfl rfl rfl (by decide +kernel) ⟨Nat.le_trans (Nat.le_of_ble_eq_true rfl) hRf, Nat.le_trans (Nat.le_of_ble_eq_true rfl) hRl⟩) (pr_S P_nil hK [] rfl (VX.at hX hbl hS hbA) VX_c) rfl rfl hl.1 rfl (lv_room (Nat.le_of_ble_eq_true rfl)) dL_shop_89 ⟨by omega, by omega⟩) hS (fun _ _ h => h.elim) (fun _ h => h.elim) (fun r_16 _ t H1 locs ht hvm hw hB hz hk hS => ?_)
              have hG := hG.kept hk
              refine lv_iload hx hb dL_shop_92 (lv_at hl 5 rfl) ?_
              refine lv_ishr hx hb dL_shop_94 ?_
              refine lv_topi (fun v_17 ev_17 => ?_)
              refine lv_bipush (v := nI 17) hx hb dL_shop_95 (by decide) ?_
              refine lv_iload hx hb dL_shop_97 (lv_at hl 4 rfl) ?_
              refine nv_imul hx hb dL_shop_99 ?_
              refine lv_iadd hx hb dL_shop_100 ?_
              refine lv_topi (fun v_18 ev_18 => ?_)
              refine lv_istore (lv' := [(6, .int v_18), (0, .ref b), (1, .ref (ad 0)), (2, .int (nI (1 + j1))), (3, .int (nI (1 + j2))), (4, .int (nI k9)), (5, .int (nI i9))]) hx hb dL_shop_101 hl (by decide) rfl (fun ls hl => ?_)
              refine lv_iload hx hb dL_shop_103 (lv_at hl 0 rfl) ?_
              refine lv_bipush (v := nI 12) hx hb dL_shop_105 (by decide) ?_
              refine va_calli (va_runS (As := [.int v_18, .int (nI 12)]) (rest := []) ⟨hx, hb, hml, hown, hts⟩ (c_L_below l D v_18 12 (by omega) (by omega)) (va_cwS 2 hts gL_shop_L_below rfl rfl rfl (by decide +kernel) ⟨Nat.le_trans (Nat.le_of_ble_eq_true rfl) hRf, Nat.le_trans (Nat.le_of_ble_eq_true rfl) hRl⟩) (pr_S P_nil hK [] rfl V0_at V0_c) rfl rfl hl.1 rfl (lv_room (Nat.le_of_ble_eq_true rfl)) dL_shop_107 ⟨by omega, by omega⟩) hS (fun _ _ h => h.elim) (fun _ h => h.elim) (fun r_19 _ t H1 locs ht hvm hw hB hz hk hS => ?_)
              obtain ⟨j_20, hj_20, rfl⟩ := hw
              have hG := hG.kept hk
              refine lv_istore (lv' := [(7, .int (nI j_20)), (6, .int v_18), (0, .ref b), (1, .ref (ad 0)), (2, .int (nI (1 + j1))), (3, .int (nI (1 + j2))), (4, .int (nI k9)), (5, .int (nI i9))]) hx hb dL_shop_110 hl (by decide) rfl (fun ls hl => ?_)
              refine lv_iload hx hb dL_shop_112 (lv_at hl 1 rfl) ?_
              refine lv_iconst (v := nI 3) hx hb dL_shop_114 (by decide) ?_
              refine lv_ishr hx hb dL_shop_115 ?_
              refine lv_topi (fun v_21 ev_21 => ?_)
              refine lv_bipush (v := nI 8) hx hb dL_shop_116 (by decide) ?_
              refine va_calli (va_runS (As := [.int v_21, .int (nI 8)]) (rest := []) ⟨hx, hb, hml, hown, hts⟩ (c_L_below l D v_21 8 (by omega) (by omega)) (va_cwS 2 hts gL_shop_L_below rfl rfl rfl (by decide +kernel) ⟨Nat.le_trans (Nat.le_of_ble_eq_true rfl) hRf, Nat.le_trans (Nat.le_of_ble_eq_true rfl) hRl⟩) (pr_S P_nil hK [] rfl V0_at V0_c) rfl rfl hl.1 rfl (lv_room (Nat.le_of_ble_eq_true rfl)) dL_shop_118 ⟨by omega, by omega⟩) hS (fun _ _ h => h.elim) (fun _ h => h.elim) (fun r_22 _ t H1 locs ht hvm hw hB hz hk hS => ?_)
              obtain ⟨j_23, hj_23, rfl⟩ := hw
              have hG := hG.kept hk
              refine lv_istore (lv' := [(8, .int (nI j_23)), (7, .int (nI j_20)), (6, .int v_18), (0, .ref b), (1, .ref (ad 0)), (2, .int (nI (1 + j1))), (3, .int (nI (1 + j2))), (4, .int (nI k9)), (5, .int (nI i9))]) hx hb dL_shop_121 hl (by decide) rfl (fun ls hl => ?_)
              refine lv_aload_n hx hb dL_shop_123 rfl (lv_at hl 4 rfl) ?_
              refine lv_iload hx hb dL_shop_124 (lv_at hl 7 rfl) ?_
              refine lv_iload hx hb dL_shop_126 (lv_at hl 1 rfl) ?_
              refine lv_iload hx hb dL_shop_128 (lv_at hl 0 rfl) ?_
              refine lv_iconst (v := nI 1) hx hb dL_shop_130 (by decide) ?_
              refine lv_iload hx hb dL_shop_131 (lv_at hl 2 rfl) ?_
              refine lv_iconst (v := nI 2) hx hb dL_shop_133 (by decide) ?_
              refine lv_ishr hx hb dL_shop_134 ?_
              refine lv_topi (fun v_24 ev_24 => ?_)
              refine lv_iconst (v := nI 4) hx hb dL_shop_135 (by decide) ?_
              refine lv_bipush (v := nI 12) hx hb dL_shop_136 (by decide) ?_
              refine lv_iload hx hb dL_shop_138 (lv_at hl 1 rfl) ?_
              refine nv_isub hx hb (by omega) dL_shop_140 ?_
              refine va_mmin (rest := [.int v_24, .int (nI 1), .int (nI j_23), .int (nI j_20), .int (nI k9), .ref (ad 0)]) hx hb (hml.trans hl.1.symm) hown (hts (.methodLink RL 26 Lib.Math.min.name) (by decide +kernel)) (hts (.static Lib.Math.min.name) (by decide +kernel)) (hts (.initialized "java/lang/Math") (by decide +kernel)) (hts (.code Lib.Math.min.name Lib.Math.min.code 2 (some .int)) (by decide +kernel)) (Nat.le_trans (Nat.le_of_ble_eq_true rfl) hRf) (Nat.le_trans (Nat.le_of_ble_eq_true rfl) hRl) (by omega) (by omega) dL_shop_141 ?_
              rw [nI_min (by omega) (by omega)]
              refine va_calli (va_runS (As := [.int v_24, .int (nI (min (12 - j_20) 4))]) (rest := [.int (nI 1), .int (nI j_23), .int (nI j_20), .int (nI k9), .ref (ad 0)]) ⟨hx, hb, hml, hown, hts⟩ (c_L_below l D v_24 (min (12 - j_20) 4) (by omega) (by omega)) (va_cwS 2 hts gL_shop_L_below rfl rfl rfl (by decide +kernel) ⟨Nat.le_trans (Nat.le_of_ble_eq_true rfl) hRf, Nat.le_trans (Nat.le_of_ble_eq_true rfl) hRl⟩) (pr_S P_nil hK [] rfl V0_at V0_c) rfl rfl hl.1 rfl (lv_room (Nat.le_of_ble_eq_true rfl)) dL_shop_144 ⟨by omega, by omega⟩) hS (fun _ _ h => h.elim) (fun _ h => h.elim) (fun r_25 _ t H1 locs ht hvm hw hB hz hk hS => ?_)
              obtain ⟨j_26, hj_26, rfl⟩ := hw
              have hG := hG.kept hk
              refine nv_iadd hx hb dL_shop_147 ?_
              refine lv_iconst (v := nI 1) hx hb dL_shop_148 (by decide) ?_
              refine lv_iload hx hb dL_shop_149 (lv_at hl 2 rfl) ?_
              refine lv_iconst (v := nI 5) hx hb dL_shop_151 (by decide) ?_
              refine lv_ishr hx hb dL_shop_152 ?_
              refine lv_topi (fun v_27 ev_27 => ?_)
              refine lv_iconst (v := nI 3) hx hb dL_shop_153 (by decide) ?_
              refine lv_bipush (v := nI 8) hx hb dL_shop_154 (by decide) ?_
              refine lv_iload hx hb dL_shop_156 (lv_at hl 0 rfl) ?_
              refine nv_isub hx hb (by omega) dL_shop_158 ?_
              refine va_mmin (rest := [.int v_27, .int (nI 1), .int (nI (1 + j_26)), .int (nI j_23), .int (nI j_20), .int (nI k9), .ref (ad 0)]) hx hb (hml.trans hl.1.symm) hown (hts (.methodLink RL 26 Lib.Math.min.name) (by decide +kernel)) (hts (.static Lib.Math.min.name) (by decide +kernel)) (hts (.initialized "java/lang/Math") (by decide +kernel)) (hts (.code Lib.Math.min.name Lib.Math.min.code 2 (some .int)) (by decide +kernel)) (Nat.le_trans (Nat.le_of_ble_eq_true rfl) hRf) (Nat.le_trans (Nat.le_of_ble_eq_true rfl) hRl) (by omega) (by omega) dL_shop_159 ?_
              rw [nI_min (by omega) (by omega)]
              refine va_calli (va_runS (As := [.int v_27, .int (nI (min (8 - j_23) 3))]) (rest := [.int (nI 1), .int (nI (1 + j_26)), .int (nI j_23), .int (nI j_20), .int (nI k9), .ref (ad 0)]) ⟨hx, hb, hml, hown, hts⟩ (c_L_below l D v_27 (min (8 - j_23) 3) (by omega) (by omega)) (va_cwS 2 hts gL_shop_L_below rfl rfl rfl (by decide +kernel) ⟨Nat.le_trans (Nat.le_of_ble_eq_true rfl) hRf, Nat.le_trans (Nat.le_of_ble_eq_true rfl) hRl⟩) (pr_S P_nil hK [] rfl V0_at V0_c) rfl rfl hl.1 rfl (lv_room (Nat.le_of_ble_eq_true rfl)) dL_shop_162 ⟨by omega, by omega⟩) hS (fun _ _ h => h.elim) (fun _ h => h.elim) (fun r_28 _ t H1 locs ht hvm hw hB hz hk hS => ?_)
              obtain ⟨j_29, hj_29, rfl⟩ := hw
              have hG := hG.kept hk
              refine nv_iadd hx hb dL_shop_165 ?_
              refine lv_iconst (v := nI 1) hx hb dL_shop_166 (by decide) ?_
              refine lv_iload hx hb dL_shop_167 (lv_at hl 2 rfl) ?_
              refine lv_bipush (v := nI 6) hx hb dL_shop_169 (by decide) ?_
              refine lv_ishr hx hb dL_shop_171 ?_
              refine lv_topi (fun v_30 ev_30 => ?_)
              refine lv_iconst (v := nI 2) hx hb dL_shop_172 (by decide) ?_
              refine va_calli (va_runS (As := [.int v_30, .int (nI 2)]) (rest := [.int (nI 1), .int (nI (1 + j_29)), .int (nI (1 + j_26)), .int (nI j_23), .int (nI j_20), .int (nI k9), .ref (ad 0)]) ⟨hx, hb, hml, hown, hts⟩ (c_L_below l D v_30 2 (by omega) (by omega)) (va_cwS 2 hts gL_shop_L_below rfl rfl rfl (by decide +kernel) ⟨Nat.le_trans (Nat.le_of_ble_eq_true rfl) hRf, Nat.le_trans (Nat.le_of_ble_eq_true rfl) hRl⟩) (pr_S P_nil hK [] rfl V0_at V0_c) rfl rfl hl.1 rfl (lv_room (Nat.le_of_ble_eq_true rfl)) dL_shop_173 ⟨by omega, by omega⟩) hS (fun _ _ h => h.elim) (fun _ h => h.elim) (fun r_31 _ t H1 locs ht hvm hw hB hz hk hS => ?_)
              obtain ⟨j_32, hj_32, rfl⟩ := hw
              have hG := hG.kept hk
              refine nv_iadd hx hb dL_shop_176 ?_
              refine va_calli (va_runV (As := [.int (nI k9), .int (nI j_20), .int (nI j_23), .int (nI (1 + j_26)), .int (nI (1 + j_29)), .int (nI (1 + j_32))]) (rest := []) ⟨hx, hb, hml, hown, hts⟩ (n_mark l hst D cI cZ cO ad (k9 + 1) 0 0 F8 k9 j_20 j_23 (1 + j_26) (1 + j_29) (1 + j_32) hinj hJ (by omega) (by omega) (by omega) (by omega) (by omega) (by omega)) (cwV 6 hts gL_shop_X0_mark rfl rfl rfl (by decide +kernel) ⟨Nat.le_trans (Nat.le_of_ble_eq_true rfl) hRf, Nat.le_trans (Nat.le_of_ble_eq_true rfl) hRl⟩) (prG_V hG hK (hE.1.at hS sub_id hAG) EnvG_c) rfl rfl hl.1 rfl (lv_room (Nat.le_of_ble_eq_true rfl)) dL_shop_177 ⟨by omega, by omega⟩) hS (fun q _ h => hAG q h) (fun q h => hAG q h) (fun r_33 u9 t H1 locs ht hvm hw hB hz hk hS => ?_)
              rw [ht] at hB
              have hG := hB
              have hJ := (K1_mark (x := j_20) (y := j_23) (w := 1 + j_26) (hh := 1 + j_29) (v := 1 + j_32) (K1_T u9 hJ) (show k9 < k9 + 1 by omega) (by omega) (by omega) (by omega) (by omega) (by omega)).2
              obtain ⟨F_34, eF_34⟩ : ∃ z, z = stMark (va_up F8 13 u9) (nI k9) (nI j_20) (nI j_23) (nI (1 + j_26)) (nI (1 + j_29)) (nI (1 + j_32)) := ⟨_, rfl⟩
              rw [← eF_34] at hG hJ
              refine lv_pop hx hb dL_shop_180 rfl ?_
              refine lv_iinc (k := 8) (v := nI (i9 - 1)) (lv' := [(5, .int (nI (i9 - 1))), (8, .int (nI j_23)), (7, .int (nI j_20)), (6, .int v_18), (0, .ref b), (1, .ref (ad 0)), (2, .int (nI (1 + j1))), (3, .int (nI (1 + j2))), (4, .int (nI k9))]) hx hb dL_shop_181 hl rfl (sb_m1 (by omega)) (by decide) rfl (fun ls hl => ?_)
              refine lv_goto (tgt := 77) hx hb dL_shop_184 (by decide) ?_
              exact ih77 (i9 - 1) F_34 _ _ _ _ _ (by omega) (by omega) (by omega) (by omega) hJ hG  hS (lv_sub hl [4, 5, 6, 7, 8, 0] rfl)
        exact L77 _ j4 F_11 _ _ _ _ _ (Nat.lt_succ_self _) (by omega) (by omega) (by omega) hJ hG  hS (lv_sub hl [1, 2, 3, 4, 5, 0] rfl)
  exact L38 _ 0 (fun _ _ => 0) _ _ _ _ _ (Nat.lt_succ_self _) (by omega) (by omega) (by omega) hJ hG  hS (lv_sub hl [3, 4, 2, 1, 0] rfl)
