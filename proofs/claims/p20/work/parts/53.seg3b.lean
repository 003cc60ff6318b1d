set_option maxHeartbeats 4000000 in
set_option maxRecDepth 100000 in
/-- a pair is sewn -/
theorem sg_3b {p : Program} {l : Launch} {e : Env} {R : Room} {s : State} {m : MethodId} {args : Array Value} {below : List Frame} {meth : Method} {c : Code} {Q : State → Prop} {D : va_G} {cI cZ cO : ClassId} {ad : Nat → Nat} {b L : Nat} {xs : Nat → Int32} (hst : l.stackTraces = false) (hCx : LC cL_law 29 wsL_law p s m c args R D cI cZ cO b L xs) (hAD : inj ad 23 ∧ ∀ i, i ≤ 23 → s.heap.size ≤ ad i) (n np nq : Nat) (F : Nat → Nat → Int32) (z : Nat) (szf : Nat → Int32) (tm : Nat) (v : Int32) (sk kd co : Nat) (tb : Bool) (pl : Int32) (pq : Nat) (g9 : Nat → Nat → Int32) (hadz : ∀ i, i ≤ 23 → ad i < z) (hzA : s.heap.size ≤ z) (hsz : ∀ k, k < 4 → szf k = nI (kz k)) (htm : tm < 24) (hn1 : 1 ≤ n) (hsk : sk < n) (hkd : kd < 4) (hco : co < 4) (hzp : z < pq) (hg : ∀ p, p < np → ∀ w, w < 4 → g9 p w = pcT F p w) (hJ : J n np nq F) (cc ss : Nat) (H1 : Heap) (locs : List Loc) (ls : Array Slot) (hRc : cc + 60 ≤ R.cells) (hRs : ss + 600 ≤ R.slots) (hG : GW D cI cZ cO ad n np nq F H1) (h_z : ar cI z 4 szf H1) (h_pqo : ao cO pq np H1) (h_pq : ∀ i, i < np → ar cI (pq + 1 + i) 4 (g9 i) H1) (hS : va_S (LA s) s.heap H1 locs) (hl : lv_has ls 29 [(0, .ref b), (1, .ref (ad 0)), (2, .int (nI n)), (3, .ref z), (4, .int (nI tm)), (5, .int v), (6, .int (nI np)), (7, .int (nI nq)), (8, .int (nI (pAt F np (-2)))), (9, .int (nI sk)), (10, .int (nI kd)), (11, .int (bI tb)), (12, .long (dG n np nq F)), (14, .int (nI (gvT F kd tb sk))), (16, .int pl), (17, .int (nI co)), (18, .int (nI (prN F n np (nI co) 3))), (19, .ref pq)]) (kk740 : ∀ (np2 : Nat) (nq2 : Nat) (F2 : Nat → Nat → Int32) (cc' ss' : Nat) (H1 : Heap) (locs : List Loc) (ls : Array Slot), cc' ≤ cc + 60 → ss' ≤ ss + 600 → (np ≤ np2) → (∀ p, p < np → g9 p 0 = F2 4 p ∧ g9 p 1 = F2 5 p ∧ g9 p 3 = F2 7 p ∧ (g9 p 2 = -2 → F2 6 p = -2)) → J n np2 nq2 F2 → GW D cI cZ cO ad n np2 nq2 F2 H1 → (ar cI z 4 szf H1) → (ao cO pq np H1) → (∀ i, i < np → ar cI (pq + 1 + i) 4 (g9 i) H1) → va_S (LA s) s.heap H1 locs → lv_has ls 29 [(0, .ref b), (1, .ref (ad 0)), (2, .int (nI n)), (3, .ref z), (4, .int (nI tm)), (6, .int (nI np)), (19, .ref pq)] → W p l e R s m args below meth c H1 locs cc' ss' Q (F0 m 740 ls [])) : W p l e R s m args below meth c H1 locs cc ss Q (F0 m 564 ls []) := by
  obtain ⟨hx, hb, hml, hown, hts, hK, hX, hbl, hL, hAO, hE, hRf, hRl⟩ := id hCx
  obtain ⟨hinj, hLA⟩ := id hAD
  have hbA : ¬ LA s b := Nat.not_le.mpr hbl
  have hAG : ∀ q, inA ad 23 q → LA s q := fun q ⟨i, hi, e⟩ => e ▸ hLA i hi
  obtain ⟨hn9, hnp9, hnq9, hsk9, hrip9, -⟩ := id hJ.inv
  have hcp := can_pairs F n np (nI co)
  have hpr := prN_b (F := F) (n := n) (c := nI co) hnp9
  rcases (show (0 < prN F n np (nI co) 3 ∧ nq < 20) ∨ prN F n np (nI co) 3 = 0 ∨ (0 < prN F n np (nI co) 3 ∧ 20 ≤ nq) by omega) with ⟨hA1, hA2⟩ | hA1 | ⟨hA1, hA2⟩
  · have hok : okSew F n np nq co = true := by unfold okSew; rw [hcp.mpr hA1, decide_eq_true hA2]; rfl
    refine lv_aload_n hx hb dL_law_564 rfl (lv_at hl 1 rfl) ?_
    refine lv_iload hx hb dL_law_565 (lv_at hl 15 rfl) ?_
    refine va_calli (vx_runSW (As := [.ref (ad 0), .int (nI co)]) (rest := []) ⟨hx, hb, hml, hown, hts⟩ (c_L_sew l hst D cI cZ cO ad n np nq F co hinj hJ (by omega)) (vx_cwSW 2 hts gL_law_L_sew rfl rfl rfl (by decide +kernel) ⟨Nat.le_trans (Nat.le_of_ble_eq_true rfl) hRf, Nat.le_trans (Nat.le_of_ble_eq_true rfl) hRl⟩) (prG_S hG hK (hE.at hS sub_id hAG) EnvL_c) rfl rfl hl.1 rfl (lv_room (Nat.le_of_ble_eq_true rfl)) dL_law_567 ⟨by omega, by omega⟩) hS (fun q _ h => hAG q h) (fun q h => hAG q h) (fun r_1 _ t H1 locs ht hvm hw hB hz hk hS => ?_)
    rw [ht] at hB
    have h_z := h_z.kept (hk _ h_z.lt (nin hadz (by omega)))
    have h_pqo := h_pqo.kept (hk _ h_pqo.lt (nin hadz (by omega)))
    have h_pq := fun (i : Nat) (hi : i < np) => (h_pq i hi).kept (hk _ (h_pq i hi).lt (nin hadz (by omega)))
    rw [hok, if_pos rfl] at hw
    obtain rfl := hw
    obtain ⟨u9, hG⟩ := hB.elim (fun h => h.2) (fun h => absurd (hok.symm.trans h.1) (by decide))
    obtain ⟨F2, eF2⟩ : ∃ z, z = swF (va_up F 13 u9) n np nq (nI co) := ⟨_, rfl⟩
    rw [← eF2] at hG
    obtain ⟨hJ2, hrel, qp, q8, t9, ht9, q9, q1⟩ := sew_law hJ (show co < 6 by omega) (hcp.mpr hA1) hA2 eF2
    have hJ0 := hJ
    have hJ := hJ2
    have hnp9 := hJ2.inv.2.1
    have hnq9 := hJ2.inv.2.2.1
    have hpa2 := pAt_le F2 np (-2)
    have hpr2 := prN_b (F := F2) (n := n) (c := nI co) hnp9
    refine lv_istore (lv' := [(20, .int (nI nq)), (0, .ref b), (1, .ref (ad 0)), (2, .int (nI n)), (3, .ref z), (4, .int (nI tm)), (5, .int v), (6, .int (nI np)), (7, .int (nI nq)), (8, .int (nI (pAt F np (-2)))), (9, .int (nI sk)), (10, .int (nI kd)), (11, .int (bI tb)), (12, .long (dG n np nq F)), (14, .int (nI (gvT F kd tb sk))), (16, .int pl), (17, .int (nI co)), (18, .int (nI (prN F n np (nI co) 3))), (19, .ref pq)]) hx hb dL_law_570 hl (by decide) rfl (fun ls hl => ?_)
    refine lv_iload hx hb dL_law_572 (lv_at hl 0 rfl) ?_
    refine lv_iload hx hb dL_law_574 (lv_at hl 17 rfl) ?_
    refine nv_if_le (tgt := 591) hx hb (by omega) dL_law_576 (by decide) (fun c_2 => ?_) (fun c_2 => ?_)
    · exfalso; omega
    · refine lv_iload hx hb dL_law_579 (lv_at hl 8 rfl) ?_
      refine lv_bipush (v := nI 20) hx hb dL_law_581 (by decide) ?_
      refine nv_icmp_ge (tgt := 591) hx hb (by omega) (by omega) dL_law_583 (by decide) (fun c_3 => ?_) (fun c_3 => ?_)
      · exfalso; omega
      · refine lv_iload hx hb dL_law_586 (lv_at hl 8 rfl) ?_
        refine lv_goto (tgt := 592) hx hb dL_law_588 (by decide) ?_
        refine nv_icmp_ne (tgt := 657) hx hb (by omega) (by omega) dL_law_592 (by decide) (fun c_4 => ?_) (fun c_4 => ?_)
        · exact absurd rfl c_4
        · refine lv_iload hx hb dL_law_595 (lv_at hl 0 rfl) ?_
          refine nv_if_ge (tgt := 610) hx hb (by omega) dL_law_597 (by decide) ?_
          refine lv_iload hx hb dL_law_610 (lv_at hl 0 rfl) ?_
          refine nv_if_lt (tgt := 740) hx hb (by omega) dL_law_612 (by decide) ?_
          refine lv_aload_n hx hb dL_law_615 rfl (lv_at hl 2 rfl) ?_
          refine lv_iload hx hb dL_law_616 (lv_at hl 16 rfl) ?_
          refine va_calli (va_runV (As := [.int (nI co)]) (rest := []) ⟨hx, hb, hml, hown, hts⟩ (n_pairs l hst D cI cZ cO ad n np (nq + 1) F2 co hJ (by omega)) (cwV 1 hts gL_law_X0_pairs rfl rfl rfl (by decide +kernel) ⟨Nat.le_trans (Nat.le_of_ble_eq_true rfl) hRf, Nat.le_trans (Nat.le_of_ble_eq_true rfl) hRl⟩) (prG_V hG hK (hE.1.at hS sub_id sub_no) EnvG_c) rfl rfl hl.1 rfl (lv_room (Nat.le_of_ble_eq_true rfl)) dL_law_618 ⟨by omega, by omega⟩) hS (fun _ _ h => h.elim) (fun _ h => h.elim) (fun r_7 _ t H1 locs ht hvm hw hB hz hk hS => ?_)
          have hG := hG.kept hk
          have h_z := h_z.kept (hk _ h_z.lt id)
          have h_pqo := h_pqo.kept (hk _ h_pqo.lt id)
          have h_pq := fun (i : Nat) (hi : i < np) => (h_pq i hi).kept (hk _ (h_pq i hi).lt id)
          obtain rfl := hw
          refine lv_iload hx hb dL_law_621 (lv_at hl 17 rfl) ?_
          refine lv_iconst (v := nI 1) hx hb dL_law_623 (by decide) ?_
          refine nv_isub hx hb (by omega) dL_law_624 ?_
          refine nv_icmp_ne (tgt := 657) hx hb (by omega) (by omega) dL_law_625 (by decide) (fun c_8 => ?_) (fun c_8 => ?_)
          · exfalso; omega
          · refine lv_aload_n hx hb dL_law_628 rfl (lv_at hl 2 rfl) ?_
            refine lv_iload hx hb dL_law_629 (lv_at hl 0 rfl) ?_
            refine lv_iconst (v := nI 0) hx hb dL_law_631 (by decide) ?_
            refine va_calli (va_runV (As := [.int (nI nq), .int (nI 0)]) (rest := []) ⟨hx, hb, hml, hown, hts⟩ (n_pair l hst D cI cZ cO ad n np (nq + 1) F2 nq 0 hJ (by omega) (by omega)) (cwV 2 hts gL_law_X0_pair rfl rfl rfl (by decide +kernel) ⟨Nat.le_trans (Nat.le_of_ble_eq_true rfl) hRf, Nat.le_trans (Nat.le_of_ble_eq_true rfl) hRl⟩) (prG_V hG hK (hE.1.at hS sub_id sub_no) EnvG_c) rfl rfl hl.1 rfl (lv_room (Nat.le_of_ble_eq_true rfl)) dL_law_632 ⟨by omega, by omega⟩) hS (fun _ _ h => h.elim) (fun _ h => h.elim) (fun r_9 _ t H1 locs ht hvm hw hB hz hk hS => ?_)
            have hG := hG.kept hk
            have h_z := h_z.kept (hk _ h_z.lt id)
            have h_pqo := h_pqo.kept (hk _ h_pqo.lt id)
            have h_pq := fun (i : Nat) (hi : i < np) => (h_pq i hi).kept (hk _ (h_pq i hi).lt id)
            obtain rfl := hw
            rw [(show prT F2 nq 0 = F2 8 nq from rfl)]
            rw [q8]
            refine lv_iload hx hb dL_law_635 (lv_at hl 16 rfl) ?_
            refine nv_icmp_ne (tgt := 657) hx hb (by omega) (by omega) dL_law_637 (by decide) (fun c_10 => ?_) (fun c_10 => ?_)
            · exact absurd rfl c_10
            · refine lv_aload_n hx hb dL_law_640 rfl (lv_at hl 2 rfl) ?_
              refine lv_aload_n hx hb dL_law_641 rfl (lv_at hl 2 rfl) ?_
              refine lv_iload hx hb dL_law_642 (lv_at hl 0 rfl) ?_
              refine lv_iconst (v := nI 1) hx hb dL_law_644 (by decide) ?_
              refine va_calli (va_runV (As := [.int (nI nq), .int (nI 1)]) (rest := [.ref (ad 0)]) ⟨hx, hb, hml, hown, hts⟩ (n_pair l hst D cI cZ cO ad n np (nq + 1) F2 nq 1 hJ (by omega) (by omega)) (cwV 2 hts gL_law_X0_pair rfl rfl rfl (by decide +kernel) ⟨Nat.le_trans (Nat.le_of_ble_eq_true rfl) hRf, Nat.le_trans (Nat.le_of_ble_eq_true rfl) hRl⟩) (prG_V hG hK (hE.1.at hS sub_id sub_no) EnvG_c) rfl rfl hl.1 rfl (lv_room (Nat.le_of_ble_eq_true rfl)) dL_law_645 ⟨by omega, by omega⟩) hS (fun _ _ h => h.elim) (fun _ h => h.elim) (fun r_11 _ t H1 locs ht hvm hw hB hz hk hS => ?_)
              have hG := hG.kept hk
              have h_z := h_z.kept (hk _ h_z.lt id)
              have h_pqo := h_pqo.kept (hk _ h_pqo.lt id)
              have h_pq := fun (i : Nat) (hi : i < np) => (h_pq i hi).kept (hk _ (h_pq i hi).lt id)
              obtain rfl := hw
              rw [(show prT F2 nq 1 = F2 9 nq from rfl)]
              rw [q9]
              refine lv_iconst (v := nI 0) hx hb dL_law_648 (by decide) ?_
              refine va_calli (va_runV (As := [.int (nI t9), .int (nI 0)]) (rest := []) ⟨hx, hb, hml, hown, hts⟩ (n_skin l hst D cI cZ cO ad n np (nq + 1) F2 t9 0 hJ (by omega) (by omega)) (cwV 2 hts gL_law_X0_skin rfl rfl rfl (by decide +kernel) ⟨Nat.le_trans (Nat.le_of_ble_eq_true rfl) hRf, Nat.le_trans (Nat.le_of_ble_eq_true rfl) hRl⟩) (prG_V hG hK (hE.1.at hS sub_id sub_no) EnvG_c) rfl rfl hl.1 rfl (lv_room (Nat.le_of_ble_eq_true rfl)) dL_law_649 ⟨by omega, by omega⟩) hS (fun _ _ h => h.elim) (fun _ h => h.elim) (fun r_12 _ t H1 locs ht hvm hw hB hz hk hS => ?_)
              have hG := hG.kept hk
              have h_z := h_z.kept (hk _ h_z.lt id)
              have h_pqo := h_pqo.kept (hk _ h_pqo.lt id)
              have h_pq := fun (i : Nat) (hi : i < np) => (h_pq i hi).kept (hk _ (h_pq i hi).lt id)
              obtain rfl := hw
              rw [sk_0 F2 t9]
              rw [q1]
              refine lv_iload hx hb dL_law_652 (lv_at hl 16 rfl) ?_
              refine nv_icmp_eq (tgt := 740) hx hb (by omega) (by omega) dL_law_654 (by decide) (fun c_13 => ?_) (fun c_13 => ?_)
              · exact kk740 np (nq + 1) F2 _ _ _ _ _ (by omega) (by omega) (by omega) (rel_g hg hrel) hJ hG h_z h_pqo h_pq hS (lv_sub hl [1, 2, 3, 4, 5, 7, 18] rfl)
              · exact absurd rfl c_13
  · have hok : okSew F n np nq co = false := by
      unfold okSew
      cases hq : canS F n np (nI co)
      · rfl
      · exact absurd (hcp.mp hq) (by omega)
    refine lv_aload_n hx hb dL_law_564 rfl (lv_at hl 1 rfl) ?_
    refine lv_iload hx hb dL_law_565 (lv_at hl 15 rfl) ?_
    refine va_calli (vx_runSW (As := [.ref (ad 0), .int (nI co)]) (rest := []) ⟨hx, hb, hml, hown, hts⟩ (c_L_sew l hst D cI cZ cO ad n np nq F co hinj hJ (by omega)) (vx_cwSW 2 hts gL_law_L_sew rfl rfl rfl (by decide +kernel) ⟨Nat.le_trans (Nat.le_of_ble_eq_true rfl) hRf, Nat.le_trans (Nat.le_of_ble_eq_true rfl) hRl⟩) (prG_S hG hK (hE.at hS sub_id hAG) EnvL_c) rfl rfl hl.1 rfl (lv_room (Nat.le_of_ble_eq_true rfl)) dL_law_567 ⟨by omega, by omega⟩) hS (fun q _ h => hAG q h) (fun q h => hAG q h) (fun r_14 _ t H1 locs ht hvm hw hB hz hk hS => ?_)
    rw [ht] at hB
    have h_z := h_z.kept (hk _ h_z.lt (nin hadz (by omega)))
    have h_pqo := h_pqo.kept (hk _ h_pqo.lt (nin hadz (by omega)))
    have h_pq := fun (i : Nat) (hi : i < np) => (h_pq i hi).kept (hk _ (h_pq i hi).lt (nin hadz (by omega)))
    rw [hok, if_neg Bool.false_ne_true] at hw
    obtain rfl := hw
    have hG := hB.elim (fun h => absurd (hok.symm.trans h.1) (by decide)) (fun h => h.2)
    refine lv_istore (lv' := [(20, .int (-1)), (0, .ref b), (1, .ref (ad 0)), (2, .int (nI n)), (3, .ref z), (4, .int (nI tm)), (5, .int v), (6, .int (nI np)), (7, .int (nI nq)), (8, .int (nI (pAt F np (-2)))), (9, .int (nI sk)), (10, .int (nI kd)), (11, .int (bI tb)), (12, .long (dG n np nq F)), (14, .int (nI (gvT F kd tb sk))), (16, .int pl), (17, .int (nI co)), (18, .int (nI (prN F n np (nI co) 3))), (19, .ref pq)]) hx hb dL_law_570 hl (by decide) rfl (fun ls hl => ?_)
    refine lv_iload hx hb dL_law_572 (lv_at hl 0 rfl) ?_
    refine lv_iload hx hb dL_law_574 (lv_at hl 17 rfl) ?_
    refine nv_if_le (tgt := 591) hx hb (by omega) dL_law_576 (by decide) (fun c_15 => ?_) (fun c_15 => ?_)
    · refine lv_iconst (v := -1) hx hb dL_law_591 (by decide) ?_
      refine lv_icmp_ne (tgt := 657) hx hb dL_law_592 (by decide) (fun c_16 => ?_) (fun c_16 => ?_)
      · exact absurd rfl c_16
      · refine lv_iload hx hb dL_law_595 (lv_at hl 0 rfl) ?_
        refine lv_if_ge (tgt := 610) hx hb dL_law_597 (by decide) (fun c_17 => ?_) (fun c_17 => ?_)
        · exact absurd c_17 (by decide)
        · refine lv_aload_n hx hb dL_law_600 rfl (lv_at hl 2 rfl) ?_
          refine va_calll (va_runV (As := []) (rest := []) ⟨hx, hb, hml, hown, hts⟩ (n_digest l hst D cI cZ cO ad n np nq F  hJ) (cwV 0 hts gL_law_X0_digest rfl rfl rfl (by decide +kernel) ⟨Nat.le_trans (Nat.le_of_ble_eq_true rfl) hRf, Nat.le_trans (Nat.le_of_ble_eq_true rfl) hRl⟩) (prG_V hG hK V0_at V0_c) rfl rfl hl.1 rfl (lv_room (Nat.le_of_ble_eq_true rfl)) dL_law_601 ⟨by omega, by omega⟩) hS (fun _ _ h => h.elim) (fun _ h => h.elim) (fun r_18 _ t H1 locs ht hvm hw hB hz hk hS => ?_)
          have hG := hG.kept hk
          have h_z := h_z.kept (hk _ h_z.lt id)
          have h_pqo := h_pqo.kept (hk _ h_pqo.lt id)
          have h_pq := fun (i : Nat) (hi : i < np) => (h_pq i hi).kept (hk _ (h_pq i hi).lt id)
          obtain rfl := hw
          refine lv_lload hx hb dL_law_604 (lv_at hl 13 rfl) ?_
          refine lv_lcmpN hx hb dL_law_606 ?_
          refine nv_if_ne (tgt := 657) hx hb (by omega) dL_law_607 (by decide) (fun h9 => absurd h9 (by decide)) (fun _ => ?_)
          refine lv_iload hx hb dL_law_610 (lv_at hl 0 rfl) ?_
          refine lv_if_lt (tgt := 740) hx hb dL_law_612 (by decide) (fun c_20 => ?_) (fun c_20 => ?_)
          · exact kk740 np nq F _ _ _ _ _ (by omega) (by omega) (by omega) (rel_g hg (Rel_refl np F)) hJ hG h_z h_pqo h_pq hS (lv_sub hl [1, 2, 3, 4, 5, 7, 18] rfl)
          · exact absurd (by decide) c_20
    · exfalso; omega
  · have hok : okSew F n np nq co = false := by unfold okSew; rw [decide_eq_false (Nat.not_lt.mpr hA2), Bool.and_false]
    refine lv_aload_n hx hb dL_law_564 rfl (lv_at hl 1 rfl) ?_
    refine lv_iload hx hb dL_law_565 (lv_at hl 15 rfl) ?_
    refine va_calli (vx_runSW (As := [.ref (ad 0), .int (nI co)]) (rest := []) ⟨hx, hb, hml, hown, hts⟩ (c_L_sew l hst D cI cZ cO ad n np nq F co hinj hJ (by omega)) (vx_cwSW 2 hts gL_law_L_sew rfl rfl rfl (by decide +kernel) ⟨Nat.le_trans (Nat.le_of_ble_eq_true rfl) hRf, Nat.le_trans (Nat.le_of_ble_eq_true rfl) hRl⟩) (prG_S hG hK (hE.at hS sub_id hAG) EnvL_c) rfl rfl hl.1 rfl (lv_room (Nat.le_of_ble_eq_true rfl)) dL_law_567 ⟨by omega, by omega⟩) hS (fun q _ h => hAG q h) (fun q h => hAG q h) (fun r_21 _ t H1 locs ht hvm hw hB hz hk hS => ?_)
    rw [ht] at hB
    have h_z := h_z.kept (hk _ h_z.lt (nin hadz (by omega)))
    have h_pqo := h_pqo.kept (hk _ h_pqo.lt (nin hadz (by omega)))
    have h_pq := fun (i : Nat) (hi : i < np) => (h_pq i hi).kept (hk _ (h_pq i hi).lt (nin hadz (by omega)))
    rw [hok, if_neg Bool.false_ne_true] at hw
    obtain rfl := hw
    have hG := hB.elim (fun h => absurd (hok.symm.trans h.1) (by decide)) (fun h => h.2)
    refine lv_istore (lv' := [(20, .int (-1)), (0, .ref b), (1, .ref (ad 0)), (2, .int (nI n)), (3, .ref z), (4, .int (nI tm)), (5, .int v), (6, .int (nI np)), (7, .int (nI nq)), (8, .int (nI (pAt F np (-2)))), (9, .int (nI sk)), (10, .int (nI kd)), (11, .int (bI tb)), (12, .long (dG n np nq F)), (14, .int (nI (gvT F kd tb sk))), (16, .int pl), (17, .int (nI co)), (18, .int (nI (prN F n np (nI co) 3))), (19, .ref pq)]) hx hb dL_law_570 hl (by decide) rfl (fun ls hl => ?_)
    refine lv_iload hx hb dL_law_572 (lv_at hl 0 rfl) ?_
    refine lv_iload hx hb dL_law_574 (lv_at hl 17 rfl) ?_
    refine nv_if_le (tgt := 591) hx hb (by omega) dL_law_576 (by decide) (fun c_22 => ?_) (fun c_22 => ?_)
    · exfalso; omega
    · refine lv_iload hx hb dL_law_579 (lv_at hl 8 rfl) ?_
      refine lv_bipush (v := nI 20) hx hb dL_law_581 (by decide) ?_
      refine nv_icmp_ge (tgt := 591) hx hb (by omega) (by omega) dL_law_583 (by decide) (fun c_23 => ?_) (fun c_23 => ?_)
      · refine lv_iconst (v := -1) hx hb dL_law_591 (by decide) ?_
        refine lv_icmp_ne (tgt := 657) hx hb dL_law_592 (by decide) (fun c_24 => ?_) (fun c_24 => ?_)
        · exact absurd rfl c_24
        · refine lv_iload hx hb dL_law_595 (lv_at hl 0 rfl) ?_
          refine lv_if_ge (tgt := 610) hx hb dL_law_597 (by decide) (fun c_25 => ?_) (fun c_25 => ?_)
          · exact absurd c_25 (by decide)
          · refine lv_aload_n hx hb dL_law_600 rfl (lv_at hl 2 rfl) ?_
            refine va_calll (va_runV (As := []) (rest := []) ⟨hx, hb, hml, hown, hts⟩ (n_digest l hst D cI cZ cO ad n np nq F  hJ) (cwV 0 hts gL_law_X0_digest rfl rfl rfl (by decide +kernel) ⟨Nat.le_trans (Nat.le_of_ble_eq_true rfl) hRf, Nat.le_trans (Nat.le_of_ble_eq_true rfl) hRl⟩) (prG_V hG hK V0_at V0_c) rfl rfl hl.1 rfl (lv_room (Nat.le_of_ble_eq_true rfl)) dL_law_601 ⟨by omega, by omega⟩) hS (fun _ _ h => h.elim) (fun _ h => h.elim) (fun r_26 _ t H1 locs ht hvm hw hB hz hk hS => ?_)
            have hG := hG.kept hk
            have h_z := h_z.kept (hk _ h_z.lt id)
            have h_pqo := h_pqo.kept (hk _ h_pqo.lt id)
            have h_pq := fun (i : Nat) (hi : i < np) => (h_pq i hi).kept (hk _ (h_pq i hi).lt id)
            obtain rfl := hw
            refine lv_lload hx hb dL_law_604 (lv_at hl 13 rfl) ?_
            refine lv_lcmpN hx hb dL_law_606 ?_
            refine nv_if_ne (tgt := 657) hx hb (by omega) dL_law_607 (by decide) (fun h9 => absurd h9 (by decide)) (fun _ => ?_)
            refine lv_iload hx hb dL_law_610 (lv_at hl 0 rfl) ?_
            refine lv_if_lt (tgt := 740) hx hb dL_law_612 (by decide) (fun c_28 => ?_) (fun c_28 => ?_)
            · exact kk740 np nq F _ _ _ _ _ (by omega) (by omega) (by omega) (rel_g hg (Rel_refl np F)) hJ hG h_z h_pqo h_pq hS (lv_sub hl [1, 2, 3, 4, 5, 7, 18] rfl)
            · exact absurd (by decide) c_28
      · exfalso; omega
set_option maxHeartbeats 4000000 in
set_option maxRecDepth 100000 in
/-- a pair is ripped up -/
theorem sg_3c {p : Program} {l : Launch} {e : Env} {R : Room} {s : State} {m : MethodId} {args : Array Value} {below : List Frame} {meth : Method} {c : Code} {Q : State → Prop} {D : va_G} {cI cZ cO : ClassId} {ad : Nat → Nat} {b L : Nat} {xs : Nat → Int32} (hst : l.stackTraces = false) (hCx : LC cL_law 29 wsL_law p s m c args R D cI cZ cO b L xs) (hAD : inj ad 23 ∧ ∀ i, i ≤ 23 → s.heap.size ≤ ad i) (n np nq : Nat) (F : Nat → Nat → Int32) (z : Nat) (szf : Nat → Int32) (tm : Nat) (v : Int32) (sk kd co : Nat) (tb : Bool) (pl : Int32) (pq : Nat) (g9 : Nat → Nat → Int32) (hadz : ∀ i, i ≤ 23 → ad i < z) (hzA : s.heap.size ≤ z) (hsz : ∀ k, k < 4 → szf k = nI (kz k)) (htm : tm < 24) (hn1 : 1 ≤ n) (hsk : sk < n) (hkd : kd < 4) (hco : co < 4) (hzp : z < pq) (hg : ∀ p, p < np → ∀ w, w < 4 → g9 p w = pcT F p w) (hJ : J n np nq F) (cc ss : Nat) (H1 : Heap) (locs : List Loc) (ls : Array Slot) (hRc : cc + 60 ≤ R.cells) (hRs : ss + 600 ≤ R.slots) (hG : GW D cI cZ cO ad n np nq F H1) (h_z : ar cI z 4 szf H1) (h_pqo : ao cO pq np H1) (h_pq : ∀ i, i < np → ar cI (pq + 1 + i) 4 (g9 i) H1) (hS : va_S (LA s) s.heap H1 locs) (hl : lv_has ls 29 [(0, .ref b), (1, .ref (ad 0)), (2, .int (nI n)), (3, .ref z), (4, .int (nI tm)), (5, .int v), (6, .int (nI np)), (7, .int (nI nq)), (8, .int (nI (pAt F np (-2)))), (9, .int (nI sk)), (10, .int (nI kd)), (11, .int (bI tb)), (12, .long (dG n np nq F)), (14, .int (nI (gvT F kd tb sk))), (16, .int pl), (17, .int (nI co)), (18, .int (nI (prN F n np (nI co) 3))), (19, .ref pq)]) (kk740 : ∀ (np2 : Nat) (nq2 : Nat) (F2 : Nat → Nat → Int32) (cc' ss' : Nat) (H1 : Heap) (locs : List Loc) (ls : Array Slot), cc' ≤ cc + 60 → ss' ≤ ss + 600 → (np ≤ np2) → (∀ p, p < np → g9 p 0 = F2 4 p ∧ g9 p 1 = F2 5 p ∧ g9 p 3 = F2 7 p ∧ (g9 p 2 = -2 → F2 6 p = -2)) → J n np2 nq2 F2 → GW D cI cZ cO ad n np2 nq2 F2 H1 → (ar cI z 4 szf H1) → (ao cO pq np H1) → (∀ i, i < np → ar cI (pq + 1 + i) 4 (g9 i) H1) → va_S (LA s) s.heap H1 locs → lv_has ls 29 [(0, .ref b), (1, .ref (ad 0)), (2, .int (nI n)), (3, .ref z), (4, .int (nI tm)), (6, .int (nI np)), (19, .ref pq)] → W p l e R s m args below meth c H1 locs cc' ss' Q (F0 m 740 ls [])) : W p l e R s m args below meth c H1 locs cc ss Q (F0 m 659 ls []) := by
  obtain ⟨hx, hb, hml, hown, hts, hK, hX, hbl, hL, hAO, hE, hRf, hRl⟩ := id hCx
  obtain ⟨hinj, hLA⟩ := id hAD
  have hbA : ¬ LA s b := Nat.not_le.mpr hbl
  have hAG : ∀ q, inA ad 23 q → LA s q := fun q ⟨i, hi, e⟩ => e ▸ hLA i hi
  obtain ⟨hn9, hnp9, hnq9, hsk9, hrip9, -⟩ := id hJ.inv
  have hpa := pAt_le F np (-2)
  have hpb := pAt_le F np (-1)
  have hpu := pUse_le F nq
  refine lv_iload hx hb dL_law_659 (lv_at hl 7 rfl) ?_
  refine nv_if_ne (tgt := 667) hx hb (by omega) dL_law_661 (by decide) (fun c_1 => ?_) (fun c_1 => ?_)
  · refine lv_iload hx hb dL_law_667 (lv_at hl 5 rfl) ?_
    refine lv_iconst (v := nI 2) hx hb dL_law_669 (by decide) ?_
    refine lv_ishr hx hb dL_law_670 ?_
    refine lv_topi (fun v_2 ev_2 => ?_)
    refine lv_iload hx hb dL_law_671 (lv_at hl 7 rfl) ?_
    refine va_calli (va_runS (As := [.int v_2, .int (nI nq)]) (rest := []) ⟨hx, hb, hml, hown, hts⟩ (c_L_below l D v_2 nq (by omega) (by omega)) (va_cwS 2 hts gL_law_L_below rfl rfl rfl (by decide +kernel) ⟨Nat.le_trans (Nat.le_of_ble_eq_true rfl) hRf, Nat.le_trans (Nat.le_of_ble_eq_true rfl) hRl⟩) (pr_S P_nil hK [] rfl V0_at V0_c) rfl rfl hl.1 rfl (lv_room (Nat.le_of_ble_eq_true rfl)) dL_law_673 ⟨by omega, by omega⟩) hS (fun _ _ h => h.elim) (fun _ h => h.elim) (fun r_3 _ t H1 locs ht hvm hw hB hz hk hS => ?_)
    obtain ⟨q9, hq9, rfl⟩ := hw
    have hG := hG.kept hk
    have h_z := h_z.kept (hk _ h_z.lt id)
    have h_pqo := h_pqo.kept (hk _ h_pqo.lt id)
    have h_pq := fun (i : Nat) (hi : i < np) => (h_pq i hi).kept (hk _ (h_pq i hi).lt id)
    refine lv_istore (lv' := [(20, .int (nI q9)), (0, .ref b), (1, .ref (ad 0)), (2, .int (nI n)), (3, .ref z), (4, .int (nI tm)), (5, .int v), (6, .int (nI np)), (7, .int (nI nq)), (8, .int (nI (pAt F np (-2)))), (9, .int (nI sk)), (10, .int (nI kd)), (11, .int (bI tb)), (12, .long (dG n np nq F)), (14, .int (nI (gvT F kd tb sk))), (16, .int pl), (17, .int (nI co)), (18, .int (nI (prN F n np (nI co) 3))), (19, .ref pq)]) hx hb dL_law_676 hl (by decide) rfl (fun ls hl => ?_)
    refine lv_aload_n hx hb dL_law_678 rfl (lv_at hl 2 rfl) ?_
    refine lv_iload hx hb dL_law_679 (lv_at hl 0 rfl) ?_
    refine lv_iconst (v := nI 4) hx hb dL_law_681 (by decide) ?_
    refine va_calli (va_runV (As := [.int (nI q9), .int (nI 4)]) (rest := []) ⟨hx, hb, hml, hown, hts⟩ (n_pair l hst D cI cZ cO ad n np nq F q9 4 hJ (by omega) (by omega)) (cwV 2 hts gL_law_X0_pair rfl rfl rfl (by decide +kernel) ⟨Nat.le_trans (Nat.le_of_ble_eq_true rfl) hRf, Nat.le_trans (Nat.le_of_ble_eq_true rfl) hRl⟩) (prG_V hG hK (hE.1.at hS sub_id sub_no) EnvG_c) rfl rfl hl.1 rfl (lv_room (Nat.le_of_ble_eq_true rfl)) dL_law_682 ⟨by omega, by omega⟩) hS (fun _ _ h => h.elim) (fun _ h => h.elim) (fun r_4 _ t H1 locs ht hvm hw hB hz hk hS => ?_)
    have hG := hG.kept hk
    have h_z := h_z.kept (hk _ h_z.lt id)
    have h_pqo := h_pqo.kept (hk _ h_pqo.lt id)
    have h_pq := fun (i : Nat) (hi : i < np) => (h_pq i hi).kept (hk _ (h_pq i hi).lt id)
    obtain rfl := hw
    rw [(show prT F q9 4 = F 12 q9 from rfl)]
    rcases hrip9 q9 hq9 with e12 | e12
    · rw [show F 12 q9 = nI 0 from e12]
      have hok : okRip F nq q9 = true := by unfold okRip; rw [decide_eq_true hq9, e12]; rfl
      refine lv_iconst (v := nI 1) hx hb dL_law_685 (by decide) ?_
      refine nv_icmp_ne (tgt := 693) hx hb (by omega) (by omega) dL_law_686 (by decide) (fun _ => ?_) (fun h9 => absurd h9 (by decide))
      refine lv_iconst (v := nI 0) hx hb dL_law_693 (by decide) ?_
      refine lv_istore (lv' := [(21, .int (nI 0)), (20, .int (nI q9)), (0, .ref b), (1, .ref (ad 0)), (2, .int (nI n)), (3, .ref z), (4, .int (nI tm)), (5, .int v), (6, .int (nI np)), (7, .int (nI nq)), (8, .int (nI (pAt F np (-2)))), (9, .int (nI sk)), (10, .int (nI kd)), (11, .int (bI tb)), (12, .long (dG n np nq F)), (14, .int (nI (gvT F kd tb sk))), (16, .int pl), (17, .int (nI co)), (18, .int (nI (prN F n np (nI co) 3))), (19, .ref pq)]) hx hb dL_law_694 hl (by decide) rfl (fun ls hl => ?_)
      refine lv_aload_n hx hb dL_law_696 rfl (lv_at hl 3 rfl) ?_
      refine lv_iload hx hb dL_law_697 (lv_at hl 1 rfl) ?_
      refine va_calli (vx_runSW (As := [.ref (ad 0), .int (nI q9)]) (rest := []) ⟨hx, hb, hml, hown, hts⟩ (c_L_rip l hst D cI cZ cO ad n np nq F q9 hinj hJ (by omega)) (vx_cwSW 2 hts gL_law_L_rip rfl rfl rfl (by decide +kernel) ⟨Nat.le_trans (Nat.le_of_ble_eq_true rfl) hRf, Nat.le_trans (Nat.le_of_ble_eq_true rfl) hRl⟩) (prG_S hG hK (hE.at hS sub_id hAG) EnvL_c) rfl rfl hl.1 rfl (lv_room (Nat.le_of_ble_eq_true rfl)) dL_law_699 ⟨by omega, by omega⟩) hS (fun q _ h => hAG q h) (fun q h => hAG q h) (fun r_6 _ t H1 locs ht hvm hw hB hz hk hS => ?_)
      rw [ht] at hB
      have h_z := h_z.kept (hk _ h_z.lt (nin hadz (by omega)))
      have h_pqo := h_pqo.kept (hk _ h_pqo.lt (nin hadz (by omega)))
      have h_pq := fun (i : Nat) (hi : i < np) => (h_pq i hi).kept (hk _ (h_pq i hi).lt (nin hadz (by omega)))
      rw [hok, if_pos rfl] at hw
      rw [rip_8 hJ hq9 e12] at hw
      obtain rfl := hw
      obtain ⟨u9, hG⟩ := hB.elim (fun h => h.2) (fun h => absurd (hok.symm.trans h.1) (by decide))
      obtain ⟨F2, eF2⟩ : ∃ z, z = ripF (va_up F 13 u9) np q9 := ⟨_, rfl⟩
      rw [← eF2] at hG
      obtain ⟨hJ2, hrel, qL⟩ := rip_law hJ hq9 e12 eF2
      have hJ0 := hJ
      have hJ := hJ2
      have hnp9 := hJ2.inv.2.1
      have hnq9 := hJ2.inv.2.2.1
      have hpa2 := pAt_le F2 np (-2)
      refine lv_iload hx hb dL_law_702 (lv_at hl 0 rfl) ?_
      refine nv_if_eq (tgt := 711) hx hb (by omega) dL_law_704 (by decide) (fun _ => ?_) (fun h9 => absurd h9 (by decide))
      refine lv_bipush (v := nI 8) hx hb dL_law_711 (by decide) ?_
      refine nv_icmp_ne (tgt := 738) hx hb (by omega) (by omega) dL_law_713 (by decide) (fun h9 => absurd h9 (by decide)) (fun _ => ?_)
      refine lv_aload_n hx hb dL_law_716 rfl (lv_at hl 3 rfl) ?_
      refine lv_iconst (v := nI 4) hx hb dL_law_717 (by decide) ?_
      refine va_calli (va_runV (As := [.int (nI 4)]) (rest := []) ⟨hx, hb, hml, hown, hts⟩ (n_count l hst D cI cZ cO ad n np nq F2 4 hJ (by decide)) (cwV 1 hts gL_law_X0_count rfl rfl rfl (by decide +kernel) ⟨Nat.le_trans (Nat.le_of_ble_eq_true rfl) hRf, Nat.le_trans (Nat.le_of_ble_eq_true rfl) hRl⟩) (prG_V hG hK (hE.1.at hS sub_id sub_no) EnvG_c) rfl rfl hl.1 rfl (lv_room (Nat.le_of_ble_eq_true rfl)) dL_law_718 ⟨by omega, by omega⟩) hS (fun _ _ h => h.elim) (fun _ h => h.elim) (fun r_9 _ t H1 locs ht hvm hw hB hz hk hS => ?_)
      have hG := hG.kept hk
      have h_z := h_z.kept (hk _ h_z.lt id)
      have h_pqo := h_pqo.kept (hk _ h_pqo.lt id)
      have h_pq := fun (i : Nat) (hi : i < np) => (h_pq i hi).kept (hk _ (h_pq i hi).lt id)
      obtain rfl : r_9 = nI (pAt F2 np (-2)) := hw
      refine lv_iload hx hb dL_law_721 (lv_at hl 10 rfl) ?_
      refine lv_iload hx hb dL_law_723 (lv_at hl 0 rfl) ?_
      refine nv_if_eq (tgt := 732) hx hb (by omega) dL_law_725 (by decide) (fun _ => ?_) (fun h9 => absurd h9 (by decide))
      refine lv_bipush (v := nI 6) hx hb dL_law_732 (by decide) ?_
      refine nv_iadd hx hb dL_law_734 ?_
      refine nv_icmp_eq (tgt := 740) hx hb (by omega) (by omega) dL_law_735 (by decide) (fun c_11 => ?_) (fun c_11 => ?_)
      · exact kk740 np nq F2 _ _ _ _ _ (by omega) (by omega) (by omega) (rel_g hg hrel) hJ hG h_z h_pqo h_pq hS (lv_sub hl [2, 3, 4, 5, 6, 8, 19] rfl)
      · exfalso; omega
    · rw [show F 12 q9 = nI 1 from e12]
      have hok : okRip F nq q9 = false := by unfold okRip; rw [decide_eq_true hq9, e12]; rfl
      refine lv_iconst (v := nI 1) hx hb dL_law_685 (by decide) ?_
      refine nv_icmp_ne (tgt := 693) hx hb (by omega) (by omega) dL_law_686 (by decide) (fun h9 => absurd h9 (by decide)) (fun _ => ?_)
      refine lv_iconst (v := nI 1) hx hb dL_law_689 (by decide) ?_
      refine lv_goto (tgt := 694) hx hb dL_law_690 (by decide) ?_
      refine lv_istore (lv' := [(21, .int (nI 1)), (20, .int (nI q9)), (0, .ref b), (1, .ref (ad 0)), (2, .int (nI n)), (3, .ref z), (4, .int (nI tm)), (5, .int v), (6, .int (nI np)), (7, .int (nI nq)), (8, .int (nI (pAt F np (-2)))), (9, .int (nI sk)), (10, .int (nI kd)), (11, .int (bI tb)), (12, .long (dG n np nq F)), (14, .int (nI (gvT F kd tb sk))), (16, .int pl), (17, .int (nI co)), (18, .int (nI (prN F n np (nI co) 3))), (19, .ref pq)]) hx hb dL_law_694 hl (by decide) rfl (fun ls hl => ?_)
      refine lv_aload_n hx hb dL_law_696 rfl (lv_at hl 3 rfl) ?_
      refine lv_iload hx hb dL_law_697 (lv_at hl 1 rfl) ?_
      refine va_calli (vx_runSW (As := [.ref (ad 0), .int (nI q9)]) (rest := []) ⟨hx, hb, hml, hown, hts⟩ (c_L_rip l hst D cI cZ cO ad n np nq F q9 hinj hJ (by omega)) (vx_cwSW 2 hts gL_law_L_rip rfl rfl rfl (by decide +kernel) ⟨Nat.le_trans (Nat.le_of_ble_eq_true rfl) hRf, Nat.le_trans (Nat.le_of_ble_eq_true rfl) hRl⟩) (prG_S hG hK (hE.at hS sub_id hAG) EnvL_c) rfl rfl hl.1 rfl (lv_room (Nat.le_of_ble_eq_true rfl)) dL_law_699 ⟨by omega, by omega⟩) hS (fun q _ h => hAG q h) (fun q h => hAG q h) (fun r_13 _ t H1 locs ht hvm hw hB hz hk hS => ?_)
      rw [ht] at hB
      have h_z := h_z.kept (hk _ h_z.lt (nin hadz (by omega)))
      have h_pqo := h_pqo.kept (hk _ h_pqo.lt (nin hadz (by omega)))
      have h_pq := fun (i : Nat) (hi : i < np) => (h_pq i hi).kept (hk _ (h_pq i hi).lt (nin hadz (by omega)))
      rw [hok, if_neg Bool.false_ne_true] at hw
      obtain rfl := hw
      have hG := hB.elim (fun h => absurd (hok.symm.trans h.1) (by decide)) (fun h => h.2)
      refine lv_iload hx hb dL_law_702 (lv_at hl 0 rfl) ?_
      refine nv_if_eq (tgt := 711) hx hb (by omega) dL_law_704 (by decide) (fun h9 => absurd h9 (by decide)) (fun _ => ?_)
      refine lv_iconst (v := -1) hx hb dL_law_707 (by decide) ?_
      refine lv_goto (tgt := 713) hx hb dL_law_708 (by decide) ?_
      refine lv_icmp_ne (tgt := 738) hx hb dL_law_713 (by decide) (fun c_15 => ?_) (fun c_15 => ?_)
      · exact absurd rfl c_15
      · refine lv_aload_n hx hb dL_law_716 rfl (lv_at hl 3 rfl) ?_
        refine lv_iconst (v := nI 4) hx hb dL_law_717 (by decide) ?_
        refine va_calli (va_runV (As := [.int (nI 4)]) (rest := []) ⟨hx, hb, hml, hown, hts⟩ (n_count l hst D cI cZ cO ad n np nq F 4 hJ (by decide)) (cwV 1 hts gL_law_X0_count rfl rfl rfl (by decide +kernel) ⟨Nat.le_trans (Nat.le_of_ble_eq_true rfl) hRf, Nat.le_trans (Nat.le_of_ble_eq_true rfl) hRl⟩) (prG_V hG hK (hE.1.at hS sub_id sub_no) EnvG_c) rfl rfl hl.1 rfl (lv_room (Nat.le_of_ble_eq_true rfl)) dL_law_718 ⟨by omega, by omega⟩) hS (fun _ _ h => h.elim) (fun _ h => h.elim) (fun r_16 _ t H1 locs ht hvm hw hB hz hk hS => ?_)
        have hG := hG.kept hk
        have h_z := h_z.kept (hk _ h_z.lt id)
        have h_pqo := h_pqo.kept (hk _ h_pqo.lt id)
        have h_pq := fun (i : Nat) (hi : i < np) => (h_pq i hi).kept (hk _ (h_pq i hi).lt id)
        obtain rfl : r_16 = nI (pAt F np (-2)) := hw
        refine lv_iload hx hb dL_law_721 (lv_at hl 10 rfl) ?_
        refine lv_iload hx hb dL_law_723 (lv_at hl 0 rfl) ?_
        refine nv_if_eq (tgt := 732) hx hb (by omega) dL_law_725 (by decide) (fun h9 => absurd h9 (by decide)) (fun _ => ?_)
        refine lv_iconst (v := nI 0) hx hb dL_law_728 (by decide) ?_
        refine lv_goto (tgt := 734) hx hb dL_law_729 (by decide) ?_
        refine nv_iadd hx hb dL_law_734 ?_
        refine nv_icmp_eq (tgt := 740) hx hb (by omega) (by omega) dL_law_735 (by decide) (fun c_18 => ?_) (fun c_18 => ?_)
        · exact kk740 np nq F _ _ _ _ _ (by omega) (by omega) (by omega) (rel_g hg (Rel_refl np F)) hJ hG h_z h_pqo h_pq hS (lv_sub hl [2, 3, 4, 5, 6, 8, 19] rfl)
        · exfalso; omega
  · refine lv_goto (tgt := 740) hx hb dL_law_664 (by decide) ?_
    exact kk740 np nq F _ _ _ _ _ (by omega) (by omega) (by omega) (rel_g hg (Rel_refl np F)) hJ hG h_z h_pqo h_pq hS (lv_sub hl [0, 1, 2, 3, 4, 6, 17] rfl)
