set_option maxHeartbeats 4000000 in
set_option maxRecDepth 100000 in
/-- what was told of the pieces stays -/
theorem sg_4 {p : Program} {l : Launch} {e : Env} {R : Room} {s : State} {m : MethodId} {args : Array Value} {below : List Frame} {meth : Method} {c : Code} {Q : State → Prop} {D : va_G} {cI cZ cO : ClassId} {ad : Nat → Nat} {b L : Nat} {xs : Nat → Int32} (hst : l.stackTraces = false) (hCx : LC cL_law 29 wsL_law p s m c args R D cI cZ cO b L xs) (hAD : inj ad 23 ∧ ∀ i, i ≤ 23 → s.heap.size ≤ ad i) (n np nq : Nat) (F : Nat → Nat → Int32) (z : Nat) (szf : Nat → Int32) (tm : Nat) (np0 pq : Nat) (g9 : Nat → Nat → Int32) (hadz : ∀ i, i ≤ 23 → ad i < z) (hzA : s.heap.size ≤ z) (hsz : ∀ k, k < 4 → szf k = nI (kz k)) (htm : tm < 24) (hn1 : 1 ≤ n) (hzp : z < pq) (hnp0 : np0 ≤ np) (hq4 : ∀ p, p < np0 → g9 p 0 = F 4 p ∧ g9 p 1 = F 5 p ∧ g9 p 3 = F 7 p ∧ (g9 p 2 = -2 → F 6 p = -2)) (hJ : J n np nq F) (cc ss : Nat) (H1 : Heap) (locs : List Loc) (ls : Array Slot) (hRc : cc + 3100 ≤ R.cells) (hRs : ss + 19000 ≤ R.slots) (hG : GW D cI cZ cO ad n np nq F H1) (h_z : ar cI z 4 szf H1) (h_pqo : ao cO pq np0 H1) (h_pq : ∀ i, i < np0 → ar cI (pq + 1 + i) 4 (g9 i) H1) (hS : va_S (LA s) s.heap H1 locs) (hl : lv_has ls 29 [(0, .ref b), (1, .ref (ad 0)), (2, .int (nI n)), (3, .ref z), (4, .int (nI tm)), (6, .int (nI np0)), (19, .ref pq)]) (kk856 : ∀ (cc' ss' : Nat) (H1 : Heap) (locs : List Loc) (ls : Array Slot), cc' ≤ cc + 3100 → ss' ≤ ss + 19000 → GW D cI cZ cO ad n np nq F H1 → (ar cI z 4 szf H1) → va_S (LA s) s.heap H1 locs → lv_has ls 29 [(0, .ref b), (1, .ref (ad 0)), (2, .int (nI n)), (3, .ref z), (4, .int (nI tm))] → W p l e R s m args below meth c H1 locs cc' ss' Q (F0 m 856 ls [])) : W p l e R s m args below meth c H1 locs cc ss Q (F0 m 740 ls []) := by
  obtain ⟨hx, hb, hml, hown, hts, hK, hX, hbl, hL, hAO, hE, hRf, hRl⟩ := id hCx
  obtain ⟨hinj, hLA⟩ := id hAD
  have hbA : ¬ LA s b := Nat.not_le.mpr hbl
  have hAG : ∀ q, inA ad 23 q → LA s q := fun q ⟨i, hi, e⟩ => e ▸ hLA i hi
  obtain ⟨hn9, hnp9, hnq9, hsk9, hrip9, -⟩ := id hJ.inv
  refine lv_iconst (v := nI 0) hx hb dL_law_740 (by decide) ?_
  refine lv_istore (lv' := [(20, .int (nI 0)), (0, .ref b), (1, .ref (ad 0)), (2, .int (nI n)), (3, .ref z), (4, .int (nI tm)), (6, .int (nI np0)), (19, .ref pq)]) hx hb dL_law_741 hl (by decide) rfl (fun ls hl => ?_)
  have L743 : ∀ (fu : Nat) (i9 : Nat) (c743 s743 : Nat) (H1 : Heap) (locs : List Loc) (ls : Array Slot), np0 - i9 < fu → (c743 ≤ cc + 20 * i9) → (s743 ≤ ss + 120 * i9) → (i9 ≤ np0) → GW D cI cZ cO ad n np nq F H1 → (ar cI z 4 szf H1) → (ao cO pq np0 H1) → (∀ i, i < np0 → ar cI (pq + 1 + i) 4 (g9 i) H1) → va_S (LA s) s.heap H1 locs → lv_has ls 29 [(0, .ref b), (1, .ref (ad 0)), (2, .int (nI n)), (3, .ref z), (4, .int (nI tm)), (6, .int (nI np0)), (19, .ref pq), (20, .int (nI i9))] → W p l e R s m args below meth c H1 locs c743 s743 Q (F0 m 743 ls []) := by
    intro fu
    induction fu with
    | zero => intro _ _ _ _ _ _ h; exact absurd h (Nat.not_lt_zero _)
    | succ fu ih743 =>
      intro i9 c743 s743 H1 locs ls hm743 hc743 hs743 hi hG h_z h_pqo h_pq hS hl
      refine lv_iload hx hb dL_law_743 (lv_at hl 7 rfl) ?_
      refine lv_iload hx hb dL_law_745 (lv_at hl 5 rfl) ?_
      refine nv_icmp_ge (tgt := 856) hx hb (by omega) (by omega) dL_law_747 (by decide) (fun c_1 => ?_) (fun c_1 => ?_)
      · exact kk856  _ _ _ _ _ (by omega) (by omega)  hG h_z hS (lv_sub hl [0, 1, 2, 3, 4] rfl)
      · obtain ⟨v0, v1, v3, v2⟩ := hq4 i9 (by omega)
        refine lv_aload_n hx hb dL_law_750 rfl (lv_at hl 1 rfl) ?_
        refine lv_iload hx hb dL_law_751 (lv_at hl 7 rfl) ?_
        refine lv_iconst (v := nI 0) hx hb dL_law_753 (by decide) ?_
        refine va_calli (va_runV (As := [.int (nI i9), .int (nI 0)]) (rest := []) ⟨hx, hb, hml, hown, hts⟩ (n_piece l hst D cI cZ cO ad n np nq F i9 0 hJ (by omega) (by omega)) (cwV 2 hts gL_law_X0_piece rfl rfl rfl (by decide +kernel) ⟨Nat.le_trans (Nat.le_of_ble_eq_true rfl) hRf, Nat.le_trans (Nat.le_of_ble_eq_true rfl) hRl⟩) (prG_V hG hK (hE.1.at hS sub_id sub_no) EnvG_c) rfl rfl hl.1 rfl (lv_room (Nat.le_of_ble_eq_true rfl)) dL_law_754 ⟨by omega, by omega⟩) hS (fun _ _ h => h.elim) (fun _ h => h.elim) (fun r_2 _ t H1 locs ht hvm hw hB hz hk hS => ?_)
        have hG := hG.kept hk
        have h_z := h_z.kept (hk _ h_z.lt id)
        have h_pqo := h_pqo.kept (hk _ h_pqo.lt id)
        have h_pq := fun (i : Nat) (hi : i < np0) => (h_pq i hi).kept (hk _ (h_pq i hi).lt id)
        obtain rfl := hw
        rw [(show pcT F i9 0 = F 4 i9 from rfl)]
        refine lv_aload hx hb dL_law_757 (lv_at hl 6 rfl) ?_
        refine lv_iload hx hb dL_law_759 (lv_at hl 7 rfl) ?_
        refine w_aald hx hb hK 2 h_pqo rfl (by omega) (by omega) dL_law_761 ?_
        refine lv_iconst (v := nI 0) hx hb dL_law_762 (by decide) ?_
        refine w_iald hx hb hK 0 (h_pq i9 (by omega)) rfl (by omega) (by decide) dL_law_763 ?_
        refine lv_icmp_ne (tgt := 848) hx hb dL_law_764 (by decide) (fun c_3 => ?_) (fun c_3 => ?_)
        · exact absurd v0.symm c_3
        · refine lv_aload_n hx hb dL_law_767 rfl (lv_at hl 1 rfl) ?_
          refine lv_iload hx hb dL_law_768 (lv_at hl 7 rfl) ?_
          refine lv_iconst (v := nI 1) hx hb dL_law_770 (by decide) ?_
          refine va_calli (va_runV (As := [.int (nI i9), .int (nI 1)]) (rest := []) ⟨hx, hb, hml, hown, hts⟩ (n_piece l hst D cI cZ cO ad n np nq F i9 1 hJ (by omega) (by omega)) (cwV 2 hts gL_law_X0_piece rfl rfl rfl (by decide +kernel) ⟨Nat.le_trans (Nat.le_of_ble_eq_true rfl) hRf, Nat.le_trans (Nat.le_of_ble_eq_true rfl) hRl⟩) (prG_V hG hK (hE.1.at hS sub_id sub_no) EnvG_c) rfl rfl hl.1 rfl (lv_room (Nat.le_of_ble_eq_true rfl)) dL_law_771 ⟨by omega, by omega⟩) hS (fun _ _ h => h.elim) (fun _ h => h.elim) (fun r_4 _ t H1 locs ht hvm hw hB hz hk hS => ?_)
          have hG := hG.kept hk
          have h_z := h_z.kept (hk _ h_z.lt id)
          have h_pqo := h_pqo.kept (hk _ h_pqo.lt id)
          have h_pq := fun (i : Nat) (hi : i < np0) => (h_pq i hi).kept (hk _ (h_pq i hi).lt id)
          obtain rfl := hw
          rw [(show pcT F i9 1 = F 5 i9 from rfl)]
          refine lv_aload hx hb dL_law_774 (lv_at hl 6 rfl) ?_
          refine lv_iload hx hb dL_law_776 (lv_at hl 7 rfl) ?_
          refine w_aald hx hb hK 2 h_pqo rfl (by omega) (by omega) dL_law_778 ?_
          refine lv_iconst (v := nI 1) hx hb dL_law_779 (by decide) ?_
          refine w_iald hx hb hK 0 (h_pq i9 (by omega)) rfl (by omega) (by decide) dL_law_780 ?_
          refine lv_icmp_ne (tgt := 848) hx hb dL_law_781 (by decide) (fun c_5 => ?_) (fun c_5 => ?_)
          · exact absurd v1.symm c_5
          · refine lv_aload_n hx hb dL_law_784 rfl (lv_at hl 1 rfl) ?_
            refine lv_iload hx hb dL_law_785 (lv_at hl 7 rfl) ?_
            refine lv_iconst (v := nI 3) hx hb dL_law_787 (by decide) ?_
            refine va_calli (va_runV (As := [.int (nI i9), .int (nI 3)]) (rest := []) ⟨hx, hb, hml, hown, hts⟩ (n_piece l hst D cI cZ cO ad n np nq F i9 3 hJ (by omega) (by omega)) (cwV 2 hts gL_law_X0_piece rfl rfl rfl (by decide +kernel) ⟨Nat.le_trans (Nat.le_of_ble_eq_true rfl) hRf, Nat.le_trans (Nat.le_of_ble_eq_true rfl) hRl⟩) (prG_V hG hK (hE.1.at hS sub_id sub_no) EnvG_c) rfl rfl hl.1 rfl (lv_room (Nat.le_of_ble_eq_true rfl)) dL_law_788 ⟨by omega, by omega⟩) hS (fun _ _ h => h.elim) (fun _ h => h.elim) (fun r_6 _ t H1 locs ht hvm hw hB hz hk hS => ?_)
            have hG := hG.kept hk
            have h_z := h_z.kept (hk _ h_z.lt id)
            have h_pqo := h_pqo.kept (hk _ h_pqo.lt id)
            have h_pq := fun (i : Nat) (hi : i < np0) => (h_pq i hi).kept (hk _ (h_pq i hi).lt id)
            obtain rfl := hw
            rw [(show pcT F i9 3 = F 7 i9 from rfl)]
            refine lv_aload hx hb dL_law_791 (lv_at hl 6 rfl) ?_
            refine lv_iload hx hb dL_law_793 (lv_at hl 7 rfl) ?_
            refine w_aald hx hb hK 2 h_pqo rfl (by omega) (by omega) dL_law_795 ?_
            refine lv_iconst (v := nI 3) hx hb dL_law_796 (by decide) ?_
            refine w_iald hx hb hK 0 (h_pq i9 (by omega)) rfl (by omega) (by decide) dL_law_797 ?_
            refine lv_icmp_ne (tgt := 848) hx hb dL_law_798 (by decide) (fun c_7 => ?_) (fun c_7 => ?_)
            · exact absurd v3.symm c_7
            · refine lv_aload hx hb dL_law_801 (lv_at hl 6 rfl) ?_
              refine lv_iload hx hb dL_law_803 (lv_at hl 7 rfl) ?_
              refine w_aald hx hb hK 2 h_pqo rfl (by omega) (by omega) dL_law_805 ?_
              refine lv_iconst (v := nI 2) hx hb dL_law_806 (by decide) ?_
              refine w_iald hx hb hK 0 (h_pq i9 (by omega)) rfl (by omega) (by decide) dL_law_807 ?_
              refine lv_bipush (v := -2) hx hb dL_law_808 (by decide) ?_
              refine lv_icmp_ne (tgt := 825) hx hb dL_law_810 (by decide) (fun c_8 => ?_) (fun c_8 => ?_)
              · refine lv_aload_n hx hb dL_law_825 rfl (lv_at hl 1 rfl) ?_
                refine lv_iload hx hb dL_law_826 (lv_at hl 7 rfl) ?_
                refine lv_iconst (v := nI 2) hx hb dL_law_828 (by decide) ?_
                refine va_calli (va_runV (As := [.int (nI i9), .int (nI 2)]) (rest := []) ⟨hx, hb, hml, hown, hts⟩ (n_piece l hst D cI cZ cO ad n np nq F i9 2 hJ (by omega) (by omega)) (cwV 2 hts gL_law_X0_piece rfl rfl rfl (by decide +kernel) ⟨Nat.le_trans (Nat.le_of_ble_eq_true rfl) hRf, Nat.le_trans (Nat.le_of_ble_eq_true rfl) hRl⟩) (prG_V hG hK (hE.1.at hS sub_id sub_no) EnvG_c) rfl rfl hl.1 rfl (lv_room (Nat.le_of_ble_eq_true rfl)) dL_law_829 ⟨by omega, by omega⟩) hS (fun _ _ h => h.elim) (fun _ h => h.elim) (fun r_9 _ t H1 locs ht hvm hw hB hz hk hS => ?_)
                have hG := hG.kept hk
                have h_z := h_z.kept (hk _ h_z.lt id)
                have h_pqo := h_pqo.kept (hk _ h_pqo.lt id)
                have h_pq := fun (i : Nat) (hi : i < np0) => (h_pq i hi).kept (hk _ (h_pq i hi).lt id)
                obtain rfl := hw
                rw [(show pcT F i9 2 = F 6 i9 from rfl)]
                refine lv_bipush (v := -2) hx hb dL_law_832 (by decide) ?_
                refine lv_icmp_ne (tgt := 850) hx hb dL_law_834 (by decide) (fun c_10 => ?_) (fun c_10 => ?_)
                · refine lv_iinc (k := 7) (v := nI (i9 + 1)) (lv' := [(20, .int (nI (i9 + 1))), (0, .ref b), (1, .ref (ad 0)), (2, .int (nI n)), (3, .ref z), (4, .int (nI tm)), (6, .int (nI np0)), (19, .ref pq)]) hx hb dL_law_850 hl rfl (nI_add i9 1) (by decide) rfl (fun ls hl => ?_)
                  refine lv_goto (tgt := 743) hx hb dL_law_853 (by decide) ?_
                  exact ih743 (i9 + 1) _ _ _ _ _ (by omega) (by omega) (by omega) (by omega) hG h_z h_pqo h_pq hS (lv_sub hl [1, 2, 3, 4, 5, 6, 7, 0] rfl)
                · refine lv_aload hx hb dL_law_837 (lv_at hl 6 rfl) ?_
                  refine lv_iload hx hb dL_law_839 (lv_at hl 7 rfl) ?_
                  refine w_aald hx hb hK 2 h_pqo rfl (by omega) (by omega) dL_law_841 ?_
                  refine lv_iconst (v := nI 1) hx hb dL_law_842 (by decide) ?_
                  refine w_iald hx hb hK 0 (h_pq i9 (by omega)) rfl (by omega) (by decide) dL_law_843 ?_
                  refine lv_iconst (v := nI 2) hx hb dL_law_844 (by decide) ?_
                  refine lv_icmp_eq (tgt := 850) hx hb dL_law_845 (by decide) (fun c_11 => ?_) (fun c_11 => ?_)
                  · refine lv_iinc (k := 7) (v := nI (i9 + 1)) (lv' := [(20, .int (nI (i9 + 1))), (0, .ref b), (1, .ref (ad 0)), (2, .int (nI n)), (3, .ref z), (4, .int (nI tm)), (6, .int (nI np0)), (19, .ref pq)]) hx hb dL_law_850 hl rfl (nI_add i9 1) (by decide) rfl (fun ls hl => ?_)
                    refine lv_goto (tgt := 743) hx hb dL_law_853 (by decide) ?_
                    exact ih743 (i9 + 1) _ _ _ _ _ (by omega) (by omega) (by omega) (by omega) hG h_z h_pqo h_pq hS (lv_sub hl [1, 2, 3, 4, 5, 6, 7, 0] rfl)
                  · exact absurd (v1.trans ((hJ.2.1 i9 (by omega)).2.2 c_10)) c_11
              · refine lv_aload_n hx hb dL_law_813 rfl (lv_at hl 1 rfl) ?_
                refine lv_iload hx hb dL_law_814 (lv_at hl 7 rfl) ?_
                refine lv_iconst (v := nI 2) hx hb dL_law_816 (by decide) ?_
                refine va_calli (va_runV (As := [.int (nI i9), .int (nI 2)]) (rest := []) ⟨hx, hb, hml, hown, hts⟩ (n_piece l hst D cI cZ cO ad n np nq F i9 2 hJ (by omega) (by omega)) (cwV 2 hts gL_law_X0_piece rfl rfl rfl (by decide +kernel) ⟨Nat.le_trans (Nat.le_of_ble_eq_true rfl) hRf, Nat.le_trans (Nat.le_of_ble_eq_true rfl) hRl⟩) (prG_V hG hK (hE.1.at hS sub_id sub_no) EnvG_c) rfl rfl hl.1 rfl (lv_room (Nat.le_of_ble_eq_true rfl)) dL_law_817 ⟨by omega, by omega⟩) hS (fun _ _ h => h.elim) (fun _ h => h.elim) (fun r_12 _ t H1 locs ht hvm hw hB hz hk hS => ?_)
                have hG := hG.kept hk
                have h_z := h_z.kept (hk _ h_z.lt id)
                have h_pqo := h_pqo.kept (hk _ h_pqo.lt id)
                have h_pq := fun (i : Nat) (hi : i < np0) => (h_pq i hi).kept (hk _ (h_pq i hi).lt id)
                obtain rfl := hw
                rw [(show pcT F i9 2 = F 6 i9 from rfl)]
                refine lv_bipush (v := -2) hx hb dL_law_820 (by decide) ?_
                refine lv_icmp_ne (tgt := 848) hx hb dL_law_822 (by decide) (fun c_13 => ?_) (fun c_13 => ?_)
                · exact absurd (v2 c_8) c_13
                · refine lv_aload_n hx hb dL_law_825 rfl (lv_at hl 1 rfl) ?_
                  refine lv_iload hx hb dL_law_826 (lv_at hl 7 rfl) ?_
                  refine lv_iconst (v := nI 2) hx hb dL_law_828 (by decide) ?_
                  refine va_calli (va_runV (As := [.int (nI i9), .int (nI 2)]) (rest := []) ⟨hx, hb, hml, hown, hts⟩ (n_piece l hst D cI cZ cO ad n np nq F i9 2 hJ (by omega) (by omega)) (cwV 2 hts gL_law_X0_piece rfl rfl rfl (by decide +kernel) ⟨Nat.le_trans (Nat.le_of_ble_eq_true rfl) hRf, Nat.le_trans (Nat.le_of_ble_eq_true rfl) hRl⟩) (prG_V hG hK (hE.1.at hS sub_id sub_no) EnvG_c) rfl rfl hl.1 rfl (lv_room (Nat.le_of_ble_eq_true rfl)) dL_law_829 ⟨by omega, by omega⟩) hS (fun _ _ h => h.elim) (fun _ h => h.elim) (fun r_14 _ t H1 locs ht hvm hw hB hz hk hS => ?_)
                  have hG := hG.kept hk
                  have h_z := h_z.kept (hk _ h_z.lt id)
                  have h_pqo := h_pqo.kept (hk _ h_pqo.lt id)
                  have h_pq := fun (i : Nat) (hi : i < np0) => (h_pq i hi).kept (hk _ (h_pq i hi).lt id)
                  obtain rfl := hw
                  rw [(show pcT F i9 2 = F 6 i9 from rfl)]
                  refine lv_bipush (v := -2) hx hb dL_law_832 (by decide) ?_
                  refine lv_icmp_ne (tgt := 850) hx hb dL_law_834 (by decide) (fun c_15 => ?_) (fun c_15 => ?_)
                  · refine lv_iinc (k := 7) (v := nI (i9 + 1)) (lv' := [(20, .int (nI (i9 + 1))), (0, .ref b), (1, .ref (ad 0)), (2, .int (nI n)), (3, .ref z), (4, .int (nI tm)), (6, .int (nI np0)), (19, .ref pq)]) hx hb dL_law_850 hl rfl (nI_add i9 1) (by decide) rfl (fun ls hl => ?_)
                    refine lv_goto (tgt := 743) hx hb dL_law_853 (by decide) ?_
                    exact ih743 (i9 + 1) _ _ _ _ _ (by omega) (by omega) (by omega) (by omega) hG h_z h_pqo h_pq hS (lv_sub hl [1, 2, 3, 4, 5, 6, 7, 0] rfl)
                  · refine lv_aload hx hb dL_law_837 (lv_at hl 6 rfl) ?_
                    refine lv_iload hx hb dL_law_839 (lv_at hl 7 rfl) ?_
                    refine w_aald hx hb hK 2 h_pqo rfl (by omega) (by omega) dL_law_841 ?_
                    refine lv_iconst (v := nI 1) hx hb dL_law_842 (by decide) ?_
                    refine w_iald hx hb hK 0 (h_pq i9 (by omega)) rfl (by omega) (by decide) dL_law_843 ?_
                    refine lv_iconst (v := nI 2) hx hb dL_law_844 (by decide) ?_
                    refine lv_icmp_eq (tgt := 850) hx hb dL_law_845 (by decide) (fun c_16 => ?_) (fun c_16 => ?_)
                    · refine lv_iinc (k := 7) (v := nI (i9 + 1)) (lv' := [(20, .int (nI (i9 + 1))), (0, .ref b), (1, .ref (ad 0)), (2, .int (nI n)), (3, .ref z), (4, .int (nI tm)), (6, .int (nI np0)), (19, .ref pq)]) hx hb dL_law_850 hl rfl (nI_add i9 1) (by decide) rfl (fun ls hl => ?_)
                      refine lv_goto (tgt := 743) hx hb dL_law_853 (by decide) ?_
                      exact ih743 (i9 + 1) _ _ _ _ _ (by omega) (by omega) (by omega) (by omega) hG h_z h_pqo h_pq hS (lv_sub hl [1, 2, 3, 4, 5, 6, 7, 0] rfl)
                    · exact absurd (v1.trans ((hJ.2.1 i9 (by omega)).2.2 c_15)) c_16
  exact L743 _ 0 _ _ _ _ _ (Nat.lt_succ_self _) (by omega) (by omega) (by omega) hG h_z h_pqo h_pq hS (lv_sub hl [1, 2, 3, 4, 5, 6, 7, 0] rfl)
