set_option maxHeartbeats 4000000 in
set_option maxRecDepth 100000 in
/-- the pairs have what they need -/
theorem sg_6 {p : Program} {l : Launch} {e : Env} {R : Room} {s : State} {m : MethodId} {args : Array Value} {below : List Frame} {meth : Method} {c : Code} {Q : State → Prop} {D : va_G} {cI cZ cO : ClassId} {ad : Nat → Nat} {b L : Nat} {xs : Nat → Int32} (hst : l.stackTraces = false) (hCx : LC cL_law 29 wsL_law p s m c args R D cI cZ cO b L xs) (hAD : inj ad 23 ∧ ∀ i, i ≤ 23 → s.heap.size ≤ ad i) (n np nq : Nat) (F : Nat → Nat → Int32) (z : Nat) (szf : Nat → Int32) (tm : Nat) (ce ma ha th : Nat) (fc fm : Nat → Int32) (gh9 : Nat → Nat → Int32) (ft : Nat → Int32) (hadz : ∀ i, i ≤ 23 → ad i < z) (hzA : s.heap.size ≤ z) (hsz : ∀ k, k < 4 → szf k = nI (kz k)) (htm : tm < 24) (hn1 : 1 ≤ n) (hzc : z < ce) (hcm : ce < ma) (hmh : ma < ha) (hht : ha + 20 < th) (hha : ∀ q, q < 20 → ∀ k, k < 4 → gh9 q k = nI (cn (inQ F q k) np)) (hth : ∀ q, q < 20 → ft q = sS (F 7) (F 6) (nI q) np) (hJ : J n np nq F) (cc ss : Nat) (H1 : Heap) (locs : List Loc) (ls : Array Slot) (hRc : cc + 500 ≤ R.cells) (hRs : ss + 3000 ≤ R.slots) (hG : GW D cI cZ cO ad n np nq F H1) (h_z : ar cI z 4 szf H1) (h_ce : ar cI ce n fc H1) (h_ma : ar cI ma n fm H1) (h_hao : ao cO ha 20 H1) (h_ha : ∀ i, i < 20 → ar cI (ha + 1 + i) 5 (gh9 i) H1) (h_th : ar cI th 20 ft H1) (hS : va_S (LA s) s.heap H1 locs) (hl : lv_has ls 29 [(0, .ref b), (1, .ref (ad 0)), (2, .int (nI n)), (3, .ref z), (4, .int (nI tm)), (20, .ref ce), (21, .ref ma), (22, .ref ha), (23, .ref th)]) (kk1180 : ∀ (cc' ss' : Nat) (H1 : Heap) (locs : List Loc) (ls : Array Slot), cc' ≤ cc + 500 → ss' ≤ ss + 3000 → GW D cI cZ cO ad n np nq F H1 → (ar cI z 4 szf H1) → (ar cI ce n fc H1) → (ar cI ma n fm H1) → va_S (LA s) s.heap H1 locs → lv_has ls 29 [(0, .ref b), (1, .ref (ad 0)), (2, .int (nI n)), (3, .ref z), (4, .int (nI tm)), (20, .ref ce), (21, .ref ma)] → W p l e R s m args below meth c H1 locs cc' ss' Q (F0 m 1180 ls [])) : W p l e R s m args below meth c H1 locs cc ss Q (F0 m 1036 ls []) := by
  obtain ⟨hx, hb, hml, hown, hts, hK, hX, hbl, hL, hAO, hE, hRf, hRl⟩ := id hCx
  obtain ⟨hinj, hLA⟩ := id hAD
  have hbA : ¬ LA s b := Nat.not_le.mpr hbl
  have hAG : ∀ q, inA ad 23 q → LA s q := fun q ⟨i, hi, e⟩ => e ▸ hLA i hi
  obtain ⟨hn9, hnp9, hnq9, hsk9, hrip9, -⟩ := id hJ.inv
  refine lv_iconst (v := nI 0) hx hb dL_law_1036 (by decide) ?_
  refine lv_istore (lv' := [(24, .int (nI 0)), (0, .ref b), (1, .ref (ad 0)), (2, .int (nI n)), (3, .ref z), (4, .int (nI tm)), (20, .ref ce), (21, .ref ma), (22, .ref ha), (23, .ref th)]) hx hb dL_law_1037 hl (by decide) rfl (fun ls hl => ?_)
  have L1039 : ∀ (fu : Nat) (i9 : Nat) (c1039 s1039 : Nat) (H1 : Heap) (locs : List Loc) (ls : Array Slot), nq - i9 < fu → (c1039 ≤ cc + 20 * i9) → (s1039 ≤ ss + 120 * i9) → (i9 ≤ nq) → GW D cI cZ cO ad n np nq F H1 → (ar cI z 4 szf H1) → (ar cI ce n fc H1) → (ar cI ma n fm H1) → (ao cO ha 20 H1) → (∀ i, i < 20 → ar cI (ha + 1 + i) 5 (gh9 i) H1) → (ar cI th 20 ft H1) → va_S (LA s) s.heap H1 locs → lv_has ls 29 [(0, .ref b), (1, .ref (ad 0)), (2, .int (nI n)), (3, .ref z), (4, .int (nI tm)), (20, .ref ce), (21, .ref ma), (22, .ref ha), (23, .ref th), (24, .int (nI i9))] → W p l e R s m args below meth c H1 locs c1039 s1039 Q (F0 m 1039 ls []) := by
    intro fu
    induction fu with
    | zero => intro _ _ _ _ _ _ h; exact absurd h (Nat.not_lt_zero _)
    | succ fu ih1039 =>
      intro i9 c1039 s1039 H1 locs ls hm1039 hc1039 hs1039 hi hG h_z h_ce h_ma h_hao h_ha h_th hS hl
      refine lv_iload hx hb dL_law_1039 (lv_at hl 9 rfl) ?_
      refine lv_aload_n hx hb dL_law_1041 rfl (lv_at hl 1 rfl) ?_
      refine lv_iconst (v := nI 5) hx hb dL_law_1042 (by decide) ?_
      refine va_calli (va_runV (As := [.int (nI 5)]) (rest := [.int (nI i9)]) ⟨hx, hb, hml, hown, hts⟩ (n_count l hst D cI cZ cO ad n np nq F 5 hJ (by decide)) (cwV 1 hts gL_law_X0_count rfl rfl rfl (by decide +kernel) ⟨Nat.le_trans (Nat.le_of_ble_eq_true rfl) hRf, Nat.le_trans (Nat.le_of_ble_eq_true rfl) hRl⟩) (prG_V hG hK (hE.1.at hS sub_id sub_no) EnvG_c) rfl rfl hl.1 rfl (lv_room (Nat.le_of_ble_eq_true rfl)) dL_law_1043 ⟨by omega, by omega⟩) hS (fun _ _ h => h.elim) (fun _ h => h.elim) (fun r_1 _ t H1 locs ht hvm hw hB hz hk hS => ?_)
      have hG := hG.kept hk
      have h_z := h_z.kept (hk _ h_z.lt id)
      have h_ce := h_ce.kept (hk _ h_ce.lt id)
      have h_ma := h_ma.kept (hk _ h_ma.lt id)
      have h_hao := h_hao.kept (hk _ h_hao.lt id)
      have h_ha := fun (i : Nat) (hi : i < 20) => (h_ha i hi).kept (hk _ (h_ha i hi).lt id)
      have h_th := h_th.kept (hk _ h_th.lt id)
      obtain rfl : r_1 = nI nq := hw
      refine nv_icmp_ge (tgt := 1180) hx hb (by omega) (by omega) dL_law_1046 (by decide) (fun c_2 => ?_) (fun c_2 => ?_)
      · exact kk1180  _ _ _ _ _ (by omega) (by omega)  hG h_z h_ce h_ma hS (lv_sub hl [0, 1, 2, 3, 4, 5, 6] rfl)
      · obtain ⟨j9, hj1, hj2, ej9⟩ := (hJ.2.2.2.2.1 i9 (by omega)).2
        refine lv_aload_n hx hb dL_law_1049 rfl (lv_at hl 1 rfl) ?_
        refine lv_iload hx hb dL_law_1050 (lv_at hl 9 rfl) ?_
        refine lv_iconst (v := nI 4) hx hb dL_law_1052 (by decide) ?_
        refine va_calli (va_runV (As := [.int (nI i9), .int (nI 4)]) (rest := []) ⟨hx, hb, hml, hown, hts⟩ (n_pair l hst D cI cZ cO ad n np nq F i9 4 hJ (by omega) (by omega)) (cwV 2 hts gL_law_X0_pair rfl rfl rfl (by decide +kernel) ⟨Nat.le_trans (Nat.le_of_ble_eq_true rfl) hRf, Nat.le_trans (Nat.le_of_ble_eq_true rfl) hRl⟩) (prG_V hG hK (hE.1.at hS sub_id sub_no) EnvG_c) rfl rfl hl.1 rfl (lv_room (Nat.le_of_ble_eq_true rfl)) dL_law_1053 ⟨by omega, by omega⟩) hS (fun _ _ h => h.elim) (fun _ h => h.elim) (fun r_3 _ t H1 locs ht hvm hw hB hz hk hS => ?_)
        have hG := hG.kept hk
        have h_z := h_z.kept (hk _ h_z.lt id)
        have h_ce := h_ce.kept (hk _ h_ce.lt id)
        have h_ma := h_ma.kept (hk _ h_ma.lt id)
        have h_hao := h_hao.kept (hk _ h_hao.lt id)
        have h_ha := fun (i : Nat) (hi : i < 20) => (h_ha i hi).kept (hk _ (h_ha i hi).lt id)
        have h_th := h_th.kept (hk _ h_th.lt id)
        obtain rfl := hw
        rw [(show prT F i9 4 = F 12 i9 from rfl)]
        rcases hrip9 i9 (by omega) with e12 | e12
        · rw [show F 12 i9 = nI 0 from e12]
          refine nv_if_ne (tgt := 1063) hx hb (by omega) dL_law_1056 (by decide) (fun h9 => absurd h9 (by decide)) (fun _ => ?_)
          refine lv_iconst (v := nI 1) hx hb dL_law_1059 (by decide) ?_
          refine lv_goto (tgt := 1064) hx hb dL_law_1060 (by decide) ?_
          refine lv_istore (lv' := [(25, .int (nI 1)), (0, .ref b), (1, .ref (ad 0)), (2, .int (nI n)), (3, .ref z), (4, .int (nI tm)), (20, .ref ce), (21, .ref ma), (22, .ref ha), (23, .ref th), (24, .int (nI i9))]) hx hb dL_law_1064 hl (by decide) rfl (fun ls hl => ?_)
          refine lv_iconst (v := nI 4) hx hb dL_law_1066 (by decide) ?_
          obtain ⟨du, eq_du⟩ : ∃ z, H1.size = z := ⟨_, rfl⟩
          have htd : th < du := by have := h_th.lt; omega
          refine w_newaQ eq_du hx hb (hts (.arrayClass .int) (by decide +kernel)) hK 0 rfl hS (by omega) (by omega) (by omega) (by omega) dL_law_1067 (fun H1 h_du z1 o1 hS => ?_)
          have hG := hG.newQ eq_du o1
          have h_z := h_z.kept (o1 _ (by have := h_z.lt; omega))
          have h_ce := h_ce.kept (o1 _ (by have := h_ce.lt; omega))
          have h_ma := h_ma.kept (o1 _ (by have := h_ma.lt; omega))
          have h_hao := h_hao.kept (o1 _ (by have := h_hao.lt; omega))
          have h_ha := fun (i : Nat) (hi : i < 20) => (h_ha i hi).kept (o1 _ (by have := (h_ha i hi).lt; omega))
          have h_th := h_th.kept (o1 _ (by have := h_th.lt; omega))
          obtain ⟨f_5, ef_5⟩ : ∃ z : Nat → Int32, z = (fun _ => 0) := ⟨_, rfl⟩
          rw [← ef_5] at h_du
          refine lv_dup hx hb dL_law_1069 rfl ?_
          refine lv_iconst (v := nI 0) hx hb dL_law_1070 (by decide) ?_
          refine lv_iconst (v := nI 2) hx hb dL_law_1071 (by decide) ?_
          refine w_iast hx hb hK 0 h_du rfl (show s.heap.size ≤ _ by omega) hS (by omega) (by omega) dL_law_1072 (fun H1 locs h_du z1 oq hS => ?_)
          have hG := hG.put hinj hadz (by omega) oq
          have h_z := h_z.kept (oq _ (by omega))
          have h_ce := h_ce.kept (oq _ (by omega))
          have h_ma := h_ma.kept (oq _ (by omega))
          have h_hao := h_hao.kept (oq _ (by omega))
          have h_ha := fun (i : Nat) (hi : i < 20) => (h_ha i hi).kept (oq _ (by omega))
          have h_th := h_th.kept (oq _ (by omega))
          obtain ⟨f_6, ef_6⟩ : ∃ z, z = upd f_5 0 (nI 2) := ⟨_, rfl⟩
          rw [← ef_6] at h_du
          refine lv_dup hx hb dL_law_1073 rfl ?_
          refine lv_iconst (v := nI 1) hx hb dL_law_1074 (by decide) ?_
          refine lv_iconst (v := nI 2) hx hb dL_law_1075 (by decide) ?_
          refine w_iast hx hb hK 0 h_du rfl (show s.heap.size ≤ _ by omega) hS (by omega) (by omega) dL_law_1076 (fun H1 locs h_du z1 oq hS => ?_)
          have hG := hG.put hinj hadz (by omega) oq
          have h_z := h_z.kept (oq _ (by omega))
          have h_ce := h_ce.kept (oq _ (by omega))
          have h_ma := h_ma.kept (oq _ (by omega))
          have h_hao := h_hao.kept (oq _ (by omega))
          have h_ha := fun (i : Nat) (hi : i < 20) => (h_ha i hi).kept (oq _ (by omega))
          have h_th := h_th.kept (oq _ (by omega))
          obtain ⟨f_7, ef_7⟩ : ∃ z, z = upd f_6 1 (nI 2) := ⟨_, rfl⟩
          rw [← ef_7] at h_du
          refine lv_dup hx hb dL_law_1077 rfl ?_
          refine lv_iconst (v := nI 2) hx hb dL_law_1078 (by decide) ?_
          refine lv_bipush (v := nI 6) hx hb dL_law_1079 (by decide) ?_
          refine w_iast hx hb hK 0 h_du rfl (show s.heap.size ≤ _ by omega) hS (by omega) (by omega) dL_law_1081 (fun H1 locs h_du z1 oq hS => ?_)
          have hG := hG.put hinj hadz (by omega) oq
          have h_z := h_z.kept (oq _ (by omega))
          have h_ce := h_ce.kept (oq _ (by omega))
          have h_ma := h_ma.kept (oq _ (by omega))
          have h_hao := h_hao.kept (oq _ (by omega))
          have h_ha := fun (i : Nat) (hi : i < 20) => (h_ha i hi).kept (oq _ (by omega))
          have h_th := h_th.kept (oq _ (by omega))
          obtain ⟨f_8, ef_8⟩ : ∃ z, z = upd f_7 2 (nI 6) := ⟨_, rfl⟩
          rw [← ef_8] at h_du
          refine lv_dup hx hb dL_law_1082 rfl ?_
          refine lv_iconst (v := nI 3) hx hb dL_law_1083 (by decide) ?_
          refine lv_iconst (v := nI 4) hx hb dL_law_1084 (by decide) ?_
          refine w_iast hx hb hK 0 h_du rfl (show s.heap.size ≤ _ by omega) hS (by omega) (by omega) dL_law_1085 (fun H1 locs h_du z1 oq hS => ?_)
          have hG := hG.put hinj hadz (by omega) oq
          have h_z := h_z.kept (oq _ (by omega))
          have h_ce := h_ce.kept (oq _ (by omega))
          have h_ma := h_ma.kept (oq _ (by omega))
          have h_hao := h_hao.kept (oq _ (by omega))
          have h_ha := fun (i : Nat) (hi : i < 20) => (h_ha i hi).kept (oq _ (by omega))
          have h_th := h_th.kept (oq _ (by omega))
          obtain ⟨f_9, ef_9⟩ : ∃ z, z = upd f_8 3 (nI 4) := ⟨_, rfl⟩
          rw [← ef_9] at h_du
          refine lv_astore (lv' := [(26, .ref du), (25, .int (nI 1)), (0, .ref b), (1, .ref (ad 0)), (2, .int (nI n)), (3, .ref z), (4, .int (nI tm)), (20, .ref ce), (21, .ref ma), (22, .ref ha), (23, .ref th), (24, .int (nI i9))]) hx hb dL_law_1086 hl (by decide) rfl (fun ls hl => ?_)
          have hdu : ∀ j, j < 4 → f_9 j = nI (kP j) := by intro j hj; rw [ef_9, ef_8, ef_7, ef_6, ef_5]; exact due_ok j hj
          refine lv_iconst (v := nI 0) hx hb dL_law_1088 (by decide) ?_
          refine lv_istore (lv' := [(27, .int (nI 0)), (26, .ref du), (25, .int (nI 1)), (0, .ref b), (1, .ref (ad 0)), (2, .int (nI n)), (3, .ref z), (4, .int (nI tm)), (20, .ref ce), (21, .ref ma), (22, .ref ha), (23, .ref th), (24, .int (nI i9))]) hx hb dL_law_1089 hl (by decide) rfl (fun ls hl => ?_)
          have L1091 : ∀ (fu : Nat) (o9 : Nat) (c1091 s1091 : Nat) (H1 : Heap) (locs : List Loc) (ls : Array Slot), 4 - o9 < fu → (c1091 ≤ cc + 20 * i9 + 6) → (s1091 ≤ ss + 120 * i9 + 40) → (o9 ≤ 4) → GW D cI cZ cO ad n np nq F H1 → (ar cI z 4 szf H1) → (ar cI ce n fc H1) → (ar cI ma n fm H1) → (ao cO ha 20 H1) → (∀ i, i < 20 → ar cI (ha + 1 + i) 5 (gh9 i) H1) → (ar cI th 20 ft H1) → (ar cI du 4 f_9 H1) → va_S (LA s) s.heap H1 locs → lv_has ls 29 [(0, .ref b), (1, .ref (ad 0)), (2, .int (nI n)), (3, .ref z), (4, .int (nI tm)), (20, .ref ce), (21, .ref ma), (22, .ref ha), (23, .ref th), (24, .int (nI i9)), (25, .int (nI 1)), (26, .ref du), (27, .int (nI o9))] → W p l e R s m args below meth c H1 locs c1091 s1091 Q (F0 m 1091 ls []) := by
            intro fu
            induction fu with
            | zero => intro _ _ _ _ _ _ h; exact absurd h (Nat.not_lt_zero _)
            | succ fu ih1091 =>
              intro o9 c1091 s1091 H1 locs ls hm1091 hc1091 hs1091 ho hG h_z h_ce h_ma h_hao h_ha h_th h_du hS hl
              refine lv_iload hx hb dL_law_1091 (lv_at hl 12 rfl) ?_
              refine lv_iconst (v := nI 4) hx hb dL_law_1093 (by decide) ?_
              refine nv_icmp_ge (tgt := 1130) hx hb (by omega) (by omega) dL_law_1094 (by decide) (fun c_10 => ?_) (fun c_10 => ?_)
              · refine lv_iload hx hb dL_law_1130 (lv_at hl 10 rfl) ?_
                refine nv_if_eq (tgt := 1150) hx hb (by omega) dL_law_1132 (by decide) (fun h9 => absurd h9 (by decide)) (fun _ => ?_)
                refine lv_aload_n hx hb dL_law_1135 rfl (lv_at hl 1 rfl) ?_
                refine lv_iload hx hb dL_law_1136 (lv_at hl 9 rfl) ?_
                refine lv_iconst (v := nI 3) hx hb dL_law_1138 (by decide) ?_
                refine va_calli (va_runV (As := [.int (nI i9), .int (nI 3)]) (rest := []) ⟨hx, hb, hml, hown, hts⟩ (n_pair l hst D cI cZ cO ad n np nq F i9 3 hJ (by omega) (by omega)) (cwV 2 hts gL_law_X0_pair rfl rfl rfl (by decide +kernel) ⟨Nat.le_trans (Nat.le_of_ble_eq_true rfl) hRf, Nat.le_trans (Nat.le_of_ble_eq_true rfl) hRl⟩) (prG_V hG hK (hE.1.at hS sub_id sub_no) EnvG_c) rfl rfl hl.1 rfl (lv_room (Nat.le_of_ble_eq_true rfl)) dL_law_1139 ⟨by omega, by omega⟩) hS (fun _ _ h => h.elim) (fun _ h => h.elim) (fun r_12 _ t H1 locs ht hvm hw hB hz hk hS => ?_)
                have hG := hG.kept hk
                have h_z := h_z.kept (hk _ h_z.lt id)
                have h_ce := h_ce.kept (hk _ h_ce.lt id)
                have h_ma := h_ma.kept (hk _ h_ma.lt id)
                have h_hao := h_hao.kept (hk _ h_hao.lt id)
                have h_ha := fun (i : Nat) (hi : i < 20) => (h_ha i hi).kept (hk _ (h_ha i hi).lt id)
                have h_th := h_th.kept (hk _ h_th.lt id)
                have h_du := h_du.kept (hk _ h_du.lt id)
                obtain rfl := hw
                rw [(show prT F i9 3 = F 11 i9 from rfl)]
                refine lv_aload hx hb dL_law_1142 (lv_at hl 8 rfl) ?_
                refine lv_iload hx hb dL_law_1144 (lv_at hl 9 rfl) ?_
                refine w_iald hx hb hK 0 h_th rfl (by omega) (by omega) dL_law_1146 ?_
                refine lv_icmp_ne (tgt := 1172) hx hb dL_law_1147 (by decide) (fun c_13 => ?_) (fun c_13 => ?_)
                · exact absurd (((hJ.2.2.2.2.1 i9 (by omega)).1 e12).2.trans (hth i9 (by omega)).symm) c_13
                · refine lv_aload_n hx hb dL_law_1150 rfl (lv_at hl 1 rfl) ?_
                  refine lv_iload hx hb dL_law_1151 (lv_at hl 9 rfl) ?_
                  refine lv_iconst (v := nI 2) hx hb dL_law_1153 (by decide) ?_
                  refine va_calli (va_runV (As := [.int (nI i9), .int (nI 2)]) (rest := []) ⟨hx, hb, hml, hown, hts⟩ (n_pair l hst D cI cZ cO ad n np nq F i9 2 hJ (by omega) (by omega)) (cwV 2 hts gL_law_X0_pair rfl rfl rfl (by decide +kernel) ⟨Nat.le_trans (Nat.le_of_ble_eq_true rfl) hRf, Nat.le_trans (Nat.le_of_ble_eq_true rfl) hRl⟩) (prG_V hG hK (hE.1.at hS sub_id sub_no) EnvG_c) rfl rfl hl.1 rfl (lv_room (Nat.le_of_ble_eq_true rfl)) dL_law_1154 ⟨by omega, by omega⟩) hS (fun _ _ h => h.elim) (fun _ h => h.elim) (fun r_14 _ t H1 locs ht hvm hw hB hz hk hS => ?_)
                  have hG := hG.kept hk
                  have h_z := h_z.kept (hk _ h_z.lt id)
                  have h_ce := h_ce.kept (hk _ h_ce.lt id)
                  have h_ma := h_ma.kept (hk _ h_ma.lt id)
                  have h_hao := h_hao.kept (hk _ h_hao.lt id)
                  have h_ha := fun (i : Nat) (hi : i < 20) => (h_ha i hi).kept (hk _ (h_ha i hi).lt id)
                  have h_th := h_th.kept (hk _ h_th.lt id)
                  have h_du := h_du.kept (hk _ h_du.lt id)
                  obtain rfl := hw
                  rw [(show prT F i9 2 = F 10 i9 from rfl)]
                  rw [show F 10 i9 = nI j9 from ej9]
                  refine lv_iconst (v := nI 1) hx hb dL_law_1157 (by decide) ?_
                  refine nv_icmp_lt (tgt := 1172) hx hb (by omega) (by omega) dL_law_1158 (by decide) (fun c_15 => ?_) (fun c_15 => ?_)
                  · exfalso; omega
                  · refine lv_aload_n hx hb dL_law_1161 rfl (lv_at hl 1 rfl) ?_
                    refine lv_iload hx hb dL_law_1162 (lv_at hl 9 rfl) ?_
                    refine lv_iconst (v := nI 2) hx hb dL_law_1164 (by decide) ?_
                    refine va_calli (va_runV (As := [.int (nI i9), .int (nI 2)]) (rest := []) ⟨hx, hb, hml, hown, hts⟩ (n_pair l hst D cI cZ cO ad n np nq F i9 2 hJ (by omega) (by omega)) (cwV 2 hts gL_law_X0_pair rfl rfl rfl (by decide +kernel) ⟨Nat.le_trans (Nat.le_of_ble_eq_true rfl) hRf, Nat.le_trans (Nat.le_of_ble_eq_true rfl) hRl⟩) (prG_V hG hK (hE.1.at hS sub_id sub_no) EnvG_c) rfl rfl hl.1 rfl (lv_room (Nat.le_of_ble_eq_true rfl)) dL_law_1165 ⟨by omega, by omega⟩) hS (fun _ _ h => h.elim) (fun _ h => h.elim) (fun r_16 _ t H1 locs ht hvm hw hB hz hk hS => ?_)
                    have hG := hG.kept hk
                    have h_z := h_z.kept (hk _ h_z.lt id)
                    have h_ce := h_ce.kept (hk _ h_ce.lt id)
                    have h_ma := h_ma.kept (hk _ h_ma.lt id)
                    have h_hao := h_hao.kept (hk _ h_hao.lt id)
                    have h_ha := fun (i : Nat) (hi : i < 20) => (h_ha i hi).kept (hk _ (h_ha i hi).lt id)
                    have h_th := h_th.kept (hk _ h_th.lt id)
                    have h_du := h_du.kept (hk _ h_du.lt id)
                    obtain rfl := hw
                    rw [(show prT F i9 2 = F 10 i9 from rfl)]
                    rw [show F 10 i9 = nI j9 from ej9]
                    refine lv_iload_n hx hb dL_law_1168 rfl (lv_at hl 2 rfl) ?_
                    refine nv_icmp_le (tgt := 1174) hx hb (by omega) (by omega) dL_law_1169 (by decide) (fun c_17 => ?_) (fun c_17 => ?_)
                    · refine lv_iinc (k := 9) (v := nI (i9 + 1)) (lv' := [(24, .int (nI (i9 + 1))), (0, .ref b), (1, .ref (ad 0)), (2, .int (nI n)), (3, .ref z), (4, .int (nI tm)), (20, .ref ce), (21, .ref ma), (22, .ref ha), (23, .ref th), (25, .int (nI 1)), (26, .ref du), (27, .int (nI o9))]) hx hb dL_law_1174 hl rfl (nI_add i9 1) (by decide) rfl (fun ls hl => ?_)
                      refine lv_goto (tgt := 1039) hx hb dL_law_1177 (by decide) ?_
                      exact ih1039 (i9 + 1) _ _ _ _ _ (by omega) (by omega) (by omega) (by omega) hG h_z h_ce h_ma h_hao h_ha h_th hS (lv_sub hl [1, 2, 3, 4, 5, 6, 7, 8, 9, 0] rfl)
                    · exfalso; omega
              · have hkp := kP_le o9
                refine lv_aload hx hb dL_law_1097 (lv_at hl 7 rfl) ?_
                refine lv_iload hx hb dL_law_1099 (lv_at hl 9 rfl) ?_
                refine w_aald hx hb hK 2 h_hao rfl (by omega) (by omega) dL_law_1101 ?_
                refine lv_iload hx hb dL_law_1102 (lv_at hl 12 rfl) ?_
                refine w_iald hx hb hK 0 (h_ha i9 (by omega)) rfl (by omega) (by decide) dL_law_1104 ?_
                rw [show gh9 i9 o9 = nI (kP o9) from by rw [hha i9 (by omega) o9 (by omega), ((hJ.2.2.2.2.1 i9 (by omega)).1 e12).1 o9 (by omega)]]
                refine lv_iload hx hb dL_law_1105 (lv_at hl 10 rfl) ?_
                refine nv_if_eq (tgt := 1118) hx hb (by omega) dL_law_1107 (by decide) (fun h9 => absurd h9 (by decide)) (fun _ => ?_)
                refine lv_aload hx hb dL_law_1110 (lv_at hl 11 rfl) ?_
                refine lv_iload hx hb dL_law_1112 (lv_at hl 12 rfl) ?_
                refine w_iald hx hb hK 0 h_du rfl (by omega) (by omega) dL_law_1114 ?_
                rw [hdu o9 (by omega)]
                refine lv_goto (tgt := 1119) hx hb dL_law_1115 (by decide) ?_
                refine nv_icmp_eq (tgt := 1124) hx hb (by omega) (by omega) dL_law_1119 (by decide) (fun c_19 => ?_) (fun c_19 => ?_)
                · refine lv_iinc (k := 12) (v := nI (o9 + 1)) (lv' := [(27, .int (nI (o9 + 1))), (0, .ref b), (1, .ref (ad 0)), (2, .int (nI n)), (3, .ref z), (4, .int (nI tm)), (20, .ref ce), (21, .ref ma), (22, .ref ha), (23, .ref th), (24, .int (nI i9)), (25, .int (nI 1)), (26, .ref du)]) hx hb dL_law_1124 hl rfl (nI_add o9 1) (by decide) rfl (fun ls hl => ?_)
                  refine lv_goto (tgt := 1091) hx hb dL_law_1127 (by decide) ?_
                  exact ih1091 (o9 + 1) _ _ _ _ _ (by omega) (by omega) (by omega) (by omega) hG h_z h_ce h_ma h_hao h_ha h_th h_du hS (lv_sub hl [1, 2, 3, 4, 5, 6, 7, 8, 9, 10, 11, 12, 0] rfl)
                · exact absurd rfl c_19
          exact L1091 _ 0 _ _ _ _ _ (Nat.lt_succ_self _) (by omega) (by omega) (by omega) hG h_z h_ce h_ma h_hao h_ha h_th h_du hS (lv_sub hl [3, 4, 5, 6, 7, 8, 9, 10, 11, 12, 2, 1, 0] rfl)
        · rw [show F 12 i9 = nI 1 from e12]
          refine nv_if_ne (tgt := 1063) hx hb (by omega) dL_law_1056 (by decide) (fun _ => ?_) (fun h9 => absurd h9 (by decide))
          refine lv_iconst (v := nI 0) hx hb dL_law_1063 (by decide) ?_
          refine lv_istore (lv' := [(25, .int (nI 0)), (0, .ref b), (1, .ref (ad 0)), (2, .int (nI n)), (3, .ref z), (4, .int (nI tm)), (20, .ref ce), (21, .ref ma), (22, .ref ha), (23, .ref th), (24, .int (nI i9))]) hx hb dL_law_1064 hl (by decide) rfl (fun ls hl => ?_)
          refine lv_iconst (v := nI 4) hx hb dL_law_1066 (by decide) ?_
          obtain ⟨du, eq_du⟩ : ∃ z, H1.size = z := ⟨_, rfl⟩
          have htd : th < du := by have := h_th.lt; omega
          refine w_newaQ eq_du hx hb (hts (.arrayClass .int) (by decide +kernel)) hK 0 rfl hS (by omega) (by omega) (by omega) (by omega) dL_law_1067 (fun H1 h_du z1 o1 hS => ?_)
          have hG := hG.newQ eq_du o1
          have h_z := h_z.kept (o1 _ (by have := h_z.lt; omega))
          have h_ce := h_ce.kept (o1 _ (by have := h_ce.lt; omega))
          have h_ma := h_ma.kept (o1 _ (by have := h_ma.lt; omega))
          have h_hao := h_hao.kept (o1 _ (by have := h_hao.lt; omega))
          have h_ha := fun (i : Nat) (hi : i < 20) => (h_ha i hi).kept (o1 _ (by have := (h_ha i hi).lt; omega))
          have h_th := h_th.kept (o1 _ (by have := h_th.lt; omega))
          obtain ⟨f_21, ef_21⟩ : ∃ z : Nat → Int32, z = (fun _ => 0) := ⟨_, rfl⟩
          rw [← ef_21] at h_du
          refine lv_dup hx hb dL_law_1069 rfl ?_
          refine lv_iconst (v := nI 0) hx hb dL_law_1070 (by decide) ?_
          refine lv_iconst (v := nI 2) hx hb dL_law_1071 (by decide) ?_
          refine w_iast hx hb hK 0 h_du rfl (show s.heap.size ≤ _ by omega) hS (by omega) (by omega) dL_law_1072 (fun H1 locs h_du z1 oq hS => ?_)
          have hG := hG.put hinj hadz (by omega) oq
          have h_z := h_z.kept (oq _ (by omega))
          have h_ce := h_ce.kept (oq _ (by omega))
          have h_ma := h_ma.kept (oq _ (by omega))
          have h_hao := h_hao.kept (oq _ (by omega))
          have h_ha := fun (i : Nat) (hi : i < 20) => (h_ha i hi).kept (oq _ (by omega))
          have h_th := h_th.kept (oq _ (by omega))
          obtain ⟨f_22, ef_22⟩ : ∃ z, z = upd f_21 0 (nI 2) := ⟨_, rfl⟩
          rw [← ef_22] at h_du
          refine lv_dup hx hb dL_law_1073 rfl ?_
          refine lv_iconst (v := nI 1) hx hb dL_law_1074 (by decide) ?_
          refine lv_iconst (v := nI 2) hx hb dL_law_1075 (by decide) ?_
          refine w_iast hx hb hK 0 h_du rfl (show s.heap.size ≤ _ by omega) hS (by omega) (by omega) dL_law_1076 (fun H1 locs h_du z1 oq hS => ?_)
          have hG := hG.put hinj hadz (by omega) oq
          have h_z := h_z.kept (oq _ (by omega))
          have h_ce := h_ce.kept (oq _ (by omega))
          have h_ma := h_ma.kept (oq _ (by omega))
          have h_hao := h_hao.kept (oq _ (by omega))
          have h_ha := fun (i : Nat) (hi : i < 20) => (h_ha i hi).kept (oq _ (by omega))
          have h_th := h_th.kept (oq _ (by omega))
          obtain ⟨f_23, ef_23⟩ : ∃ z, z = upd f_22 1 (nI 2) := ⟨_, rfl⟩
          rw [← ef_23] at h_du
          refine lv_dup hx hb dL_law_1077 rfl ?_
          refine lv_iconst (v := nI 2) hx hb dL_law_1078 (by decide) ?_
          refine lv_bipush (v := nI 6) hx hb dL_law_1079 (by decide) ?_
          refine w_iast hx hb hK 0 h_du rfl (show s.heap.size ≤ _ by omega) hS (by omega) (by omega) dL_law_1081 (fun H1 locs h_du z1 oq hS => ?_)
          have hG := hG.put hinj hadz (by omega) oq
          have h_z := h_z.kept (oq _ (by omega))
          have h_ce := h_ce.kept (oq _ (by omega))
          have h_ma := h_ma.kept (oq _ (by omega))
          have h_hao := h_hao.kept (oq _ (by omega))
          have h_ha := fun (i : Nat) (hi : i < 20) => (h_ha i hi).kept (oq _ (by omega))
          have h_th := h_th.kept (oq _ (by omega))
          obtain ⟨f_24, ef_24⟩ : ∃ z, z = upd f_23 2 (nI 6) := ⟨_, rfl⟩
          rw [← ef_24] at h_du
          refine lv_dup hx hb dL_law_1082 rfl ?_
          refine lv_iconst (v := nI 3) hx hb dL_law_1083 (by decide) ?_
          refine lv_iconst (v := nI 4) hx hb dL_law_1084 (by decide) ?_
          refine w_iast hx hb hK 0 h_du rfl (show s.heap.size ≤ _ by omega) hS (by omega) (by omega) dL_law_1085 (fun H1 locs h_du z1 oq hS => ?_)
          have hG := hG.put hinj hadz (by omega) oq
          have h_z := h_z.kept (oq _ (by omega))
          have h_ce := h_ce.kept (oq _ (by omega))
          have h_ma := h_ma.kept (oq _ (by omega))
          have h_hao := h_hao.kept (oq _ (by omega))
          have h_ha := fun (i : Nat) (hi : i < 20) => (h_ha i hi).kept (oq _ (by omega))
          have h_th := h_th.kept (oq _ (by omega))
          obtain ⟨f_25, ef_25⟩ : ∃ z, z = upd f_24 3 (nI 4) := ⟨_, rfl⟩
          rw [← ef_25] at h_du
          refine lv_astore (lv' := [(26, .ref du), (25, .int (nI 0)), (0, .ref b), (1, .ref (ad 0)), (2, .int (nI n)), (3, .ref z), (4, .int (nI tm)), (20, .ref ce), (21, .ref ma), (22, .ref ha), (23, .ref th), (24, .int (nI i9))]) hx hb dL_law_1086 hl (by decide) rfl (fun ls hl => ?_)
          have hdu : ∀ j, j < 4 → f_25 j = nI (kP j) := by intro j hj; rw [ef_25, ef_24, ef_23, ef_22, ef_21]; exact due_ok j hj
          refine lv_iconst (v := nI 0) hx hb dL_law_1088 (by decide) ?_
          refine lv_istore (lv' := [(27, .int (nI 0)), (26, .ref du), (25, .int (nI 0)), (0, .ref b), (1, .ref (ad 0)), (2, .int (nI n)), (3, .ref z), (4, .int (nI tm)), (20, .ref ce), (21, .ref ma), (22, .ref ha), (23, .ref th), (24, .int (nI i9))]) hx hb dL_law_1089 hl (by decide) rfl (fun ls hl => ?_)
          have L1091 : ∀ (fu : Nat) (o9 : Nat) (c1091 s1091 : Nat) (H1 : Heap) (locs : List Loc) (ls : Array Slot), 4 - o9 < fu → (c1091 ≤ cc + 20 * i9 + 6) → (s1091 ≤ ss + 120 * i9 + 40) → (o9 ≤ 4) → GW D cI cZ cO ad n np nq F H1 → (ar cI z 4 szf H1) → (ar cI ce n fc H1) → (ar cI ma n fm H1) → (ao cO ha 20 H1) → (∀ i, i < 20 → ar cI (ha + 1 + i) 5 (gh9 i) H1) → (ar cI th 20 ft H1) → (ar cI du 4 f_25 H1) → va_S (LA s) s.heap H1 locs → lv_has ls 29 [(0, .ref b), (1, .ref (ad 0)), (2, .int (nI n)), (3, .ref z), (4, .int (nI tm)), (20, .ref ce), (21, .ref ma), (22, .ref ha), (23, .ref th), (24, .int (nI i9)), (25, .int (nI 0)), (26, .ref du), (27, .int (nI o9))] → W p l e R s m args below meth c H1 locs c1091 s1091 Q (F0 m 1091 ls []) := by
            intro fu
            induction fu with
            | zero => intro _ _ _ _ _ _ h; exact absurd h (Nat.not_lt_zero _)
            | succ fu ih1091 =>
              intro o9 c1091 s1091 H1 locs ls hm1091 hc1091 hs1091 ho hG h_z h_ce h_ma h_hao h_ha h_th h_du hS hl
              refine lv_iload hx hb dL_law_1091 (lv_at hl 12 rfl) ?_
              refine lv_iconst (v := nI 4) hx hb dL_law_1093 (by decide) ?_
              refine nv_icmp_ge (tgt := 1130) hx hb (by omega) (by omega) dL_law_1094 (by decide) (fun c_26 => ?_) (fun c_26 => ?_)
              · refine lv_iload hx hb dL_law_1130 (lv_at hl 10 rfl) ?_
                refine nv_if_eq (tgt := 1150) hx hb (by omega) dL_law_1132 (by decide) (fun _ => ?_) (fun h9 => absurd h9 (by decide))
                refine lv_aload_n hx hb dL_law_1150 rfl (lv_at hl 1 rfl) ?_
                refine lv_iload hx hb dL_law_1151 (lv_at hl 9 rfl) ?_
                refine lv_iconst (v := nI 2) hx hb dL_law_1153 (by decide) ?_
                refine va_calli (va_runV (As := [.int (nI i9), .int (nI 2)]) (rest := []) ⟨hx, hb, hml, hown, hts⟩ (n_pair l hst D cI cZ cO ad n np nq F i9 2 hJ (by omega) (by omega)) (cwV 2 hts gL_law_X0_pair rfl rfl rfl (by decide +kernel) ⟨Nat.le_trans (Nat.le_of_ble_eq_true rfl) hRf, Nat.le_trans (Nat.le_of_ble_eq_true rfl) hRl⟩) (prG_V hG hK (hE.1.at hS sub_id sub_no) EnvG_c) rfl rfl hl.1 rfl (lv_room (Nat.le_of_ble_eq_true rfl)) dL_law_1154 ⟨by omega, by omega⟩) hS (fun _ _ h => h.elim) (fun _ h => h.elim) (fun r_28 _ t H1 locs ht hvm hw hB hz hk hS => ?_)
                have hG := hG.kept hk
                have h_z := h_z.kept (hk _ h_z.lt id)
                have h_ce := h_ce.kept (hk _ h_ce.lt id)
                have h_ma := h_ma.kept (hk _ h_ma.lt id)
                have h_hao := h_hao.kept (hk _ h_hao.lt id)
                have h_ha := fun (i : Nat) (hi : i < 20) => (h_ha i hi).kept (hk _ (h_ha i hi).lt id)
                have h_th := h_th.kept (hk _ h_th.lt id)
                have h_du := h_du.kept (hk _ h_du.lt id)
                obtain rfl := hw
                rw [(show prT F i9 2 = F 10 i9 from rfl)]
                rw [show F 10 i9 = nI j9 from ej9]
                refine lv_iconst (v := nI 1) hx hb dL_law_1157 (by decide) ?_
                refine nv_icmp_lt (tgt := 1172) hx hb (by omega) (by omega) dL_law_1158 (by decide) (fun c_29 => ?_) (fun c_29 => ?_)
                · exfalso; omega
                · refine lv_aload_n hx hb dL_law_1161 rfl (lv_at hl 1 rfl) ?_
                  refine lv_iload hx hb dL_law_1162 (lv_at hl 9 rfl) ?_
                  refine lv_iconst (v := nI 2) hx hb dL_law_1164 (by decide) ?_
                  refine va_calli (va_runV (As := [.int (nI i9), .int (nI 2)]) (rest := []) ⟨hx, hb, hml, hown, hts⟩ (n_pair l hst D cI cZ cO ad n np nq F i9 2 hJ (by omega) (by omega)) (cwV 2 hts gL_law_X0_pair rfl rfl rfl (by decide +kernel) ⟨Nat.le_trans (Nat.le_of_ble_eq_true rfl) hRf, Nat.le_trans (Nat.le_of_ble_eq_true rfl) hRl⟩) (prG_V hG hK (hE.1.at hS sub_id sub_no) EnvG_c) rfl rfl hl.1 rfl (lv_room (Nat.le_of_ble_eq_true rfl)) dL_law_1165 ⟨by omega, by omega⟩) hS (fun _ _ h => h.elim) (fun _ h => h.elim) (fun r_30 _ t H1 locs ht hvm hw hB hz hk hS => ?_)
                  have hG := hG.kept hk
                  have h_z := h_z.kept (hk _ h_z.lt id)
                  have h_ce := h_ce.kept (hk _ h_ce.lt id)
                  have h_ma := h_ma.kept (hk _ h_ma.lt id)
                  have h_hao := h_hao.kept (hk _ h_hao.lt id)
                  have h_ha := fun (i : Nat) (hi : i < 20) => (h_ha i hi).kept (hk _ (h_ha i hi).lt id)
                  have h_th := h_th.kept (hk _ h_th.lt id)
                  have h_du := h_du.kept (hk _ h_du.lt id)
                  obtain rfl := hw
                  rw [(show prT F i9 2 = F 10 i9 from rfl)]
                  rw [show F 10 i9 = nI j9 from ej9]
                  refine lv_iload_n hx hb dL_law_1168 rfl (lv_at hl 2 rfl) ?_
                  refine nv_icmp_le (tgt := 1174) hx hb (by omega) (by omega) dL_law_1169 (by decide) (fun c_31 => ?_) (fun c_31 => ?_)
                  · refine lv_iinc (k := 9) (v := nI (i9 + 1)) (lv' := [(24, .int (nI (i9 + 1))), (0, .ref b), (1, .ref (ad 0)), (2, .int (nI n)), (3, .ref z), (4, .int (nI tm)), (20, .ref ce), (21, .ref ma), (22, .ref ha), (23, .ref th), (25, .int (nI 0)), (26, .ref du), (27, .int (nI o9))]) hx hb dL_law_1174 hl rfl (nI_add i9 1) (by decide) rfl (fun ls hl => ?_)
                    refine lv_goto (tgt := 1039) hx hb dL_law_1177 (by decide) ?_
                    exact ih1039 (i9 + 1) _ _ _ _ _ (by omega) (by omega) (by omega) (by omega) hG h_z h_ce h_ma h_hao h_ha h_th hS (lv_sub hl [1, 2, 3, 4, 5, 6, 7, 8, 9, 0] rfl)
                  · exfalso; omega
              · have hkp := kP_le o9
                refine lv_aload hx hb dL_law_1097 (lv_at hl 7 rfl) ?_
                refine lv_iload hx hb dL_law_1099 (lv_at hl 9 rfl) ?_
                refine w_aald hx hb hK 2 h_hao rfl (by omega) (by omega) dL_law_1101 ?_
                refine lv_iload hx hb dL_law_1102 (lv_at hl 12 rfl) ?_
                refine w_iald hx hb hK 0 (h_ha i9 (by omega)) rfl (by omega) (by decide) dL_law_1104 ?_
                rw [show gh9 i9 o9 = nI 0 from by rw [hha i9 (by omega) o9 (by omega), no_pair hJ (by omega) e12]]
                refine lv_iload hx hb dL_law_1105 (lv_at hl 10 rfl) ?_
                refine nv_if_eq (tgt := 1118) hx hb (by omega) dL_law_1107 (by decide) (fun _ => ?_) (fun h9 => absurd h9 (by decide))
                refine lv_iconst (v := nI 0) hx hb dL_law_1118 (by decide) ?_
                refine nv_icmp_eq (tgt := 1124) hx hb (by omega) (by omega) dL_law_1119 (by decide) (fun _ => ?_) (fun h9 => absurd h9 (by decide))
                refine lv_iinc (k := 12) (v := nI (o9 + 1)) (lv' := [(27, .int (nI (o9 + 1))), (0, .ref b), (1, .ref (ad 0)), (2, .int (nI n)), (3, .ref z), (4, .int (nI tm)), (20, .ref ce), (21, .ref ma), (22, .ref ha), (23, .ref th), (24, .int (nI i9)), (25, .int (nI 0)), (26, .ref du)]) hx hb dL_law_1124 hl rfl (nI_add o9 1) (by decide) rfl (fun ls hl => ?_)
                refine lv_goto (tgt := 1091) hx hb dL_law_1127 (by decide) ?_
                exact ih1091 (o9 + 1) _ _ _ _ _ (by omega) (by omega) (by omega) (by omega) hG h_z h_ce h_ma h_hao h_ha h_th h_du hS (lv_sub hl [1, 2, 3, 4, 5, 6, 7, 8, 9, 10, 11, 12, 0] rfl)
          exact L1091 _ 0 _ _ _ _ _ (Nat.lt_succ_self _) (by omega) (by omega) (by omega) hG h_z h_ce h_ma h_hao h_ha h_th h_du hS (lv_sub hl [3, 4, 5, 6, 7, 8, 9, 10, 11, 12, 2, 1, 0] rfl)
  exact L1039 _ 0 _ _ _ _ _ (Nat.lt_succ_self _) (by omega) (by omega) (by omega) hG h_z h_ce h_ma h_hao h_ha h_th hS (lv_sub hl [1, 2, 3, 4, 5, 6, 7, 8, 9, 0] rfl)
