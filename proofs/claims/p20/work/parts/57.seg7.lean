set_option maxHeartbeats 4000000 in
set_option maxRecDepth 100000 in
/-- the skins -/
theorem sg_7 {p : Program} {l : Launch} {e : Env} {R : Room} {s : State} {m : MethodId} {args : Array Value} {below : List Frame} {meth : Method} {c : Code} {Q : State → Prop} {D : va_G} {cI cZ cO : ClassId} {ad : Nat → Nat} {b L : Nat} {xs : Nat → Int32} (hst : l.stackTraces = false) (hCx : LC cL_law 29 wsL_law p s m c args R D cI cZ cO b L xs) (hAD : inj ad 23 ∧ ∀ i, i ≤ 23 → s.heap.size ≤ ad i) (n np nq : Nat) (F : Nat → Nat → Int32) (z : Nat) (szf : Nat → Int32) (tm : Nat) (ce ma : Nat) (fc fm : Nat → Int32) (hadz : ∀ i, i ≤ 23 → ad i < z) (hzA : s.heap.size ≤ z) (hsz : ∀ k, k < 4 → szf k = nI (kz k)) (htm : tm < 24) (hn1 : 1 ≤ n) (hzc : z < ce) (hcm : ce < ma) (hce : ∀ s, s < n → fc s = nI (cv (F (14 + s)) (nI 3))) (hma : ∀ s, s < n → fm s = F 2 s) (hJ : J n np nq F) (cc ss : Nat) (H1 : Heap) (locs : List Loc) (ls : Array Slot) (hRc : cc + 250 ≤ R.cells) (hRs : ss + 1500 ≤ R.slots) (hG : GW D cI cZ cO ad n np nq F H1) (h_z : ar cI z 4 szf H1) (h_ce : ar cI ce n fc H1) (h_ma : ar cI ma n fm H1) (hS : va_S (LA s) s.heap H1 locs) (hl : lv_has ls 29 [(0, .ref b), (1, .ref (ad 0)), (2, .int (nI n)), (3, .ref z), (4, .int (nI tm)), (20, .ref ce), (21, .ref ma)]) (kk1292 : ∀ (c9 : Nat) (a9 : Nat) (cc' ss' : Nat) (H1 : Heap) (locs : List Loc) (ls : Array Slot), cc' ≤ cc + 250 → ss' ≤ ss + 1500 → (c9 = shC F n) → (a9 = shA F n) → (c9 ≤ 960) → (a9 ≤ 960) → GW D cI cZ cO ad n np nq F H1 → (ar cI z 4 szf H1) → va_S (LA s) s.heap H1 locs → lv_has ls 29 [(0, .ref b), (1, .ref (ad 0)), (2, .int (nI n)), (3, .ref z), (4, .int (nI tm)), (24, .int (nI c9)), (25, .int (nI a9))] → W p l e R s m args below meth c H1 locs cc' ss' Q (F0 m 1292 ls [])) : W p l e R s m args below meth c H1 locs cc ss Q (F0 m 1180 ls []) := by
  obtain ⟨hx, hb, hml, hown, hts, hK, hX, hbl, hL, hAO, hE, hRf, hRl⟩ := id hCx
  obtain ⟨hinj, hLA⟩ := id hAD
  have hbA : ¬ LA s b := Nat.not_le.mpr hbl
  have hAG : ∀ q, inA ad 23 q → LA s q := fun q ⟨i, hi, e⟩ => e ▸ hLA i hi
  obtain ⟨hn9, hnp9, hnq9, hsk9, hrip9, -⟩ := id hJ.inv
  refine lv_iconst (v := nI 0) hx hb dL_law_1180 (by decide) ?_
  refine lv_istore (lv' := [(24, .int (nI 0)), (0, .ref b), (1, .ref (ad 0)), (2, .int (nI n)), (3, .ref z), (4, .int (nI tm)), (20, .ref ce), (21, .ref ma)]) hx hb dL_law_1181 hl (by decide) rfl (fun ls hl => ?_)
  refine lv_iconst (v := nI 0) hx hb dL_law_1183 (by decide) ?_
  refine lv_istore (lv' := [(25, .int (nI 0)), (24, .int (nI 0)), (0, .ref b), (1, .ref (ad 0)), (2, .int (nI n)), (3, .ref z), (4, .int (nI tm)), (20, .ref ce), (21, .ref ma)]) hx hb dL_law_1184 hl (by decide) rfl (fun ls hl => ?_)
  refine lv_iconst (v := nI 0) hx hb dL_law_1186 (by decide) ?_
  refine lv_istore (lv' := [(26, .int (nI 0)), (25, .int (nI 0)), (24, .int (nI 0)), (0, .ref b), (1, .ref (ad 0)), (2, .int (nI n)), (3, .ref z), (4, .int (nI tm)), (20, .ref ce), (21, .ref ma)]) hx hb dL_law_1187 hl (by decide) rfl (fun ls hl => ?_)
  have L1189 : ∀ (fu : Nat) (c9 : Nat) (a9 : Nat) (k9 : Nat) (c1189 s1189 : Nat) (H1 : Heap) (locs : List Loc) (ls : Array Slot), n - k9 < fu → (c1189 ≤ cc + 20 * k9) → (s1189 ≤ ss + 120 * k9) → (k9 ≤ n) → (c9 = shC F k9) → (a9 = shA F k9) → (c9 ≤ 96 * k9) → (a9 ≤ 96 * k9) → GW D cI cZ cO ad n np nq F H1 → (ar cI z 4 szf H1) → (ar cI ce n fc H1) → (ar cI ma n fm H1) → va_S (LA s) s.heap H1 locs → lv_has ls 29 [(0, .ref b), (1, .ref (ad 0)), (2, .int (nI n)), (3, .ref z), (4, .int (nI tm)), (20, .ref ce), (21, .ref ma), (24, .int (nI c9)), (25, .int (nI a9)), (26, .int (nI k9))] → W p l e R s m args below meth c H1 locs c1189 s1189 Q (F0 m 1189 ls []) := by
    intro fu
    induction fu with
    | zero => intro _ _ _ _ _ _ _ _ h; exact absurd h (Nat.not_lt_zero _)
    | succ fu ih1189 =>
      intro c9 a9 k9 c1189 s1189 H1 locs ls hm1189 hc1189 hs1189 hk hc ha hcb hab hG h_z h_ce h_ma hS hl
      refine lv_iload hx hb dL_law_1189 (lv_at hl 9 rfl) ?_
      refine lv_iload_n hx hb dL_law_1191 rfl (lv_at hl 2 rfl) ?_
      refine nv_icmp_ge (tgt := 1292) hx hb (by omega) (by omega) dL_law_1192 (by decide) (fun c_1 => ?_) (fun c_1 => ?_)
      · exact kk1292 c9 a9 _ _ _ _ _ (by omega) (by omega) (by rw [hc, show k9 = n by omega]) (by rw [ha, show k9 = n by omega]) (by omega) (by omega) hG h_z hS (lv_sub hl [0, 1, 2, 3, 4, 7, 8] rfl)
      · have ht9 := cv_tot (hJ.small (show k9 < n by omega))
        refine lv_aload_n hx hb dL_law_1195 rfl (lv_at hl 1 rfl) ?_
        refine lv_iload hx hb dL_law_1196 (lv_at hl 9 rfl) ?_
        refine lv_iconst (v := nI 4) hx hb dL_law_1198 (by decide) ?_
        refine va_calli (va_runV (As := [.int (nI k9), .int (nI 4)]) (rest := []) ⟨hx, hb, hml, hown, hts⟩ (n_skin l hst D cI cZ cO ad n np nq F k9 4 hJ (by omega) (by omega)) (cwV 2 hts gL_law_X0_skin rfl rfl rfl (by decide +kernel) ⟨Nat.le_trans (Nat.le_of_ble_eq_true rfl) hRf, Nat.le_trans (Nat.le_of_ble_eq_true rfl) hRl⟩) (prG_V hG hK (hE.1.at hS sub_id sub_no) EnvG_c) rfl rfl hl.1 rfl (lv_room (Nat.le_of_ble_eq_true rfl)) dL_law_1199 ⟨by omega, by omega⟩) hS (fun _ _ h => h.elim) (fun _ h => h.elim) (fun r_2 _ t H1 locs ht hvm hw hB hz hk hS => ?_)
        have hG := hG.kept hk
        have h_z := h_z.kept (hk _ h_z.lt id)
        have h_ce := h_ce.kept (hk _ h_ce.lt id)
        have h_ma := h_ma.kept (hk _ h_ma.lt id)
        obtain rfl := hw
        rw [sk_4 F k9]
        refine lv_aload hx hb dL_law_1202 (lv_at hl 5 rfl) ?_
        refine lv_iload hx hb dL_law_1204 (lv_at hl 9 rfl) ?_
        refine w_iald hx hb hK 0 h_ce rfl (by omega) (by omega) dL_law_1206 ?_
        rw [hce k9 (by omega)]
        refine nv_icmp_ne (tgt := 1259) hx hb (by omega) (by omega) dL_law_1207 (by decide) (fun c_3 => ?_) (fun c_3 => ?_)
        · exact absurd rfl c_3
        · refine lv_aload_n hx hb dL_law_1210 rfl (lv_at hl 1 rfl) ?_
          refine lv_iload hx hb dL_law_1211 (lv_at hl 9 rfl) ?_
          refine lv_iconst (v := nI 5) hx hb dL_law_1213 (by decide) ?_
          refine va_calli (va_runV (As := [.int (nI k9), .int (nI 5)]) (rest := []) ⟨hx, hb, hml, hown, hts⟩ (n_skin l hst D cI cZ cO ad n np nq F k9 5 hJ (by omega) (by omega)) (cwV 2 hts gL_law_X0_skin rfl rfl rfl (by decide +kernel) ⟨Nat.le_trans (Nat.le_of_ble_eq_true rfl) hRf, Nat.le_trans (Nat.le_of_ble_eq_true rfl) hRl⟩) (prG_V hG hK (hE.1.at hS sub_id sub_no) EnvG_c) rfl rfl hl.1 rfl (lv_room (Nat.le_of_ble_eq_true rfl)) dL_law_1214 ⟨by omega, by omega⟩) hS (fun _ _ h => h.elim) (fun _ h => h.elim) (fun r_4 _ t H1 locs ht hvm hw hB hz hk hS => ?_)
          have hG := hG.kept hk
          have h_z := h_z.kept (hk _ h_z.lt id)
          have h_ce := h_ce.kept (hk _ h_ce.lt id)
          have h_ma := h_ma.kept (hk _ h_ma.lt id)
          obtain rfl := hw
          rw [sk_5 F k9]
          refine lv_aload hx hb dL_law_1217 (lv_at hl 6 rfl) ?_
          refine lv_iload hx hb dL_law_1219 (lv_at hl 9 rfl) ?_
          refine w_iald hx hb hK 0 h_ma rfl (by omega) (by omega) dL_law_1221 ?_
          rw [hma k9 (by omega)]
          refine lv_icmp_ne (tgt := 1259) hx hb dL_law_1222 (by decide) (fun c_5 => ?_) (fun c_5 => ?_)
          · exact absurd rfl c_5
          · refine lv_aload_n hx hb dL_law_1225 rfl (lv_at hl 1 rfl) ?_
            refine lv_iload hx hb dL_law_1226 (lv_at hl 9 rfl) ?_
            refine lv_iconst (v := nI 1) hx hb dL_law_1228 (by decide) ?_
            refine va_calli (va_runV (As := [.int (nI k9), .int (nI 1)]) (rest := []) ⟨hx, hb, hml, hown, hts⟩ (n_skin l hst D cI cZ cO ad n np nq F k9 1 hJ (by omega) (by omega)) (cwV 2 hts gL_law_X0_skin rfl rfl rfl (by decide +kernel) ⟨Nat.le_trans (Nat.le_of_ble_eq_true rfl) hRf, Nat.le_trans (Nat.le_of_ble_eq_true rfl) hRl⟩) (prG_V hG hK (hE.1.at hS sub_id sub_no) EnvG_c) rfl rfl hl.1 rfl (lv_room (Nat.le_of_ble_eq_true rfl)) dL_law_1229 ⟨by omega, by omega⟩) hS (fun _ _ h => h.elim) (fun _ h => h.elim) (fun r_6 _ t H1 locs ht hvm hw hB hz hk hS => ?_)
            have hG := hG.kept hk
            have h_z := h_z.kept (hk _ h_z.lt id)
            have h_ce := h_ce.kept (hk _ h_ce.lt id)
            have h_ma := h_ma.kept (hk _ h_ma.lt id)
            obtain rfl := hw
            rw [sk_1 F k9]
            refine lv_aload_n hx hb dL_law_1232 rfl (lv_at hl 1 rfl) ?_
            refine lv_iload hx hb dL_law_1233 (lv_at hl 9 rfl) ?_
            refine lv_iconst (v := nI 2) hx hb dL_law_1235 (by decide) ?_
            refine va_calli (va_runV (As := [.int (nI k9), .int (nI 2)]) (rest := [.int (nI (cv (F (14 + k9)) (nI 0)))]) ⟨hx, hb, hml, hown, hts⟩ (n_skin l hst D cI cZ cO ad n np nq F k9 2 hJ (by omega) (by omega)) (cwV 2 hts gL_law_X0_skin rfl rfl rfl (by decide +kernel) ⟨Nat.le_trans (Nat.le_of_ble_eq_true rfl) hRf, Nat.le_trans (Nat.le_of_ble_eq_true rfl) hRl⟩) (prG_V hG hK (hE.1.at hS sub_id sub_no) EnvG_c) rfl rfl hl.1 rfl (lv_room (Nat.le_of_ble_eq_true rfl)) dL_law_1236 ⟨by omega, by omega⟩) hS (fun _ _ h => h.elim) (fun _ h => h.elim) (fun r_7 _ t H1 locs ht hvm hw hB hz hk hS => ?_)
            have hG := hG.kept hk
            have h_z := h_z.kept (hk _ h_z.lt id)
            have h_ce := h_ce.kept (hk _ h_ce.lt id)
            have h_ma := h_ma.kept (hk _ h_ma.lt id)
            obtain rfl := hw
            rw [sk_2 F k9]
            refine nv_iadd hx hb dL_law_1239 ?_
            refine lv_aload_n hx hb dL_law_1240 rfl (lv_at hl 1 rfl) ?_
            refine lv_iload hx hb dL_law_1241 (lv_at hl 9 rfl) ?_
            refine lv_iconst (v := nI 3) hx hb dL_law_1243 (by decide) ?_
            refine va_calli (va_runV (As := [.int (nI k9), .int (nI 3)]) (rest := [.int (nI ((cv (F (14 + k9)) (nI 0)) + (cv (F (14 + k9)) (nI 1))))]) ⟨hx, hb, hml, hown, hts⟩ (n_skin l hst D cI cZ cO ad n np nq F k9 3 hJ (by omega) (by omega)) (cwV 2 hts gL_law_X0_skin rfl rfl rfl (by decide +kernel) ⟨Nat.le_trans (Nat.le_of_ble_eq_true rfl) hRf, Nat.le_trans (Nat.le_of_ble_eq_true rfl) hRl⟩) (prG_V hG hK (hE.1.at hS sub_id sub_no) EnvG_c) rfl rfl hl.1 rfl (lv_room (Nat.le_of_ble_eq_true rfl)) dL_law_1244 ⟨by omega, by omega⟩) hS (fun _ _ h => h.elim) (fun _ h => h.elim) (fun r_8 _ t H1 locs ht hvm hw hB hz hk hS => ?_)
            have hG := hG.kept hk
            have h_z := h_z.kept (hk _ h_z.lt id)
            have h_ce := h_ce.kept (hk _ h_ce.lt id)
            have h_ma := h_ma.kept (hk _ h_ma.lt id)
            obtain rfl := hw
            rw [sk_3 F k9]
            refine nv_iadd hx hb dL_law_1247 ?_
            refine lv_aload hx hb dL_law_1248 (lv_at hl 5 rfl) ?_
            refine lv_iload hx hb dL_law_1250 (lv_at hl 9 rfl) ?_
            refine w_iald hx hb hK 0 h_ce rfl (by omega) (by omega) dL_law_1252 ?_
            rw [hce k9 (by omega)]
            refine nv_iadd hx hb dL_law_1253 ?_
            refine lv_bipush (v := nI 96) hx hb dL_law_1254 (by decide) ?_
            refine nv_icmp_eq (tgt := 1261) hx hb (by omega) (by omega) dL_law_1256 (by decide) (fun c_9 => ?_) (fun c_9 => ?_)
            · refine lv_iload hx hb dL_law_1261 (lv_at hl 7 rfl) ?_
              refine lv_aload hx hb dL_law_1263 (lv_at hl 5 rfl) ?_
              refine lv_iload hx hb dL_law_1265 (lv_at hl 9 rfl) ?_
              refine w_iald hx hb hK 0 h_ce rfl (by omega) (by omega) dL_law_1267 ?_
              rw [hce k9 (by omega)]
              refine nv_iadd hx hb dL_law_1268 ?_
              refine lv_istore (lv' := [(24, .int (nI (c9 + (cv (F (14 + k9)) (nI 3))))), (0, .ref b), (1, .ref (ad 0)), (2, .int (nI n)), (3, .ref z), (4, .int (nI tm)), (20, .ref ce), (21, .ref ma), (25, .int (nI a9)), (26, .int (nI k9))]) hx hb dL_law_1269 hl (by decide) rfl (fun ls hl => ?_)
              refine lv_iload hx hb dL_law_1271 (lv_at hl 8 rfl) ?_
              refine lv_bipush (v := nI 96) hx hb dL_law_1273 (by decide) ?_
              refine lv_aload_n hx hb dL_law_1275 rfl (lv_at hl 2 rfl) ?_
              refine lv_iload hx hb dL_law_1276 (lv_at hl 9 rfl) ?_
              refine lv_iconst (v := nI 3) hx hb dL_law_1278 (by decide) ?_
              refine va_calli (va_runV (As := [.int (nI k9), .int (nI 3)]) (rest := [.int (nI 96), .int (nI a9)]) ⟨hx, hb, hml, hown, hts⟩ (n_skin l hst D cI cZ cO ad n np nq F k9 3 hJ (by omega) (by omega)) (cwV 2 hts gL_law_X0_skin rfl rfl rfl (by decide +kernel) ⟨Nat.le_trans (Nat.le_of_ble_eq_true rfl) hRf, Nat.le_trans (Nat.le_of_ble_eq_true rfl) hRl⟩) (prG_V hG hK (hE.1.at hS sub_id sub_no) EnvG_c) rfl rfl hl.1 rfl (lv_room (Nat.le_of_ble_eq_true rfl)) dL_law_1279 ⟨by omega, by omega⟩) hS (fun _ _ h => h.elim) (fun _ h => h.elim) (fun r_10 _ t H1 locs ht hvm hw hB hz hk hS => ?_)
              have hG := hG.kept hk
              have h_z := h_z.kept (hk _ h_z.lt id)
              have h_ce := h_ce.kept (hk _ h_ce.lt id)
              have h_ma := h_ma.kept (hk _ h_ma.lt id)
              obtain rfl := hw
              rw [sk_3 F k9]
              refine nv_isub hx hb (by omega) dL_law_1282 ?_
              refine nv_iadd hx hb dL_law_1283 ?_
              refine lv_istore (lv' := [(25, .int (nI (a9 + (96 - (cv (F (14 + k9)) (nI 2)))))), (24, .int (nI (c9 + (cv (F (14 + k9)) (nI 3))))), (0, .ref b), (1, .ref (ad 0)), (2, .int (nI n)), (3, .ref z), (4, .int (nI tm)), (20, .ref ce), (21, .ref ma), (26, .int (nI k9))]) hx hb dL_law_1284 hl (by decide) rfl (fun ls hl => ?_)
              refine lv_iinc (k := 9) (v := nI (k9 + 1)) (lv' := [(26, .int (nI (k9 + 1))), (25, .int (nI (a9 + (96 - (cv (F (14 + k9)) (nI 2)))))), (24, .int (nI (c9 + (cv (F (14 + k9)) (nI 3))))), (0, .ref b), (1, .ref (ad 0)), (2, .int (nI n)), (3, .ref z), (4, .int (nI tm)), (20, .ref ce), (21, .ref ma)]) hx hb dL_law_1286 hl rfl (nI_add k9 1) (by decide) rfl (fun ls hl => ?_)
              refine lv_goto (tgt := 1189) hx hb dL_law_1289 (by decide) ?_
              exact ih1189 (c9 + (cv (F (14 + k9)) (nI 3))) (a9 + (96 - (cv (F (14 + k9)) (nI 2)))) (k9 + 1) _ _ _ _ _ (by omega) (by omega) (by omega) (by omega) (by rw [hc]; show _ = shC F k9 + tS F k9 (nI 3); rw [tS_cv]) (by rw [ha]; show _ = shA F k9 + (96 - tS F k9 (nI 2)); rw [tS_cv]) (by omega) (by omega) hG h_z h_ce h_ma hS (lv_sub hl [3, 4, 5, 6, 7, 8, 9, 2, 1, 0] rfl)
            · exfalso; omega
  exact L1189 _ 0 0 0 _ _ _ _ _ (Nat.lt_succ_self _) (by omega) (by omega) (by omega) rfl rfl (by omega) (by omega) hG h_z h_ce h_ma hS (lv_sub hl [3, 4, 5, 6, 7, 8, 9, 2, 1, 0] rfl)
set_option maxHeartbeats 4000000 in
set_option maxRecDepth 100000 in
/-- the counts, and the share -/
theorem sg_8 {p : Program} {l : Launch} {e : Env} {R : Room} {s : State} {m : MethodId} {args : Array Value} {below : List Frame} {meth : Method} {c : Code} {Q : State → Prop} {D : va_G} {cI cZ cO : ClassId} {ad : Nat → Nat} {b L : Nat} {xs : Nat → Int32} (hst : l.stackTraces = false) (hCx : LC cL_law 29 wsL_law p s m c args R D cI cZ cO b L xs) (hAD : inj ad 23 ∧ ∀ i, i ≤ 23 → s.heap.size ≤ ad i) (n np nq : Nat) (F : Nat → Nat → Int32) (z : Nat) (szf : Nat → Int32) (tm : Nat) (c9 a9 : Nat) (hadz : ∀ i, i ≤ 23 → ad i < z) (hzA : s.heap.size ≤ z) (hsz : ∀ k, k < 4 → szf k = nI (kz k)) (htm : tm < 24) (hn1 : 1 ≤ n) (hc : c9 = shC F n) (ha : a9 = shA F n) (hcb : c9 ≤ 960) (hab : a9 ≤ 960) (hJ : J n np nq F) (cc ss : Nat) (H1 : Heap) (locs : List Loc) (ls : Array Slot) (hRc : cc + 30 ≤ R.cells) (hRs : ss + 200 ≤ R.slots) (hG : GW D cI cZ cO ad n np nq F H1) (h_z : ar cI z 4 szf H1) (hS : va_S (LA s) s.heap H1 locs) (hl : lv_has ls 29 [(0, .ref b), (1, .ref (ad 0)), (2, .int (nI n)), (3, .ref z), (4, .int (nI tm)), (24, .int (nI c9)), (25, .int (nI a9))]) (kk1383 : ∀ (cc' ss' : Nat) (H1 : Heap) (locs : List Loc) (ls : Array Slot), cc' ≤ cc + 30 → ss' ≤ ss + 200 → GW D cI cZ cO ad n np nq F H1 → (ar cI z 4 szf H1) → va_S (LA s) s.heap H1 locs → lv_has ls 29 [(0, .ref b), (1, .ref (ad 0)), (2, .int (nI n)), (3, .ref z), (4, .int (nI tm))] → W p l e R s m args below meth c H1 locs cc' ss' Q (F0 m 1383 ls [])) : W p l e R s m args below meth c H1 locs cc ss Q (F0 m 1292 ls []) := by
  obtain ⟨hx, hb, hml, hown, hts, hK, hX, hbl, hL, hAO, hE, hRf, hRl⟩ := id hCx
  obtain ⟨hinj, hLA⟩ := id hAD
  have hbA : ¬ LA s b := Nat.not_le.mpr hbl
  have hAG : ∀ q, inA ad 23 q → LA s q := fun q ⟨i, hi, e⟩ => e ▸ hLA i hi
  obtain ⟨hn9, hnp9, hnq9, hsk9, hrip9, -⟩ := id hJ.inv
  have hpa := pAt_le F np (-2)
  have hpb := pAt_le F np (-1)
  have hpu := pUse_le F nq
  have hp2 := pAt_2 F np
  have hsw := cnt_sewn hJ
  have h59 : pAt F np (-2) + 6 * pUse F nq = 6 * nq := hJ.2.2.2.2.2
  refine lv_aload_n hx hb dL_law_1292 rfl (lv_at hl 1 rfl) ?_
  refine lv_iconst (v := nI 2) hx hb dL_law_1293 (by decide) ?_
  refine va_calli (va_runV (As := [.int (nI 2)]) (rest := []) ⟨hx, hb, hml, hown, hts⟩ (n_count l hst D cI cZ cO ad n np nq F 2 hJ (by decide)) (cwV 1 hts gL_law_X0_count rfl rfl rfl (by decide +kernel) ⟨Nat.le_trans (Nat.le_of_ble_eq_true rfl) hRf, Nat.le_trans (Nat.le_of_ble_eq_true rfl) hRl⟩) (prG_V hG hK (hE.1.at hS sub_id sub_no) EnvG_c) rfl rfl hl.1 rfl (lv_room (Nat.le_of_ble_eq_true rfl)) dL_law_1294 ⟨by omega, by omega⟩) hS (fun _ _ h => h.elim) (fun _ h => h.elim) (fun r_1 _ t H1 locs ht hvm hw hB hz hk hS => ?_)
  have hG := hG.kept hk
  have h_z := h_z.kept (hk _ h_z.lt id)
  obtain rfl : r_1 = nI (pAt F np (-1)) := hw
  refine lv_aload_n hx hb dL_law_1297 rfl (lv_at hl 1 rfl) ?_
  refine lv_iconst (v := nI 3) hx hb dL_law_1298 (by decide) ?_
  refine va_calli (va_runV (As := [.int (nI 3)]) (rest := [.int (nI (pAt F np (-1)))]) ⟨hx, hb, hml, hown, hts⟩ (n_count l hst D cI cZ cO ad n np nq F 3 hJ (by decide)) (cwV 1 hts gL_law_X0_count rfl rfl rfl (by decide +kernel) ⟨Nat.le_trans (Nat.le_of_ble_eq_true rfl) hRf, Nat.le_trans (Nat.le_of_ble_eq_true rfl) hRl⟩) (prG_V hG hK (hE.1.at hS sub_id sub_no) EnvG_c) rfl rfl hl.1 rfl (lv_room (Nat.le_of_ble_eq_true rfl)) dL_law_1299 ⟨by omega, by omega⟩) hS (fun _ _ h => h.elim) (fun _ h => h.elim) (fun r_2 _ t H1 locs ht hvm hw hB hz hk hS => ?_)
  have hG := hG.kept hk
  have h_z := h_z.kept (hk _ h_z.lt id)
  obtain rfl : r_2 = nI (np - pAt F np (-1) - pAt F np (-2)) := hw
  refine nv_iadd hx hb dL_law_1302 ?_
  refine lv_aload_n hx hb dL_law_1303 rfl (lv_at hl 1 rfl) ?_
  refine lv_iconst (v := nI 4) hx hb dL_law_1304 (by decide) ?_
  refine va_calli (va_runV (As := [.int (nI 4)]) (rest := [.int (nI ((pAt F np (-1)) + (np - pAt F np (-1) - pAt F np (-2))))]) ⟨hx, hb, hml, hown, hts⟩ (n_count l hst D cI cZ cO ad n np nq F 4 hJ (by decide)) (cwV 1 hts gL_law_X0_count rfl rfl rfl (by decide +kernel) ⟨Nat.le_trans (Nat.le_of_ble_eq_true rfl) hRf, Nat.le_trans (Nat.le_of_ble_eq_true rfl) hRl⟩) (prG_V hG hK (hE.1.at hS sub_id sub_no) EnvG_c) rfl rfl hl.1 rfl (lv_room (Nat.le_of_ble_eq_true rfl)) dL_law_1305 ⟨by omega, by omega⟩) hS (fun _ _ h => h.elim) (fun _ h => h.elim) (fun r_3 _ t H1 locs ht hvm hw hB hz hk hS => ?_)
  have hG := hG.kept hk
  have h_z := h_z.kept (hk _ h_z.lt id)
  obtain rfl : r_3 = nI (pAt F np (-2)) := hw
  refine nv_iadd hx hb dL_law_1308 ?_
  refine lv_aload_n hx hb dL_law_1309 rfl (lv_at hl 1 rfl) ?_
  refine lv_iconst (v := nI 1) hx hb dL_law_1310 (by decide) ?_
  refine va_calli (va_runV (As := [.int (nI 1)]) (rest := [.int (nI (((pAt F np (-1)) + (np - pAt F np (-1) - pAt F np (-2))) + (pAt F np (-2))))]) ⟨hx, hb, hml, hown, hts⟩ (n_count l hst D cI cZ cO ad n np nq F 1 hJ (by decide)) (cwV 1 hts gL_law_X0_count rfl rfl rfl (by decide +kernel) ⟨Nat.le_trans (Nat.le_of_ble_eq_true rfl) hRf, Nat.le_trans (Nat.le_of_ble_eq_true rfl) hRl⟩) (prG_V hG hK (hE.1.at hS sub_id sub_no) EnvG_c) rfl rfl hl.1 rfl (lv_room (Nat.le_of_ble_eq_true rfl)) dL_law_1311 ⟨by omega, by omega⟩) hS (fun _ _ h => h.elim) (fun _ h => h.elim) (fun r_4 _ t H1 locs ht hvm hw hB hz hk hS => ?_)
  have hG := hG.kept hk
  have h_z := h_z.kept (hk _ h_z.lt id)
  obtain rfl : r_4 = nI np := hw
  refine nv_icmp_ne (tgt := 1381) hx hb (by omega) (by omega) dL_law_1314 (by decide) (fun c_5 => ?_) (fun c_5 => ?_)
  · exfalso; omega
  · refine lv_aload_n hx hb dL_law_1317 rfl (lv_at hl 1 rfl) ?_
    refine lv_iconst (v := nI 3) hx hb dL_law_1318 (by decide) ?_
    refine va_calli (va_runV (As := [.int (nI 3)]) (rest := []) ⟨hx, hb, hml, hown, hts⟩ (n_count l hst D cI cZ cO ad n np nq F 3 hJ (by decide)) (cwV 1 hts gL_law_X0_count rfl rfl rfl (by decide +kernel) ⟨Nat.le_trans (Nat.le_of_ble_eq_true rfl) hRf, Nat.le_trans (Nat.le_of_ble_eq_true rfl) hRl⟩) (prG_V hG hK (hE.1.at hS sub_id sub_no) EnvG_c) rfl rfl hl.1 rfl (lv_room (Nat.le_of_ble_eq_true rfl)) dL_law_1319 ⟨by omega, by omega⟩) hS (fun _ _ h => h.elim) (fun _ h => h.elim) (fun r_6 _ t H1 locs ht hvm hw hB hz hk hS => ?_)
    have hG := hG.kept hk
    have h_z := h_z.kept (hk _ h_z.lt id)
    obtain rfl : r_6 = nI (np - pAt F np (-1) - pAt F np (-2)) := hw
    refine lv_bipush (v := nI 14) hx hb dL_law_1322 (by decide) ?_
    refine lv_aload_n hx hb dL_law_1324 rfl (lv_at hl 1 rfl) ?_
    refine lv_bipush (v := nI 6) hx hb dL_law_1325 (by decide) ?_
    refine va_calli (va_runV (As := [.int (nI 6)]) (rest := [.int (nI 14), .int (nI (np - pAt F np (-1) - pAt F np (-2)))]) ⟨hx, hb, hml, hown, hts⟩ (n_count l hst D cI cZ cO ad n np nq F 6 hJ (by decide)) (cwV 1 hts gL_law_X0_count rfl rfl rfl (by decide +kernel) ⟨Nat.le_trans (Nat.le_of_ble_eq_true rfl) hRf, Nat.le_trans (Nat.le_of_ble_eq_true rfl) hRl⟩) (prG_V hG hK (hE.1.at hS sub_id sub_no) EnvG_c) rfl rfl hl.1 rfl (lv_room (Nat.le_of_ble_eq_true rfl)) dL_law_1327 ⟨by omega, by omega⟩) hS (fun _ _ h => h.elim) (fun _ h => h.elim) (fun r_7 _ t H1 locs ht hvm hw hB hz hk hS => ?_)
    have hG := hG.kept hk
    have h_z := h_z.kept (hk _ h_z.lt id)
    obtain rfl : r_7 = nI (pUse F nq) := hw
    refine nv_imul hx hb dL_law_1330 ?_
    refine nv_icmp_ne (tgt := 1381) hx hb (by omega) (by omega) dL_law_1331 (by decide) (fun c_8 => ?_) (fun c_8 => ?_)
    · exfalso; omega
    · refine lv_aload_n hx hb dL_law_1334 rfl (lv_at hl 1 rfl) ?_
      refine lv_iconst (v := nI 4) hx hb dL_law_1335 (by decide) ?_
      refine va_calli (va_runV (As := [.int (nI 4)]) (rest := []) ⟨hx, hb, hml, hown, hts⟩ (n_count l hst D cI cZ cO ad n np nq F 4 hJ (by decide)) (cwV 1 hts gL_law_X0_count rfl rfl rfl (by decide +kernel) ⟨Nat.le_trans (Nat.le_of_ble_eq_true rfl) hRf, Nat.le_trans (Nat.le_of_ble_eq_true rfl) hRl⟩) (prG_V hG hK (hE.1.at hS sub_id sub_no) EnvG_c) rfl rfl hl.1 rfl (lv_room (Nat.le_of_ble_eq_true rfl)) dL_law_1336 ⟨by omega, by omega⟩) hS (fun _ _ h => h.elim) (fun _ h => h.elim) (fun r_9 _ t H1 locs ht hvm hw hB hz hk hS => ?_)
      have hG := hG.kept hk
      have h_z := h_z.kept (hk _ h_z.lt id)
      obtain rfl : r_9 = nI (pAt F np (-2)) := hw
      refine lv_bipush (v := nI 6) hx hb dL_law_1339 (by decide) ?_
      refine lv_aload_n hx hb dL_law_1341 rfl (lv_at hl 1 rfl) ?_
      refine lv_iconst (v := nI 5) hx hb dL_law_1342 (by decide) ?_
      refine va_calli (va_runV (As := [.int (nI 5)]) (rest := [.int (nI 6), .int (nI (pAt F np (-2)))]) ⟨hx, hb, hml, hown, hts⟩ (n_count l hst D cI cZ cO ad n np nq F 5 hJ (by decide)) (cwV 1 hts gL_law_X0_count rfl rfl rfl (by decide +kernel) ⟨Nat.le_trans (Nat.le_of_ble_eq_true rfl) hRf, Nat.le_trans (Nat.le_of_ble_eq_true rfl) hRl⟩) (prG_V hG hK (hE.1.at hS sub_id sub_no) EnvG_c) rfl rfl hl.1 rfl (lv_room (Nat.le_of_ble_eq_true rfl)) dL_law_1343 ⟨by omega, by omega⟩) hS (fun _ _ h => h.elim) (fun _ h => h.elim) (fun r_10 _ t H1 locs ht hvm hw hB hz hk hS => ?_)
      have hG := hG.kept hk
      have h_z := h_z.kept (hk _ h_z.lt id)
      obtain rfl : r_10 = nI nq := hw
      refine lv_aload_n hx hb dL_law_1346 rfl (lv_at hl 1 rfl) ?_
      refine lv_bipush (v := nI 6) hx hb dL_law_1347 (by decide) ?_
      refine va_calli (va_runV (As := [.int (nI 6)]) (rest := [.int (nI nq), .int (nI 6), .int (nI (pAt F np (-2)))]) ⟨hx, hb, hml, hown, hts⟩ (n_count l hst D cI cZ cO ad n np nq F 6 hJ (by decide)) (cwV 1 hts gL_law_X0_count rfl rfl rfl (by decide +kernel) ⟨Nat.le_trans (Nat.le_of_ble_eq_true rfl) hRf, Nat.le_trans (Nat.le_of_ble_eq_true rfl) hRl⟩) (prG_V hG hK (hE.1.at hS sub_id sub_no) EnvG_c) rfl rfl hl.1 rfl (lv_room (Nat.le_of_ble_eq_true rfl)) dL_law_1349 ⟨by omega, by omega⟩) hS (fun _ _ h => h.elim) (fun _ h => h.elim) (fun r_11 _ t H1 locs ht hvm hw hB hz hk hS => ?_)
      have hG := hG.kept hk
      have h_z := h_z.kept (hk _ h_z.lt id)
      obtain rfl : r_11 = nI (pUse F nq) := hw
      refine nv_isub hx hb (by omega) dL_law_1352 ?_
      refine nv_imul hx hb dL_law_1353 ?_
      refine nv_icmp_ne (tgt := 1381) hx hb (by omega) (by omega) dL_law_1354 (by decide) (fun c_12 => ?_) (fun c_12 => ?_)
      · exfalso; omega
      · refine lv_aload_n hx hb dL_law_1357 rfl (lv_at hl 1 rfl) ?_
        refine va_calld (va_runV (As := []) (rest := []) ⟨hx, hb, hml, hown, hts⟩ (n_share l hst D cI cZ cO ad n np nq F  hJ) (cwV 0 hts gL_law_X0_share rfl rfl rfl (by decide +kernel) ⟨Nat.le_trans (Nat.le_of_ble_eq_true rfl) hRf, Nat.le_trans (Nat.le_of_ble_eq_true rfl) hRl⟩) (prG_V hG hK V0_at V0_c) rfl rfl hl.1 rfl (lv_room (Nat.le_of_ble_eq_true rfl)) dL_law_1358 ⟨by omega, by omega⟩) hS (fun _ _ h => h.elim) (fun _ h => h.elim) (fun r_13 _ t H1 locs ht hvm hw hB hz hk hS => ?_)
        have hG := hG.kept hk
        have h_z := h_z.kept (hk _ h_z.lt id)
        obtain rfl := hw
        refine lv_iload hx hb dL_law_1361 (lv_at hl 6 rfl) ?_
        refine nv_if_ne (tgt := 1370) hx hb (by omega) dL_law_1363 (by decide) (fun c_14 => ?_) (fun c_14 => ?_)
        · refine lv_iload hx hb dL_law_1370 (lv_at hl 5 rfl) ?_
          refine lv_i2d hx hb dL_law_1372 ?_
          refine lv_iload hx hb dL_law_1373 (lv_at hl 6 rfl) ?_
          refine lv_i2d hx hb dL_law_1375 ?_
          refine lv_ddiv hx hb dL_law_1376 (nf_ok (nn_div (by omega) (by omega))) ?_
          have hsh : shV F n = FP.ddiv (FP.i2d (nI c9)) (FP.i2d (nI a9)) := by rw [share_eq, ← hc, ← ha, if_neg (by omega)]
          rw [hsh]
          refine lv_dcmp hx hb dL_law_1377 ?_
          rw [dc_selfN (by rw [← hsh]; exact shV_nn F hn9)]
          refine nv_if_eq (tgt := 1383) hx hb (by omega) dL_law_1378 (by decide) (fun _ => ?_) (fun h9 => absurd h9 (by decide))
          exact kk1383  _ _ _ _ _ (by omega) (by omega)  hG h_z hS (lv_sub hl [0, 1, 2, 3, 4] rfl)
        · refine lv_dconst0 hx hb dL_law_1366 ?_
          refine lv_goto (tgt := 1377) hx hb dL_law_1367 (by decide) ?_
          have hsh : shV F n = FP.dconst0 := by rw [share_eq, ← ha]; exact if_pos (by omega)
          rw [hsh]
          refine lv_dcmp hx hb dL_law_1377 ?_
          rw [dc_selfN (by rw [← hsh]; exact shV_nn F hn9)]
          refine nv_if_eq (tgt := 1383) hx hb (by omega) dL_law_1378 (by decide) (fun _ => ?_) (fun h9 => absurd h9 (by decide))
          exact kk1383  _ _ _ _ _ (by omega) (by omega)  hG h_z hS (lv_sub hl [0, 1, 2, 3, 4] rfl)
set_option maxHeartbeats 4000000 in
set_option maxRecDepth 100000 in
/-- nothing is lacking just if a pair can be sewn -/
theorem sg_9 {p : Program} {l : Launch} {e : Env} {R : Room} {s : State} {m : MethodId} {args : Array Value} {below : List Frame} {meth : Method} {c : Code} {Q : State → Prop} {D : va_G} {cI cZ cO : ClassId} {ad : Nat → Nat} {b L : Nat} {xs : Nat → Int32} (hst : l.stackTraces = false) (hCx : LC cL_law 29 wsL_law p s m c args R D cI cZ cO b L xs) (hAD : inj ad 23 ∧ ∀ i, i ≤ 23 → s.heap.size ≤ ad i) (n np nq : Nat) (F : Nat → Nat → Int32) (z : Nat) (szf : Nat → Int32) (tm : Nat) (hadz : ∀ i, i ≤ 23 → ad i < z) (hzA : s.heap.size ≤ z) (hsz : ∀ k, k < 4 → szf k = nI (kz k)) (htm : tm < 24) (hn1 : 1 ≤ n) (hJ : J n np nq F) (cc ss : Nat) (H1 : Heap) (locs : List Loc) (ls : Array Slot) (hRc : cc + 100 ≤ R.cells) (hRs : ss + 600 ≤ R.slots) (hG : GW D cI cZ cO ad n np nq F H1) (h_z : ar cI z 4 szf H1) (hS : va_S (LA s) s.heap H1 locs) (hl : lv_has ls 29 [(0, .ref b), (1, .ref (ad 0)), (2, .int (nI n)), (3, .ref z), (4, .int (nI tm))]) (kk1459 : ∀ (cc' ss' : Nat) (H1 : Heap) (locs : List Loc) (ls : Array Slot), cc' ≤ cc + 100 → ss' ≤ ss + 600 → GW D cI cZ cO ad n np nq F H1 → (ar cI z 4 szf H1) → va_S (LA s) s.heap H1 locs → lv_has ls 29 [(0, .ref b), (1, .ref (ad 0)), (2, .int (nI n)), (3, .ref z), (4, .int (nI tm))] → W p l e R s m args below meth c H1 locs cc' ss' Q (F0 m 1459 ls [])) : W p l e R s m args below meth c H1 locs cc ss Q (F0 m 1383 ls []) := by
  obtain ⟨hx, hb, hml, hown, hts, hK, hX, hbl, hL, hAO, hE, hRf, hRl⟩ := id hCx
  obtain ⟨hinj, hLA⟩ := id hAD
  have hbA : ¬ LA s b := Nat.not_le.mpr hbl
  have hAG : ∀ q, inA ad 23 q → LA s q := fun q ⟨i, hi, e⟩ => e ▸ hLA i hi
  obtain ⟨hn9, hnp9, hnq9, hsk9, hrip9, -⟩ := id hJ.inv
  refine lv_iconst (v := nI 0) hx hb dL_law_1383 (by decide) ?_
  refine lv_istore (lv' := [(26, .int (nI 0)), (0, .ref b), (1, .ref (ad 0)), (2, .int (nI n)), (3, .ref z), (4, .int (nI tm))]) hx hb dL_law_1384 hl (by decide) rfl (fun ls hl => ?_)
  have L1386 : ∀ (fu : Nat) (c9 : Nat) (c1386 s1386 : Nat) (H1 : Heap) (locs : List Loc) (ls : Array Slot), 6 - c9 < fu → (c1386 ≤ cc + 12 * c9) → (s1386 ≤ ss + 80 * c9) → (c9 ≤ 6) → GW D cI cZ cO ad n np nq F H1 → (ar cI z 4 szf H1) → va_S (LA s) s.heap H1 locs → lv_has ls 29 [(0, .ref b), (1, .ref (ad 0)), (2, .int (nI n)), (3, .ref z), (4, .int (nI tm)), (26, .int (nI c9))] → W p l e R s m args below meth c H1 locs c1386 s1386 Q (F0 m 1386 ls []) := by
    intro fu
    induction fu with
    | zero => intro _ _ _ _ _ _ h; exact absurd h (Nat.not_lt_zero _)
    | succ fu ih1386 =>
      intro c9 c1386 s1386 H1 locs ls hm1386 hc1386 hs1386 hc hG h_z hS hl
      refine lv_iload hx hb dL_law_1386 (lv_at hl 5 rfl) ?_
      refine lv_bipush (v := nI 6) hx hb dL_law_1388 (by decide) ?_
      refine nv_icmp_ge (tgt := 1459) hx hb (by omega) (by omega) dL_law_1390 (by decide) (fun c_1 => ?_) (fun c_1 => ?_)
      · exact kk1459  _ _ _ _ _ (by omega) (by omega)  hG h_z hS (lv_sub hl [0, 1, 2, 3, 4] rfl)
      · refine lv_iconst (v := nI 0) hx hb dL_law_1393 (by decide) ?_
        refine lv_istore (lv' := [(27, .int (nI 0)), (0, .ref b), (1, .ref (ad 0)), (2, .int (nI n)), (3, .ref z), (4, .int (nI tm)), (26, .int (nI c9))]) hx hb dL_law_1394 hl (by decide) rfl (fun ls hl => ?_)
        refine lv_iconst (v := nI 0) hx hb dL_law_1396 (by decide) ?_
        refine lv_istore (lv' := [(28, .int (nI 0)), (27, .int (nI 0)), (0, .ref b), (1, .ref (ad 0)), (2, .int (nI n)), (3, .ref z), (4, .int (nI tm)), (26, .int (nI c9))]) hx hb dL_law_1397 hl (by decide) rfl (fun ls hl => ?_)
        have L1399 : ∀ (fu : Nat) (l9 : Nat) (o9 : Nat) (c1399 s1399 : Nat) (H1 : Heap) (locs : List Loc) (ls : Array Slot), 4 - o9 < fu → (c1399 ≤ cc + 12 * c9 + 2 * o9) → (s1399 ≤ ss + 80 * c9 + 12 * o9) → (o9 ≤ 4) → (l9 = sm (lkN F n np (nI c9)) o9) → (l9 ≤ 6 * o9) → GW D cI cZ cO ad n np nq F H1 → (ar cI z 4 szf H1) → va_S (LA s) s.heap H1 locs → lv_has ls 29 [(0, .ref b), (1, .ref (ad 0)), (2, .int (nI n)), (3, .ref z), (4, .int (nI tm)), (26, .int (nI c9)), (27, .int (nI l9)), (28, .int (nI o9))] → W p l e R s m args below meth c H1 locs c1399 s1399 Q (F0 m 1399 ls []) := by
          intro fu
          induction fu with
          | zero => intro _ _ _ _ _ _ _ h; exact absurd h (Nat.not_lt_zero _)
          | succ fu ih1399 =>
            intro l9 o9 c1399 s1399 H1 locs ls hm1399 hc1399 hs1399 ho hl9 hlb hG h_z hS hl
            refine lv_iload hx hb dL_law_1399 (lv_at hl 7 rfl) ?_
            refine lv_iconst (v := nI 4) hx hb dL_law_1401 (by decide) ?_
            refine nv_icmp_ge (tgt := 1424) hx hb (by omega) (by omega) dL_law_1402 (by decide) (fun c_2 => ?_) (fun c_2 => ?_)
            · have hs4 : l9 = lkN F n np (nI c9) 0 + lkN F n np (nI c9) 1 + lkN F n np (nI c9) 2 + lkN F n np (nI c9) 3 := by rw [hl9, show o9 = 4 by omega, sm4]
              have hlp := lack_pairs F n np (nI c9)
              have hpr := prN_b (F := F) (n := n) (c := nI c9) hnp9
              rcases Nat.eq_zero_or_pos l9 with h0 | h0
              · have hpp : 0 < prN F n np (nI c9) 3 := hlp.mp (by omega)
                refine lv_iload hx hb dL_law_1424 (lv_at hl 6 rfl) ?_
                refine nv_if_ne (tgt := 1433) hx hb (by omega) dL_law_1426 (by decide) (fun c_3 => ?_) (fun c_3 => ?_)
                · exfalso; omega
                · refine lv_iconst (v := nI 1) hx hb dL_law_1429 (by decide) ?_
                  refine lv_goto (tgt := 1434) hx hb dL_law_1430 (by decide) ?_
                  refine lv_aload_n hx hb dL_law_1434 rfl (lv_at hl 1 rfl) ?_
                  refine lv_iload hx hb dL_law_1435 (lv_at hl 5 rfl) ?_
                  refine va_calli (va_runV (As := [.int (nI c9)]) (rest := [.int (nI 1)]) ⟨hx, hb, hml, hown, hts⟩ (n_pairs l hst D cI cZ cO ad n np nq F c9 hJ (by omega)) (cwV 1 hts gL_law_X0_pairs rfl rfl rfl (by decide +kernel) ⟨Nat.le_trans (Nat.le_of_ble_eq_true rfl) hRf, Nat.le_trans (Nat.le_of_ble_eq_true rfl) hRl⟩) (prG_V hG hK (hE.1.at hS sub_id sub_no) EnvG_c) rfl rfl hl.1 rfl (lv_room (Nat.le_of_ble_eq_true rfl)) dL_law_1437 ⟨by omega, by omega⟩) hS (fun _ _ h => h.elim) (fun _ h => h.elim) (fun r_4 _ t H1 locs ht hvm hw hB hz hk hS => ?_)
                  have hG := hG.kept hk
                  have h_z := h_z.kept (hk _ h_z.lt id)
                  obtain rfl := hw
                  refine nv_if_le (tgt := 1447) hx hb (by omega) dL_law_1440 (by decide) (fun c_5 => ?_) (fun c_5 => ?_)
                  · exfalso; omega
                  · refine lv_iconst (v := nI 1) hx hb dL_law_1443 (by decide) ?_
                    refine lv_goto (tgt := 1448) hx hb dL_law_1444 (by decide) ?_
                    refine nv_icmp_eq (tgt := 1453) hx hb (by omega) (by omega) dL_law_1448 (by decide) (fun _ => ?_) (fun h9 => absurd h9 (by decide))
                    refine lv_iinc (k := 5) (v := nI (c9 + 1)) (lv' := [(26, .int (nI (c9 + 1))), (0, .ref b), (1, .ref (ad 0)), (2, .int (nI n)), (3, .ref z), (4, .int (nI tm)), (27, .int (nI l9)), (28, .int (nI o9))]) hx hb dL_law_1453 hl rfl (nI_add c9 1) (by decide) rfl (fun ls hl => ?_)
                    refine lv_goto (tgt := 1386) hx hb dL_law_1456 (by decide) ?_
                    exact ih1386 (c9 + 1) _ _ _ _ _ (by omega) (by omega) (by omega) (by omega) hG h_z hS (lv_sub hl [1, 2, 3, 4, 5, 0] rfl)
              · have hpp : prN F n np (nI c9) 3 = 0 := (Nat.eq_zero_or_pos _).elim id (fun q => by have := hlp.mpr q; omega)
                refine lv_iload hx hb dL_law_1424 (lv_at hl 6 rfl) ?_
                refine nv_if_ne (tgt := 1433) hx hb (by omega) dL_law_1426 (by decide) (fun c_7 => ?_) (fun c_7 => ?_)
                · refine lv_iconst (v := nI 0) hx hb dL_law_1433 (by decide) ?_
                  refine lv_aload_n hx hb dL_law_1434 rfl (lv_at hl 1 rfl) ?_
                  refine lv_iload hx hb dL_law_1435 (lv_at hl 5 rfl) ?_
                  refine va_calli (va_runV (As := [.int (nI c9)]) (rest := [.int (nI 0)]) ⟨hx, hb, hml, hown, hts⟩ (n_pairs l hst D cI cZ cO ad n np nq F c9 hJ (by omega)) (cwV 1 hts gL_law_X0_pairs rfl rfl rfl (by decide +kernel) ⟨Nat.le_trans (Nat.le_of_ble_eq_true rfl) hRf, Nat.le_trans (Nat.le_of_ble_eq_true rfl) hRl⟩) (prG_V hG hK (hE.1.at hS sub_id sub_no) EnvG_c) rfl rfl hl.1 rfl (lv_room (Nat.le_of_ble_eq_true rfl)) dL_law_1437 ⟨by omega, by omega⟩) hS (fun _ _ h => h.elim) (fun _ h => h.elim) (fun r_8 _ t H1 locs ht hvm hw hB hz hk hS => ?_)
                  have hG := hG.kept hk
                  have h_z := h_z.kept (hk _ h_z.lt id)
                  obtain rfl := hw
                  refine nv_if_le (tgt := 1447) hx hb (by omega) dL_law_1440 (by decide) (fun c_9 => ?_) (fun c_9 => ?_)
                  · refine lv_iconst (v := nI 0) hx hb dL_law_1447 (by decide) ?_
                    refine nv_icmp_eq (tgt := 1453) hx hb (by omega) (by omega) dL_law_1448 (by decide) (fun _ => ?_) (fun h9 => absurd h9 (by decide))
                    refine lv_iinc (k := 5) (v := nI (c9 + 1)) (lv' := [(26, .int (nI (c9 + 1))), (0, .ref b), (1, .ref (ad 0)), (2, .int (nI n)), (3, .ref z), (4, .int (nI tm)), (27, .int (nI l9)), (28, .int (nI o9))]) hx hb dL_law_1453 hl rfl (nI_add c9 1) (by decide) rfl (fun ls hl => ?_)
                    refine lv_goto (tgt := 1386) hx hb dL_law_1456 (by decide) ?_
                    exact ih1386 (c9 + 1) _ _ _ _ _ (by omega) (by omega) (by omega) (by omega) hG h_z hS (lv_sub hl [1, 2, 3, 4, 5, 0] rfl)
                  · exfalso; omega
                · exfalso; omega
            · have hlk := lkN_le F n np (nI c9) o9
              refine lv_iload hx hb dL_law_1405 (lv_at hl 6 rfl) ?_
              refine lv_aload_n hx hb dL_law_1407 rfl (lv_at hl 1 rfl) ?_
              refine lv_iload hx hb dL_law_1408 (lv_at hl 5 rfl) ?_
              refine lv_iload hx hb dL_law_1410 (lv_at hl 7 rfl) ?_
              refine va_calli (va_runV (As := [.int (nI c9), .int (nI o9)]) (rest := [.int (nI l9)]) ⟨hx, hb, hml, hown, hts⟩ (n_lacks l hst D cI cZ cO ad n np nq F c9 o9 hJ (by omega) (by omega)) (cwV 2 hts gL_law_X0_lacks rfl rfl rfl (by decide +kernel) ⟨Nat.le_trans (Nat.le_of_ble_eq_true rfl) hRf, Nat.le_trans (Nat.le_of_ble_eq_true rfl) hRl⟩) (prG_V hG hK (hE.1.at hS sub_id sub_no) EnvG_c) rfl rfl hl.1 rfl (lv_room (Nat.le_of_ble_eq_true rfl)) dL_law_1412 ⟨by omega, by omega⟩) hS (fun _ _ h => h.elim) (fun _ h => h.elim) (fun r_11 _ t H1 locs ht hvm hw hB hz hk hS => ?_)
              have hG := hG.kept hk
              have h_z := h_z.kept (hk _ h_z.lt id)
              obtain rfl := hw
              refine nv_iadd hx hb dL_law_1415 ?_
              refine lv_istore (lv' := [(27, .int (nI (l9 + (lkN F n np (nI c9) o9)))), (0, .ref b), (1, .ref (ad 0)), (2, .int (nI n)), (3, .ref z), (4, .int (nI tm)), (26, .int (nI c9)), (28, .int (nI o9))]) hx hb dL_law_1416 hl (by decide) rfl (fun ls hl => ?_)
              refine lv_iinc (k := 7) (v := nI (o9 + 1)) (lv' := [(28, .int (nI (o9 + 1))), (27, .int (nI (l9 + (lkN F n np (nI c9) o9)))), (0, .ref b), (1, .ref (ad 0)), (2, .int (nI n)), (3, .ref z), (4, .int (nI tm)), (26, .int (nI c9))]) hx hb dL_law_1418 hl rfl (nI_add o9 1) (by decide) rfl (fun ls hl => ?_)
              refine lv_goto (tgt := 1399) hx hb dL_law_1421 (by decide) ?_
              exact ih1399 (l9 + (lkN F n np (nI c9) o9)) (o9 + 1) _ _ _ _ _ (by omega) (by omega) (by omega) (by omega) (by rw [hl9]; rfl) (by omega) hG h_z hS (lv_sub hl [2, 3, 4, 5, 6, 7, 1, 0] rfl)
        exact L1399 _ 0 0 _ _ _ _ _ (Nat.lt_succ_self _) (by omega) (by omega) (by omega) rfl (by omega) hG h_z hS (lv_sub hl [2, 3, 4, 5, 6, 7, 1, 0] rfl)
  exact L1386 _ 0 _ _ _ _ _ (Nat.lt_succ_self _) (by omega) (by omega) (by omega) hG h_z hS (lv_sub hl [1, 2, 3, 4, 5, 0] rfl)
