set_option maxHeartbeats 4000000 in
set_option maxRecDepth 100000 in
/-- the cells and pieces of the skins, the pieces of the pairs -/
theorem sg_5 {p : Program} {l : Launch} {e : Env} {R : Room} {s : State} {m : MethodId} {args : Array Value} {below : List Frame} {meth : Method} {c : Code} {Q : State → Prop} {D : va_G} {cI cZ cO : ClassId} {ad : Nat → Nat} {b L : Nat} {xs : Nat → Int32} (hst : l.stackTraces = false) (hCx : LC cL_law 29 wsL_law p s m c args R D cI cZ cO b L xs) (hAD : inj ad 23 ∧ ∀ i, i ≤ 23 → s.heap.size ≤ ad i) (n np nq : Nat) (F : Nat → Nat → Int32) (z : Nat) (szf : Nat → Int32) (tm : Nat) (hadz : ∀ i, i ≤ 23 → ad i < z) (hzA : s.heap.size ≤ z) (hsz : ∀ k, k < 4 → szf k = nI (kz k)) (htm : tm < 24) (hn1 : 1 ≤ n) (hJ : J n np nq F) (cc ss : Nat) (H1 : Heap) (locs : List Loc) (ls : Array Slot) (hRc : cc + 4700 ≤ R.cells) (hRs : ss + 31000 ≤ R.slots) (hG : GW D cI cZ cO ad n np nq F H1) (h_z : ar cI z 4 szf H1) (hS : va_S (LA s) s.heap H1 locs) (hl : lv_has ls 29 [(0, .ref b), (1, .ref (ad 0)), (2, .int (nI n)), (3, .ref z), (4, .int (nI tm))]) (kk1036 : ∀ (ce : Nat) (ma : Nat) (ha : Nat) (th : Nat) (fc : Nat → Int32) (fm : Nat → Int32) (gh9 : Nat → Nat → Int32) (ft : Nat → Int32) (cc' ss' : Nat) (H1 : Heap) (locs : List Loc) (ls : Array Slot), cc' ≤ cc + 4700 → ss' ≤ ss + 31000 → (z < ce) → (ce < ma) → (ma < ha) → (ha + 20 < th) → (∀ s, s < n → fc s = nI (cv (F (14 + s)) (nI 3))) → (∀ s, s < n → fm s = F 2 s) → (∀ q, q < 20 → ∀ k, k < 4 → gh9 q k = nI (cn (inQ F q k) np)) → (∀ q, q < 20 → ft q = sS (F 7) (F 6) (nI q) np) → GW D cI cZ cO ad n np nq F H1 → (ar cI z 4 szf H1) → (ar cI ce n fc H1) → (ar cI ma n fm H1) → (ao cO ha 20 H1) → (∀ i, i < 20 → ar cI (ha + 1 + i) 5 (gh9 i) H1) → (ar cI th 20 ft H1) → va_S (LA s) s.heap H1 locs → lv_has ls 29 [(0, .ref b), (1, .ref (ad 0)), (2, .int (nI n)), (3, .ref z), (4, .int (nI tm)), (20, .ref ce), (21, .ref ma), (22, .ref ha), (23, .ref th)] → W p l e R s m args below meth c H1 locs cc' ss' Q (F0 m 1036 ls [])) : W p l e R s m args below meth c H1 locs cc ss Q (F0 m 856 ls []) := by
  obtain ⟨hx, hb, hml, hown, hts, hK, hX, hbl, hL, hAO, hE, hRf, hRl⟩ := id hCx
  obtain ⟨hinj, hLA⟩ := id hAD
  have hbA : ¬ LA s b := Nat.not_le.mpr hbl
  have hAG : ∀ q, inA ad 23 q → LA s q := fun q ⟨i, hi, e⟩ => e ▸ hLA i hi
  obtain ⟨hn9, hnp9, hnq9, hsk9, hrip9, -⟩ := id hJ.inv
  refine lv_iload_n hx hb dL_law_856 rfl (lv_at hl 2 rfl) ?_
  obtain ⟨ce, eq_ce⟩ : ∃ z, H1.size = z := ⟨_, rfl⟩
  have hzc : z < ce := by have := h_z.lt; omega
  refine w_newaQ eq_ce hx hb (hts (.arrayClass .int) (by decide +kernel)) hK 0 rfl hS (by omega) (by omega) (by omega) (by omega) dL_law_857 (fun H1 h_ce z1 o1 hS => ?_)
  have hG := hG.newQ eq_ce o1
  have h_z := h_z.kept (o1 _ (by have := h_z.lt; omega))
  obtain ⟨f_1, ef_1⟩ : ∃ z : Nat → Int32, z = (fun _ => 0) := ⟨_, rfl⟩
  rw [← ef_1] at h_ce
  refine lv_astore (lv' := [(20, .ref ce), (0, .ref b), (1, .ref (ad 0)), (2, .int (nI n)), (3, .ref z), (4, .int (nI tm))]) hx hb dL_law_859 hl (by decide) rfl (fun ls hl => ?_)
  refine lv_iload_n hx hb dL_law_861 rfl (lv_at hl 3 rfl) ?_
  obtain ⟨ma, eq_ma⟩ : ∃ z, H1.size = z := ⟨_, rfl⟩
  have hcm : ce < ma := by have := h_ce.lt; omega
  refine w_newaQ eq_ma hx hb (hts (.arrayClass .int) (by decide +kernel)) hK 0 rfl hS (by omega) (by omega) (by omega) (by omega) dL_law_862 (fun H1 h_ma z1 o1 hS => ?_)
  have hG := hG.newQ eq_ma o1
  have h_z := h_z.kept (o1 _ (by have := h_z.lt; omega))
  have h_ce := h_ce.kept (o1 _ (by have := h_ce.lt; omega))
  obtain ⟨f_2, ef_2⟩ : ∃ z : Nat → Int32, z = (fun _ => 0) := ⟨_, rfl⟩
  rw [← ef_2] at h_ma
  refine lv_astore (lv' := [(21, .ref ma), (20, .ref ce), (0, .ref b), (1, .ref (ad 0)), (2, .int (nI n)), (3, .ref z), (4, .int (nI tm))]) hx hb dL_law_864 hl (by decide) rfl (fun ls hl => ?_)
  refine lv_bipush (v := nI 20) hx hb dL_law_866 (by decide) ?_
  refine lv_iconst (v := nI 5) hx hb dL_law_868 (by decide) ?_
  obtain ⟨ha, eq_ha⟩ : ∃ z, H1.size = z := ⟨_, rfl⟩
  have hmh : ma < ha := by have := h_ma.lt; omega
  refine w_mnaQ eq_ha hx hb hown (hts (.classLink RL 88 "[[I") (by decide +kernel)) hAO (hts (.arrayClass .int) (by decide +kernel)) hK 0 2 rfl rfl hS (by omega) (by omega) (by omega) (by omega) dL_law_869 (fun H1 h_hao h_ha z1 o1 hS => ?_)
  have hG := hG.newQ eq_ha o1
  have h_z := h_z.kept (o1 _ (by have := h_z.lt; omega))
  have h_ce := h_ce.kept (o1 _ (by have := h_ce.lt; omega))
  have h_ma := h_ma.kept (o1 _ (by have := h_ma.lt; omega))
  obtain ⟨g_3, eg_3⟩ : ∃ z : Nat → Nat → Int32, z = (fun _ _ => 0) := ⟨_, rfl⟩
  have h_ha : ∀ i, i < 20 → ar cI (ha + 1 + i) 5 (g_3 i) H1 := by rw [eg_3]; exact h_ha
  refine lv_astore (lv' := [(22, .ref ha), (21, .ref ma), (20, .ref ce), (0, .ref b), (1, .ref (ad 0)), (2, .int (nI n)), (3, .ref z), (4, .int (nI tm))]) hx hb dL_law_873 hl (by decide) rfl (fun ls hl => ?_)
  refine lv_bipush (v := nI 20) hx hb dL_law_875 (by decide) ?_
  obtain ⟨th, eq_th⟩ : ∃ z, H1.size = z := ⟨_, rfl⟩
  have hht : ha + 20 < th := by have := rows_lt h_hao h_ha; omega
  refine w_newaQ eq_th hx hb (hts (.arrayClass .int) (by decide +kernel)) hK 0 rfl hS (by omega) (by omega) (by omega) (by omega) dL_law_877 (fun H1 h_th z1 o1 hS => ?_)
  have hG := hG.newQ eq_th o1
  have h_z := h_z.kept (o1 _ (by have := h_z.lt; omega))
  have h_ce := h_ce.kept (o1 _ (by have := h_ce.lt; omega))
  have h_ma := h_ma.kept (o1 _ (by have := h_ma.lt; omega))
  have h_hao := h_hao.kept (o1 _ (by have := h_hao.lt; omega))
  have h_ha := fun (i : Nat) (hi : i < 20) => (h_ha i hi).kept (o1 _ (by have := (h_ha i hi).lt; omega))
  obtain ⟨f_4, ef_4⟩ : ∃ z : Nat → Int32, z = (fun _ => 0) := ⟨_, rfl⟩
  rw [← ef_4] at h_th
  refine lv_astore (lv' := [(23, .ref th), (22, .ref ha), (21, .ref ma), (20, .ref ce), (0, .ref b), (1, .ref (ad 0)), (2, .int (nI n)), (3, .ref z), (4, .int (nI tm))]) hx hb dL_law_879 hl (by decide) rfl (fun ls hl => ?_)
  refine lv_iconst (v := nI 0) hx hb dL_law_881 (by decide) ?_
  refine lv_istore (lv' := [(24, .int (nI 0)), (23, .ref th), (22, .ref ha), (21, .ref ma), (20, .ref ce), (0, .ref b), (1, .ref (ad 0)), (2, .int (nI n)), (3, .ref z), (4, .int (nI tm))]) hx hb dL_law_882 hl (by decide) rfl (fun ls hl => ?_)
  have L884 : ∀ (fu : Nat) (i9 : Nat) (fc : Nat → Int32) (fm : Nat → Int32) (gh9 : Nat → Nat → Int32) (ft : Nat → Int32) (c884 s884 : Nat) (H1 : Heap) (locs : List Loc) (ls : Array Slot), np - i9 < fu → (c884 ≤ cc + 24 + 30 * i9) → (s884 ≤ ss + n + n + 140 + 200 * i9) → (i9 ≤ np) → (∀ s, s < n → fc s = nI (sm (kdF F s) i9)) → (∀ s, s < n → fm s = nI (cn (fun i => F 4 i == nI s) i9)) → (∀ q, q < 20 → ∀ k, k < 4 → gh9 q k = nI (cn (inQ F q k) i9)) → (∀ q, q < 20 → ft q = sS (F 7) (F 6) (nI q) i9) → GW D cI cZ cO ad n np nq F H1 → (ar cI z 4 szf H1) → (ar cI ce n fc H1) → (ar cI ma n fm H1) → (ao cO ha 20 H1) → (∀ i, i < 20 → ar cI (ha + 1 + i) 5 (gh9 i) H1) → (ar cI th 20 ft H1) → va_S (LA s) s.heap H1 locs → lv_has ls 29 [(0, .ref b), (1, .ref (ad 0)), (2, .int (nI n)), (3, .ref z), (4, .int (nI tm)), (20, .ref ce), (21, .ref ma), (22, .ref ha), (23, .ref th), (24, .int (nI i9))] → W p l e R s m args below meth c H1 locs c884 s884 Q (F0 m 884 ls []) := by
    intro fu
    induction fu with
    | zero => intro _ _ _ _ _ _ _ _ _ _ h; exact absurd h (Nat.not_lt_zero _)
    | succ fu ih884 =>
      intro i9 fc fm gh9 ft c884 s884 H1 locs ls hm884 hc884 hs884 hi hce hma hha hth hG h_z h_ce h_ma h_hao h_ha h_th hS hl
      refine lv_iload hx hb dL_law_884 (lv_at hl 9 rfl) ?_
      refine lv_aload_n hx hb dL_law_886 rfl (lv_at hl 1 rfl) ?_
      refine lv_iconst (v := nI 1) hx hb dL_law_887 (by decide) ?_
      refine va_calli (va_runV (As := [.int (nI 1)]) (rest := [.int (nI i9)]) ⟨hx, hb, hml, hown, hts⟩ (n_count l hst D cI cZ cO ad n np nq F 1 hJ (by decide)) (cwV 1 hts gL_law_X0_count rfl rfl rfl (by decide +kernel) ⟨Nat.le_trans (Nat.le_of_ble_eq_true rfl) hRf, Nat.le_trans (Nat.le_of_ble_eq_true rfl) hRl⟩) (prG_V hG hK (hE.1.at hS sub_id sub_no) EnvG_c) rfl rfl hl.1 rfl (lv_room (Nat.le_of_ble_eq_true rfl)) dL_law_888 ⟨by omega, by omega⟩) hS (fun _ _ h => h.elim) (fun _ h => h.elim) (fun r_5 _ t H1 locs ht hvm hw hB hz hk hS => ?_)
      have hG := hG.kept hk
      have h_z := h_z.kept (hk _ h_z.lt id)
      have h_ce := h_ce.kept (hk _ h_ce.lt id)
      have h_ma := h_ma.kept (hk _ h_ma.lt id)
      have h_hao := h_hao.kept (hk _ h_hao.lt id)
      have h_ha := fun (i : Nat) (hi : i < 20) => (h_ha i hi).kept (hk _ (h_ha i hi).lt id)
      have h_th := h_th.kept (hk _ h_th.lt id)
      obtain rfl : r_5 = nI np := hw
      refine nv_icmp_ge (tgt := 1036) hx hb (by omega) (by omega) dL_law_891 (by decide) (fun c_6 => ?_) (fun c_6 => ?_)
      · exact kk1036 ce ma ha th fc fm gh9 ft _ _ _ _ _ (by omega) (by omega) hzc hcm hmh hht (fun s hs => by rw [hce s hs, show i9 = np by omega, ← hJ.2.2.1 s hs]) (fun s hs => by rw [hma s hs, show i9 = np by omega]; exact (hJ.inv.2.2.2.2.2.2.2.2.1 s (by omega)).symm) (fun q hq k hk => by rw [hha q hq k hk, show i9 = np by omega]) (fun q hq => by rw [hth q hq, show i9 = np by omega]) hG h_z h_ce h_ma h_hao h_ha h_th hS (lv_sub hl [0, 1, 2, 3, 4, 5, 6, 7, 8] rfl)
      · obtain ⟨k9, hk9, e4⟩ := hsk9 i9 (by omega)
        obtain ⟨⟨kd9, hkd9, e5⟩, h6, -⟩ := hJ.2.1 i9 (by omega)
        have hkz := kz_le (k := kd9)
        refine lv_aload_n hx hb dL_law_894 rfl (lv_at hl 1 rfl) ?_
        refine lv_iload hx hb dL_law_895 (lv_at hl 9 rfl) ?_
        refine lv_iconst (v := nI 0) hx hb dL_law_897 (by decide) ?_
        refine va_calli (va_runV (As := [.int (nI i9), .int (nI 0)]) (rest := []) ⟨hx, hb, hml, hown, hts⟩ (n_piece l hst D cI cZ cO ad n np nq F i9 0 hJ (by omega) (by omega)) (cwV 2 hts gL_law_X0_piece rfl rfl rfl (by decide +kernel) ⟨Nat.le_trans (Nat.le_of_ble_eq_true rfl) hRf, Nat.le_trans (Nat.le_of_ble_eq_true rfl) hRl⟩) (prG_V hG hK (hE.1.at hS sub_id sub_no) EnvG_c) rfl rfl hl.1 rfl (lv_room (Nat.le_of_ble_eq_true rfl)) dL_law_898 ⟨by omega, by omega⟩) hS (fun _ _ h => h.elim) (fun _ h => h.elim) (fun r_7 _ t H1 locs ht hvm hw hB hz hk hS => ?_)
        have hG := hG.kept hk
        have h_z := h_z.kept (hk _ h_z.lt id)
        have h_ce := h_ce.kept (hk _ h_ce.lt id)
        have h_ma := h_ma.kept (hk _ h_ma.lt id)
        have h_hao := h_hao.kept (hk _ h_hao.lt id)
        have h_ha := fun (i : Nat) (hi : i < 20) => (h_ha i hi).kept (hk _ (h_ha i hi).lt id)
        have h_th := h_th.kept (hk _ h_th.lt id)
        obtain rfl := hw
        rw [(show pcT F i9 0 = F 4 i9 from rfl)]
        rw [e4]
        refine lv_istore (lv' := [(25, .int (nI k9)), (0, .ref b), (1, .ref (ad 0)), (2, .int (nI n)), (3, .ref z), (4, .int (nI tm)), (20, .ref ce), (21, .ref ma), (22, .ref ha), (23, .ref th), (24, .int (nI i9))]) hx hb dL_law_901 hl (by decide) rfl (fun ls hl => ?_)
        refine lv_aload hx hb dL_law_903 (lv_at hl 6 rfl) ?_
        refine lv_iload hx hb dL_law_905 (lv_at hl 0 rfl) ?_
        refine lv_dup2_11 hx hb dL_law_907 rfl rfl ?_
        refine w_iald hx hb hK 0 h_ce rfl (by omega) (by omega) dL_law_908 ?_
        refine lv_aload_n hx hb dL_law_909 rfl (lv_at hl 4 rfl) ?_
        refine lv_aload_n hx hb dL_law_910 rfl (lv_at hl 2 rfl) ?_
        refine lv_iload hx hb dL_law_911 (lv_at hl 10 rfl) ?_
        refine lv_iconst (v := nI 1) hx hb dL_law_913 (by decide) ?_
        refine va_calli (va_runV (As := [.int (nI i9), .int (nI 1)]) (rest := [.ref z, .int (fc k9), .int (nI k9), .ref ce]) ⟨hx, hb, hml, hown, hts⟩ (n_piece l hst D cI cZ cO ad n np nq F i9 1 hJ (by omega) (by omega)) (cwV 2 hts gL_law_X0_piece rfl rfl rfl (by decide +kernel) ⟨Nat.le_trans (Nat.le_of_ble_eq_true rfl) hRf, Nat.le_trans (Nat.le_of_ble_eq_true rfl) hRl⟩) (prG_V hG hK (hE.1.at hS sub_id sub_no) EnvG_c) rfl rfl hl.1 rfl (lv_room (Nat.le_of_ble_eq_true rfl)) dL_law_914 ⟨by omega, by omega⟩) hS (fun _ _ h => h.elim) (fun _ h => h.elim) (fun r_8 _ t H1 locs ht hvm hw hB hz hk hS => ?_)
        have hG := hG.kept hk
        have h_z := h_z.kept (hk _ h_z.lt id)
        have h_ce := h_ce.kept (hk _ h_ce.lt id)
        have h_ma := h_ma.kept (hk _ h_ma.lt id)
        have h_hao := h_hao.kept (hk _ h_hao.lt id)
        have h_ha := fun (i : Nat) (hi : i < 20) => (h_ha i hi).kept (hk _ (h_ha i hi).lt id)
        have h_th := h_th.kept (hk _ h_th.lt id)
        obtain rfl := hw
        rw [(show pcT F i9 1 = F 5 i9 from rfl)]
        rw [e5]
        refine w_iald hx hb hK 0 h_z rfl (by omega) (by omega) dL_law_917 ?_
        rw [hsz kd9 (by omega)]
        refine lv_iadd hx hb dL_law_918 ?_
        refine w_iast hx hb hK 0 h_ce rfl (show s.heap.size ≤ _ by omega) hS (by omega) (by omega) dL_law_919 (fun H1 locs h_ce z1 oq hS => ?_)
        have hG := hG.put hinj hadz (by omega) oq
        have h_z := h_z.kept (oq _ (by omega))
        have h_ma := h_ma.kept (oq _ (by omega))
        have h_hao := h_hao.kept (oq _ (by omega))
        have h_ha := fun (i : Nat) (hi : i < 20) => (h_ha i hi).kept (oq _ (by omega))
        have h_th := h_th.kept (oq _ (by omega))
        obtain ⟨f_9, ef_9⟩ : ∃ z, z = upd fc k9 ((fc k9) + (nI (kz kd9))) := ⟨_, rfl⟩
        rw [← ef_9] at h_ce
        refine lv_aload hx hb dL_law_920 (lv_at hl 7 rfl) ?_
        refine lv_iload hx hb dL_law_922 (lv_at hl 0 rfl) ?_
        refine lv_dup2_11 hx hb dL_law_924 rfl rfl ?_
        refine w_iald hx hb hK 0 h_ma rfl (by omega) (by omega) dL_law_925 ?_
        refine lv_iconst (v := nI 1) hx hb dL_law_926 (by decide) ?_
        refine lv_iadd hx hb dL_law_927 ?_
        refine w_iast hx hb hK 0 h_ma rfl (show s.heap.size ≤ _ by omega) hS (by omega) (by omega) dL_law_928 (fun H1 locs h_ma z1 oq hS => ?_)
        have hG := hG.put hinj hadz (by omega) oq
        have h_z := h_z.kept (oq _ (by omega))
        have h_ce := h_ce.kept (oq _ (by omega))
        have h_hao := h_hao.kept (oq _ (by omega))
        have h_ha := fun (i : Nat) (hi : i < 20) => (h_ha i hi).kept (oq _ (by omega))
        have h_th := h_th.kept (oq _ (by omega))
        obtain ⟨f_10, ef_10⟩ : ∃ z, z = upd fm k9 ((fm k9) + (nI 1)) := ⟨_, rfl⟩
        rw [← ef_10] at h_ma
        refine lv_aload_n hx hb dL_law_929 rfl (lv_at hl 2 rfl) ?_
        refine lv_iload hx hb dL_law_930 (lv_at hl 10 rfl) ?_
        refine lv_iconst (v := nI 2) hx hb dL_law_932 (by decide) ?_
        refine va_calli (va_runV (As := [.int (nI i9), .int (nI 2)]) (rest := []) ⟨hx, hb, hml, hown, hts⟩ (n_piece l hst D cI cZ cO ad n np nq F i9 2 hJ (by omega) (by omega)) (cwV 2 hts gL_law_X0_piece rfl rfl rfl (by decide +kernel) ⟨Nat.le_trans (Nat.le_of_ble_eq_true rfl) hRf, Nat.le_trans (Nat.le_of_ble_eq_true rfl) hRl⟩) (prG_V hG hK (hE.1.at hS sub_id sub_no) EnvG_c) rfl rfl hl.1 rfl (lv_room (Nat.le_of_ble_eq_true rfl)) dL_law_933 ⟨by omega, by omega⟩) hS (fun _ _ h => h.elim) (fun _ h => h.elim) (fun r_11 _ t H1 locs ht hvm hw hB hz hk hS => ?_)
        have hG := hG.kept hk
        have h_z := h_z.kept (hk _ h_z.lt id)
        have h_ce := h_ce.kept (hk _ h_ce.lt id)
        have h_ma := h_ma.kept (hk _ h_ma.lt id)
        have h_hao := h_hao.kept (hk _ h_hao.lt id)
        have h_ha := fun (i : Nat) (hi : i < 20) => (h_ha i hi).kept (hk _ (h_ha i hi).lt id)
        have h_th := h_th.kept (hk _ h_th.lt id)
        obtain rfl := hw
        rw [(show pcT F i9 2 = F 6 i9 from rfl)]
        rcases h6 with e6 | e6 | ⟨q9, hq9, e6⟩
        · rw [e6]
          refine lv_istore (lv' := [(26, .int (-1)), (25, .int (nI k9)), (0, .ref b), (1, .ref (ad 0)), (2, .int (nI n)), (3, .ref z), (4, .int (nI tm)), (20, .ref ce), (21, .ref ma), (22, .ref ha), (23, .ref th), (24, .int (nI i9))]) hx hb dL_law_936 hl (by decide) rfl (fun ls hl => ?_)
          refine lv_iload hx hb dL_law_938 (lv_at hl 0 rfl) ?_
          refine lv_if_ge (tgt := 946) hx hb dL_law_940 (by decide) (fun c_12 => ?_) (fun c_12 => ?_)
          · exact absurd c_12 (by decide)
          · refine lv_goto (tgt := 1030) hx hb dL_law_943 (by decide) ?_
            refine lv_iinc (k := 11) (v := nI (i9 + 1)) (lv' := [(24, .int (nI (i9 + 1))), (26, .int (-1)), (25, .int (nI k9)), (0, .ref b), (1, .ref (ad 0)), (2, .int (nI n)), (3, .ref z), (4, .int (nI tm)), (20, .ref ce), (21, .ref ma), (22, .ref ha), (23, .ref th)]) hx hb dL_law_1030 hl rfl (nI_add i9 1) (by decide) rfl (fun ls hl => ?_)
            refine lv_goto (tgt := 884) hx hb dL_law_1033 (by decide) ?_
            exact ih884 (i9 + 1) f_9 f_10 gh9 ft _ _ _ _ _ (by omega) (by omega) (by omega) (by omega) (by rw [ef_9]; exact st_ce hn9 hce hk9 e4 e5 hkd9) (by rw [ef_10]; exact st_ma hn9 hma hk9 e4) (st_h0 hha (Or.inl e6)) (st_t0 hth (Or.inl e6)) hG h_z h_ce h_ma h_hao h_ha h_th hS (lv_sub hl [3, 4, 5, 6, 7, 8, 9, 10, 11, 0] rfl)
        · rw [e6]
          refine lv_istore (lv' := [(26, .int (-2)), (25, .int (nI k9)), (0, .ref b), (1, .ref (ad 0)), (2, .int (nI n)), (3, .ref z), (4, .int (nI tm)), (20, .ref ce), (21, .ref ma), (22, .ref ha), (23, .ref th), (24, .int (nI i9))]) hx hb dL_law_936 hl (by decide) rfl (fun ls hl => ?_)
          refine lv_iload hx hb dL_law_938 (lv_at hl 0 rfl) ?_
          refine lv_if_ge (tgt := 946) hx hb dL_law_940 (by decide) (fun c_13 => ?_) (fun c_13 => ?_)
          · exact absurd c_13 (by decide)
          · refine lv_goto (tgt := 1030) hx hb dL_law_943 (by decide) ?_
            refine lv_iinc (k := 11) (v := nI (i9 + 1)) (lv' := [(24, .int (nI (i9 + 1))), (26, .int (-2)), (25, .int (nI k9)), (0, .ref b), (1, .ref (ad 0)), (2, .int (nI n)), (3, .ref z), (4, .int (nI tm)), (20, .ref ce), (21, .ref ma), (22, .ref ha), (23, .ref th)]) hx hb dL_law_1030 hl rfl (nI_add i9 1) (by decide) rfl (fun ls hl => ?_)
            refine lv_goto (tgt := 884) hx hb dL_law_1033 (by decide) ?_
            exact ih884 (i9 + 1) f_9 f_10 gh9 ft _ _ _ _ _ (by omega) (by omega) (by omega) (by omega) (by rw [ef_9]; exact st_ce hn9 hce hk9 e4 e5 hkd9) (by rw [ef_10]; exact st_ma hn9 hma hk9 e4) (st_h0 hha (Or.inr e6)) (st_t0 hth (Or.inr e6)) hG h_z h_ce h_ma h_hao h_ha h_th hS (lv_sub hl [3, 4, 5, 6, 7, 8, 9, 10, 11, 0] rfl)
        · rw [e6]
          obtain ⟨w12, w1, w9⟩ := hJ.2.2.2.1 q9 hq9 i9 (by omega) e6
          rw [e4, cl_n (by omega)] at w1
          rw [e4, e5] at w9
          refine lv_istore (lv' := [(26, .int (nI q9)), (25, .int (nI k9)), (0, .ref b), (1, .ref (ad 0)), (2, .int (nI n)), (3, .ref z), (4, .int (nI tm)), (20, .ref ce), (21, .ref ma), (22, .ref ha), (23, .ref th), (24, .int (nI i9))]) hx hb dL_law_936 hl (by decide) rfl (fun ls hl => ?_)
          refine lv_iload hx hb dL_law_938 (lv_at hl 0 rfl) ?_
          refine nv_if_ge (tgt := 946) hx hb (by omega) dL_law_940 (by decide) ?_
          refine lv_aload hx hb dL_law_946 (lv_at hl 9 rfl) ?_
          refine lv_iload hx hb dL_law_948 (lv_at hl 0 rfl) ?_
          refine w_aald hx hb hK 2 h_hao rfl (by omega) (by omega) dL_law_950 ?_
          refine lv_aload_n hx hb dL_law_951 rfl (lv_at hl 3 rfl) ?_
          refine lv_iload hx hb dL_law_952 (lv_at hl 11 rfl) ?_
          refine lv_iconst (v := nI 1) hx hb dL_law_954 (by decide) ?_
          refine va_calli (va_runV (As := [.int (nI i9), .int (nI 1)]) (rest := [.ref (ha + 1 + q9)]) ⟨hx, hb, hml, hown, hts⟩ (n_piece l hst D cI cZ cO ad n np nq F i9 1 hJ (by omega) (by omega)) (cwV 2 hts gL_law_X0_piece rfl rfl rfl (by decide +kernel) ⟨Nat.le_trans (Nat.le_of_ble_eq_true rfl) hRf, Nat.le_trans (Nat.le_of_ble_eq_true rfl) hRl⟩) (prG_V hG hK (hE.1.at hS sub_id sub_no) EnvG_c) rfl rfl hl.1 rfl (lv_room (Nat.le_of_ble_eq_true rfl)) dL_law_955 ⟨by omega, by omega⟩) hS (fun _ _ h => h.elim) (fun _ h => h.elim) (fun r_15 _ t H1 locs ht hvm hw hB hz hk hS => ?_)
          have hG := hG.kept hk
          have h_z := h_z.kept (hk _ h_z.lt id)
          have h_ce := h_ce.kept (hk _ h_ce.lt id)
          have h_ma := h_ma.kept (hk _ h_ma.lt id)
          have h_hao := h_hao.kept (hk _ h_hao.lt id)
          have h_ha := fun (i : Nat) (hi : i < 20) => (h_ha i hi).kept (hk _ (h_ha i hi).lt id)
          have h_th := h_th.kept (hk _ h_th.lt id)
          obtain rfl := hw
          rw [(show pcT F i9 1 = F 5 i9 from rfl)]
          rw [e5]
          refine lv_dup2_11 hx hb dL_law_958 rfl rfl ?_
          refine w_iald hx hb hK 0 (h_ha q9 (by omega)) rfl (by omega) (by decide) dL_law_959 ?_
          refine lv_iconst (v := nI 1) hx hb dL_law_960 (by decide) ?_
          refine lv_iadd hx hb dL_law_961 ?_
          refine w_iast hx hb hK 0 (h_ha q9 (by omega)) rfl (show s.heap.size ≤ _ by omega) hS (by omega) (by decide) dL_law_962 (fun H1 locs h9 z1 oq hS => ?_)
          have hG := hG.put hinj hadz (by omega) oq
          have h_z := h_z.kept (oq _ (by omega))
          have h_ce := h_ce.kept (oq _ (by omega))
          have h_ma := h_ma.kept (oq _ (by omega))
          have h_hao := h_hao.kept (oq _ (by omega))
          have h_th := h_th.kept (oq _ (by omega))
          have h_ha : ∀ i, i < 20 → ar cI (ha + 1 + i) 5 ((va_up gh9 q9 (upd (gh9 q9) kd9 ((gh9 q9 kd9) + (nI 1)))) i) H1 := fun i hi => by
            by_cases e9 : i = q9
            · subst e9; rw [va_up_self]; exact h9
            · rw [va_up_ne _ _ e9]; exact (h_ha i hi).kept (oq _ (by omega))
          obtain ⟨g_16, eg_16⟩ : ∃ z : Nat → Nat → Int32, z = va_up gh9 q9 (upd (gh9 q9) kd9 ((gh9 q9 kd9) + (nI 1))) := ⟨_, rfl⟩
          rw [← eg_16] at h_ha
          refine lv_aload hx hb dL_law_963 (lv_at hl 10 rfl) ?_
          refine lv_iload hx hb dL_law_965 (lv_at hl 0 rfl) ?_
          refine lv_dup2_11 hx hb dL_law_967 rfl rfl ?_
          refine w_iald hx hb hK 0 h_th rfl (by omega) (by omega) dL_law_968 ?_
          refine lv_aload_n hx hb dL_law_969 rfl (lv_at hl 3 rfl) ?_
          refine lv_iload hx hb dL_law_970 (lv_at hl 11 rfl) ?_
          refine lv_iconst (v := nI 3) hx hb dL_law_972 (by decide) ?_
          refine va_calli (va_runV (As := [.int (nI i9), .int (nI 3)]) (rest := [.int (ft q9), .int (nI q9), .ref th]) ⟨hx, hb, hml, hown, hts⟩ (n_piece l hst D cI cZ cO ad n np nq F i9 3 hJ (by omega) (by omega)) (cwV 2 hts gL_law_X0_piece rfl rfl rfl (by decide +kernel) ⟨Nat.le_trans (Nat.le_of_ble_eq_true rfl) hRf, Nat.le_trans (Nat.le_of_ble_eq_true rfl) hRl⟩) (prG_V hG hK (hE.1.at hS sub_id sub_no) EnvG_c) rfl rfl hl.1 rfl (lv_room (Nat.le_of_ble_eq_true rfl)) dL_law_973 ⟨by omega, by omega⟩) hS (fun _ _ h => h.elim) (fun _ h => h.elim) (fun r_17 _ t H1 locs ht hvm hw hB hz hk hS => ?_)
          have hG := hG.kept hk
          have h_z := h_z.kept (hk _ h_z.lt id)
          have h_ce := h_ce.kept (hk _ h_ce.lt id)
          have h_ma := h_ma.kept (hk _ h_ma.lt id)
          have h_hao := h_hao.kept (hk _ h_hao.lt id)
          have h_ha := fun (i : Nat) (hi : i < 20) => (h_ha i hi).kept (hk _ (h_ha i hi).lt id)
          have h_th := h_th.kept (hk _ h_th.lt id)
          obtain rfl := hw
          rw [(show pcT F i9 3 = F 7 i9 from rfl)]
          refine lv_iadd hx hb dL_law_976 ?_
          refine w_iast hx hb hK 0 h_th rfl (show s.heap.size ≤ _ by omega) hS (by omega) (by omega) dL_law_977 (fun H1 locs h_th z1 oq hS => ?_)
          have hG := hG.put hinj hadz (by omega) oq
          have h_z := h_z.kept (oq _ (by omega))
          have h_ce := h_ce.kept (oq _ (by omega))
          have h_ma := h_ma.kept (oq _ (by omega))
          have h_hao := h_hao.kept (oq _ (by omega))
          have h_ha := fun (i : Nat) (hi : i < 20) => (h_ha i hi).kept (oq _ (by omega))
          obtain ⟨f_18, ef_18⟩ : ∃ z, z = upd ft q9 ((ft q9) + (F 7 i9)) := ⟨_, rfl⟩
          rw [← ef_18] at h_th
          refine lv_aload_n hx hb dL_law_978 rfl (lv_at hl 3 rfl) ?_
          refine lv_iload hx hb dL_law_979 (lv_at hl 1 rfl) ?_
          refine lv_iconst (v := nI 0) hx hb dL_law_981 (by decide) ?_
          refine va_calli (va_runV (As := [.int (nI k9), .int (nI 0)]) (rest := []) ⟨hx, hb, hml, hown, hts⟩ (n_skin l hst D cI cZ cO ad n np nq F k9 0 hJ (by omega) (by omega)) (cwV 2 hts gL_law_X0_skin rfl rfl rfl (by decide +kernel) ⟨Nat.le_trans (Nat.le_of_ble_eq_true rfl) hRf, Nat.le_trans (Nat.le_of_ble_eq_true rfl) hRl⟩) (prG_V hG hK (hE.1.at hS sub_id sub_no) EnvG_c) rfl rfl hl.1 rfl (lv_room (Nat.le_of_ble_eq_true rfl)) dL_law_982 ⟨by omega, by omega⟩) hS (fun _ _ h => h.elim) (fun _ h => h.elim) (fun r_19 _ t H1 locs ht hvm hw hB hz hk hS => ?_)
          have hG := hG.kept hk
          have h_z := h_z.kept (hk _ h_z.lt id)
          have h_ce := h_ce.kept (hk _ h_ce.lt id)
          have h_ma := h_ma.kept (hk _ h_ma.lt id)
          have h_hao := h_hao.kept (hk _ h_hao.lt id)
          have h_ha := fun (i : Nat) (hi : i < 20) => (h_ha i hi).kept (hk _ (h_ha i hi).lt id)
          have h_th := h_th.kept (hk _ h_th.lt id)
          obtain rfl := hw
          rw [sk_0 F k9]
          refine lv_aload_n hx hb dL_law_985 rfl (lv_at hl 3 rfl) ?_
          refine lv_iload hx hb dL_law_986 (lv_at hl 0 rfl) ?_
          refine lv_iconst (v := nI 0) hx hb dL_law_988 (by decide) ?_
          refine va_calli (va_runV (As := [.int (nI q9), .int (nI 0)]) (rest := [.int (F 1 k9)]) ⟨hx, hb, hml, hown, hts⟩ (n_pair l hst D cI cZ cO ad n np nq F q9 0 hJ (by omega) (by omega)) (cwV 2 hts gL_law_X0_pair rfl rfl rfl (by decide +kernel) ⟨Nat.le_trans (Nat.le_of_ble_eq_true rfl) hRf, Nat.le_trans (Nat.le_of_ble_eq_true rfl) hRl⟩) (prG_V hG hK (hE.1.at hS sub_id sub_no) EnvG_c) rfl rfl hl.1 rfl (lv_room (Nat.le_of_ble_eq_true rfl)) dL_law_989 ⟨by omega, by omega⟩) hS (fun _ _ h => h.elim) (fun _ h => h.elim) (fun r_20 _ t H1 locs ht hvm hw hB hz hk hS => ?_)
          have hG := hG.kept hk
          have h_z := h_z.kept (hk _ h_z.lt id)
          have h_ce := h_ce.kept (hk _ h_ce.lt id)
          have h_ma := h_ma.kept (hk _ h_ma.lt id)
          have h_hao := h_hao.kept (hk _ h_hao.lt id)
          have h_ha := fun (i : Nat) (hi : i < 20) => (h_ha i hi).kept (hk _ (h_ha i hi).lt id)
          have h_th := h_th.kept (hk _ h_th.lt id)
          obtain rfl := hw
          rw [(show prT F q9 0 = F 8 q9 from rfl)]
          refine lv_icmp_ne (tgt := 1028) hx hb dL_law_992 (by decide) (fun c_21 => ?_) (fun c_21 => ?_)
          · exact absurd w1 c_21
          · refine lv_aload_n hx hb dL_law_995 rfl (lv_at hl 3 rfl) ?_
            refine lv_iload hx hb dL_law_996 (lv_at hl 11 rfl) ?_
            refine lv_iconst (v := nI 1) hx hb dL_law_998 (by decide) ?_
            refine va_calli (va_runV (As := [.int (nI i9), .int (nI 1)]) (rest := []) ⟨hx, hb, hml, hown, hts⟩ (n_piece l hst D cI cZ cO ad n np nq F i9 1 hJ (by omega) (by omega)) (cwV 2 hts gL_law_X0_piece rfl rfl rfl (by decide +kernel) ⟨Nat.le_trans (Nat.le_of_ble_eq_true rfl) hRf, Nat.le_trans (Nat.le_of_ble_eq_true rfl) hRl⟩) (prG_V hG hK (hE.1.at hS sub_id sub_no) EnvG_c) rfl rfl hl.1 rfl (lv_room (Nat.le_of_ble_eq_true rfl)) dL_law_999 ⟨by omega, by omega⟩) hS (fun _ _ h => h.elim) (fun _ h => h.elim) (fun r_22 _ t H1 locs ht hvm hw hB hz hk hS => ?_)
            have hG := hG.kept hk
            have h_z := h_z.kept (hk _ h_z.lt id)
            have h_ce := h_ce.kept (hk _ h_ce.lt id)
            have h_ma := h_ma.kept (hk _ h_ma.lt id)
            have h_hao := h_hao.kept (hk _ h_hao.lt id)
            have h_ha := fun (i : Nat) (hi : i < 20) => (h_ha i hi).kept (hk _ (h_ha i hi).lt id)
            have h_th := h_th.kept (hk _ h_th.lt id)
            obtain rfl := hw
            rw [(show pcT F i9 1 = F 5 i9 from rfl)]
            rw [e5]
            refine nv_if_ne (tgt := 1017) hx hb (by omega) dL_law_1002 (by decide) (fun c_23 => ?_) (fun c_23 => ?_)
            · refine lv_aload_n hx hb dL_law_1017 rfl (lv_at hl 3 rfl) ?_
              refine lv_iload hx hb dL_law_1018 (lv_at hl 0 rfl) ?_
              refine lv_iconst (v := nI 4) hx hb dL_law_1020 (by decide) ?_
              refine va_calli (va_runV (As := [.int (nI q9), .int (nI 4)]) (rest := []) ⟨hx, hb, hml, hown, hts⟩ (n_pair l hst D cI cZ cO ad n np nq F q9 4 hJ (by omega) (by omega)) (cwV 2 hts gL_law_X0_pair rfl rfl rfl (by decide +kernel) ⟨Nat.le_trans (Nat.le_of_ble_eq_true rfl) hRf, Nat.le_trans (Nat.le_of_ble_eq_true rfl) hRl⟩) (prG_V hG hK (hE.1.at hS sub_id sub_no) EnvG_c) rfl rfl hl.1 rfl (lv_room (Nat.le_of_ble_eq_true rfl)) dL_law_1021 ⟨by omega, by omega⟩) hS (fun _ _ h => h.elim) (fun _ h => h.elim) (fun r_24 _ t H1 locs ht hvm hw hB hz hk hS => ?_)
              have hG := hG.kept hk
              have h_z := h_z.kept (hk _ h_z.lt id)
              have h_ce := h_ce.kept (hk _ h_ce.lt id)
              have h_ma := h_ma.kept (hk _ h_ma.lt id)
              have h_hao := h_hao.kept (hk _ h_hao.lt id)
              have h_ha := fun (i : Nat) (hi : i < 20) => (h_ha i hi).kept (hk _ (h_ha i hi).lt id)
              have h_th := h_th.kept (hk _ h_th.lt id)
              obtain rfl := hw
              rw [(show prT F q9 4 = F 12 q9 from rfl)]
              rw [show F 12 q9 = nI 0 from w12]
              refine lv_iconst (v := nI 1) hx hb dL_law_1024 (by decide) ?_
              refine nv_icmp_ne (tgt := 1030) hx hb (by omega) (by omega) dL_law_1025 (by decide) (fun _ => ?_) (fun h9 => absurd h9 (by decide))
              refine lv_iinc (k := 11) (v := nI (i9 + 1)) (lv' := [(24, .int (nI (i9 + 1))), (26, .int (nI q9)), (25, .int (nI k9)), (0, .ref b), (1, .ref (ad 0)), (2, .int (nI n)), (3, .ref z), (4, .int (nI tm)), (20, .ref ce), (21, .ref ma), (22, .ref ha), (23, .ref th)]) hx hb dL_law_1030 hl rfl (nI_add i9 1) (by decide) rfl (fun ls hl => ?_)
              refine lv_goto (tgt := 884) hx hb dL_law_1033 (by decide) ?_
              exact ih884 (i9 + 1) f_9 f_10 g_16 f_18 _ _ _ _ _ (by omega) (by omega) (by omega) (by omega) (by rw [ef_9]; exact st_ce hn9 hce hk9 e4 e5 hkd9) (by rw [ef_10]; exact st_ma hn9 hma hk9 e4) (by rw [eg_16]; exact st_hq hha (by omega) hkd9 e6 e5) (by rw [ef_18]; exact st_tq hth (by omega) e6) hG h_z h_ce h_ma h_hao h_ha h_th hS (lv_sub hl [3, 4, 5, 6, 7, 8, 9, 10, 11, 0] rfl)
            · refine lv_iload hx hb dL_law_1005 (lv_at hl 1 rfl) ?_
              refine lv_aload_n hx hb dL_law_1007 rfl (lv_at hl 3 rfl) ?_
              refine lv_iload hx hb dL_law_1008 (lv_at hl 0 rfl) ?_
              refine lv_iconst (v := nI 1) hx hb dL_law_1010 (by decide) ?_
              refine va_calli (va_runV (As := [.int (nI q9), .int (nI 1)]) (rest := [.int (nI k9)]) ⟨hx, hb, hml, hown, hts⟩ (n_pair l hst D cI cZ cO ad n np nq F q9 1 hJ (by omega) (by omega)) (cwV 2 hts gL_law_X0_pair rfl rfl rfl (by decide +kernel) ⟨Nat.le_trans (Nat.le_of_ble_eq_true rfl) hRf, Nat.le_trans (Nat.le_of_ble_eq_true rfl) hRl⟩) (prG_V hG hK (hE.1.at hS sub_id sub_no) EnvG_c) rfl rfl hl.1 rfl (lv_room (Nat.le_of_ble_eq_true rfl)) dL_law_1011 ⟨by omega, by omega⟩) hS (fun _ _ h => h.elim) (fun _ h => h.elim) (fun r_26 _ t H1 locs ht hvm hw hB hz hk hS => ?_)
              have hG := hG.kept hk
              have h_z := h_z.kept (hk _ h_z.lt id)
              have h_ce := h_ce.kept (hk _ h_ce.lt id)
              have h_ma := h_ma.kept (hk _ h_ma.lt id)
              have h_hao := h_hao.kept (hk _ h_hao.lt id)
              have h_ha := fun (i : Nat) (hi : i < 20) => (h_ha i hi).kept (hk _ (h_ha i hi).lt id)
              have h_th := h_th.kept (hk _ h_th.lt id)
              obtain rfl := hw
              rw [(show prT F q9 1 = F 9 q9 from rfl)]
              refine lv_icmp_ne (tgt := 1028) hx hb dL_law_1014 (by decide) (fun c_27 => ?_) (fun c_27 => ?_)
              · exact absurd (w9 (by rw [c_23])) c_27
              · refine lv_aload_n hx hb dL_law_1017 rfl (lv_at hl 3 rfl) ?_
                refine lv_iload hx hb dL_law_1018 (lv_at hl 0 rfl) ?_
                refine lv_iconst (v := nI 4) hx hb dL_law_1020 (by decide) ?_
                refine va_calli (va_runV (As := [.int (nI q9), .int (nI 4)]) (rest := []) ⟨hx, hb, hml, hown, hts⟩ (n_pair l hst D cI cZ cO ad n np nq F q9 4 hJ (by omega) (by omega)) (cwV 2 hts gL_law_X0_pair rfl rfl rfl (by decide +kernel) ⟨Nat.le_trans (Nat.le_of_ble_eq_true rfl) hRf, Nat.le_trans (Nat.le_of_ble_eq_true rfl) hRl⟩) (prG_V hG hK (hE.1.at hS sub_id sub_no) EnvG_c) rfl rfl hl.1 rfl (lv_room (Nat.le_of_ble_eq_true rfl)) dL_law_1021 ⟨by omega, by omega⟩) hS (fun _ _ h => h.elim) (fun _ h => h.elim) (fun r_28 _ t H1 locs ht hvm hw hB hz hk hS => ?_)
                have hG := hG.kept hk
                have h_z := h_z.kept (hk _ h_z.lt id)
                have h_ce := h_ce.kept (hk _ h_ce.lt id)
                have h_ma := h_ma.kept (hk _ h_ma.lt id)
                have h_hao := h_hao.kept (hk _ h_hao.lt id)
                have h_ha := fun (i : Nat) (hi : i < 20) => (h_ha i hi).kept (hk _ (h_ha i hi).lt id)
                have h_th := h_th.kept (hk _ h_th.lt id)
                obtain rfl := hw
                rw [(show prT F q9 4 = F 12 q9 from rfl)]
                rw [show F 12 q9 = nI 0 from w12]
                refine lv_iconst (v := nI 1) hx hb dL_law_1024 (by decide) ?_
                refine nv_icmp_ne (tgt := 1030) hx hb (by omega) (by omega) dL_law_1025 (by decide) (fun _ => ?_) (fun h9 => absurd h9 (by decide))
                refine lv_iinc (k := 11) (v := nI (i9 + 1)) (lv' := [(24, .int (nI (i9 + 1))), (26, .int (nI q9)), (25, .int (nI k9)), (0, .ref b), (1, .ref (ad 0)), (2, .int (nI n)), (3, .ref z), (4, .int (nI tm)), (20, .ref ce), (21, .ref ma), (22, .ref ha), (23, .ref th)]) hx hb dL_law_1030 hl rfl (nI_add i9 1) (by decide) rfl (fun ls hl => ?_)
                refine lv_goto (tgt := 884) hx hb dL_law_1033 (by decide) ?_
                exact ih884 (i9 + 1) f_9 f_10 g_16 f_18 _ _ _ _ _ (by omega) (by omega) (by omega) (by omega) (by rw [ef_9]; exact st_ce hn9 hce hk9 e4 e5 hkd9) (by rw [ef_10]; exact st_ma hn9 hma hk9 e4) (by rw [eg_16]; exact st_hq hha (by omega) hkd9 e6 e5) (by rw [ef_18]; exact st_tq hth (by omega) e6) hG h_z h_ce h_ma h_hao h_ha h_th hS (lv_sub hl [3, 4, 5, 6, 7, 8, 9, 10, 11, 0] rfl)
  exact L884 _ 0 f_1 f_2 g_3 f_4 _ _ _ _ _ (Nat.lt_succ_self _) (by omega) (by omega) (by omega) (fun s hs => by rw [ef_1]; rfl) (fun s hs => by rw [ef_2]; rfl) (fun q hq k hk => by rw [eg_3]; rfl) (fun q hq => by rw [ef_4]; rfl) hG h_z h_ce h_ma h_hao h_ha h_th hS (lv_sub hl [5, 6, 7, 8, 9, 4, 3, 2, 1, 0] rfl)
