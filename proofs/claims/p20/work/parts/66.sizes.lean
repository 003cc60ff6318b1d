set_option maxHeartbeats 4000000 in
set_option maxRecDepth 100000 in
/-- the sizes of the kinds -/
theorem sg_0 {p : Program} {l : Launch} {e : Env} {R : Room} {s : State} {m : MethodId} {args : Array Value} {below : List Frame} {meth : Method} {c : Code} {Q : State → Prop} {D : va_G} {cI cZ cO : ClassId} {ad : Nat → Nat} {b L : Nat} {xs : Nat → Int32} (hst : l.stackTraces = false) (hCx : LC cL_law 29 wsL_law p s m c args R D cI cZ cO b L xs) (hAD : inj ad 23 ∧ ∀ i, i ≤ 23 → s.heap.size ≤ ad i) (n np nq : Nat) (F : Nat → Nat → Int32)  (hJ : J n np nq F) (cc ss : Nat) (H1 : Heap) (locs : List Loc) (ls : Array Slot) (hRc : cc + 10 ≤ R.cells) (hRs : ss + 20 ≤ R.slots) (hG : GW D cI cZ cO ad n np nq F H1)  (hS : va_S (LA s) s.heap H1 locs) (hl : lv_has ls 29 [(0, .ref b)]) (kk32 : ∀ (z : Nat) (szf : Nat → Int32) (cc' ss' : Nat) (H1 : Heap) (locs : List Loc) (ls : Array Slot), cc' ≤ cc + 10 → ss' ≤ ss + 20 → (∀ i, i ≤ 23 → ad i < z) → (s.heap.size ≤ z) → (∀ k, k < 4 → szf k = nI (kz k)) → GW D cI cZ cO ad n np nq F H1 → (ar cI z 4 szf H1) → va_S (LA s) s.heap H1 locs → lv_has ls 29 [(0, .ref b), (1, .ref (ad 0)), (2, .int (nI n)), (3, .ref z)] → W p l e R s m args below meth c H1 locs cc' ss' Q (F0 m 32 ls [])) : W p l e R s m args below meth c H1 locs cc ss Q (F0 m 4 ls [.ref (ad 0)]) := by
  obtain ⟨hx, hb, hml, hown, hts, hK, hX, hbl, hL, hAO, hE, hRf, hRl⟩ := id hCx
  obtain ⟨hinj, hLA⟩ := id hAD
  have hbA : ¬ LA s b := Nat.not_le.mpr hbl
  have hAG : ∀ q, inA ad 23 q → LA s q := fun q ⟨i, hi, e⟩ => e ▸ hLA i hi
  obtain ⟨hn9, hnp9, hnq9, hsk9, hrip9, -⟩ := id hJ.inv
  refine lv_astore_n (lv' := [(1, .ref (ad 0)), (0, .ref b)]) hx hb dL_law_4 rfl hl (by decide) rfl (fun ls hl => ?_)
  refine lv_aload_n hx hb dL_law_5 rfl (lv_at hl 0 rfl) ?_
  refine lv_iconst (v := nI 0) hx hb dL_law_6 (by decide) ?_
  refine va_calli (va_runV (As := [.int (nI 0)]) (rest := []) ⟨hx, hb, hml, hown, hts⟩ (n_count l hst D cI cZ cO ad n np nq F 0 hJ (by decide)) (cwV 1 hts gL_law_X0_count rfl rfl rfl (by decide +kernel) ⟨Nat.le_trans (Nat.le_of_ble_eq_true rfl) hRf, Nat.le_trans (Nat.le_of_ble_eq_true rfl) hRl⟩) (prG_V hG hK (hE.1.at hS sub_id sub_no) EnvG_c) rfl rfl hl.1 rfl (lv_room (Nat.le_of_ble_eq_true rfl)) dL_law_7 ⟨by omega, by omega⟩) hS (fun _ _ h => h.elim) (fun _ h => h.elim) (fun r_1 _ t H1 locs ht hvm hw hB hz hk hS => ?_)
  have hG := hG.kept hk
  obtain rfl : r_1 = nI n := hw
  refine lv_istore_n (lv' := [(2, .int (nI n)), (1, .ref (ad 0)), (0, .ref b)]) hx hb dL_law_10 rfl hl (by decide) rfl (fun ls hl => ?_)
  refine lv_iconst (v := nI 4) hx hb dL_law_11 (by decide) ?_
  obtain ⟨z, eq_z⟩ : ∃ z, H1.size = z := ⟨_, rfl⟩
  have hadz : ∀ i, i ≤ 23 → ad i < z := fun i hi => eq_z ▸ hG.lt hi
  have hzA : s.heap.size ≤ z := eq_z ▸ hS.1
  refine w_newaQ eq_z hx hb (hts (.arrayClass .int) (by decide +kernel)) hK 0 rfl hS (by omega) (by omega) (by omega) (by omega) dL_law_12 (fun H1 h_z z1 o1 hS => ?_)
  have hG := hG.newQ eq_z o1
  obtain ⟨f_2, ef_2⟩ : ∃ z : Nat → Int32, z = (fun _ => 0) := ⟨_, rfl⟩
  rw [← ef_2] at h_z
  refine lv_dup hx hb dL_law_14 rfl ?_
  refine lv_iconst (v := nI 0) hx hb dL_law_15 (by decide) ?_
  refine lv_bipush (v := nI 12) hx hb dL_law_16 (by decide) ?_
  refine w_iast hx hb hK 0 h_z rfl (show s.heap.size ≤ _ by omega) hS (by omega) (by omega) dL_law_18 (fun H1 locs h_z z1 oq hS => ?_)
  have hG := hG.put hinj hadz (by omega) oq
  obtain ⟨f_3, ef_3⟩ : ∃ z, z = upd f_2 0 (nI 12) := ⟨_, rfl⟩
  rw [← ef_3] at h_z
  refine lv_dup hx hb dL_law_19 rfl ?_
  refine lv_iconst (v := nI 1) hx hb dL_law_20 (by decide) ?_
  refine lv_iconst (v := nI 4) hx hb dL_law_21 (by decide) ?_
  refine w_iast hx hb hK 0 h_z rfl (show s.heap.size ≤ _ by omega) hS (by omega) (by omega) dL_law_22 (fun H1 locs h_z z1 oq hS => ?_)
  have hG := hG.put hinj hadz (by omega) oq
  obtain ⟨f_4, ef_4⟩ : ∃ z, z = upd f_3 1 (nI 4) := ⟨_, rfl⟩
  rw [← ef_4] at h_z
  refine lv_dup hx hb dL_law_23 rfl ?_
  refine lv_iconst (v := nI 2) hx hb dL_law_24 (by decide) ?_
  refine lv_iconst (v := nI 3) hx hb dL_law_25 (by decide) ?_
  refine w_iast hx hb hK 0 h_z rfl (show s.heap.size ≤ _ by omega) hS (by omega) (by omega) dL_law_26 (fun H1 locs h_z z1 oq hS => ?_)
  have hG := hG.put hinj hadz (by omega) oq
  obtain ⟨f_5, ef_5⟩ : ∃ z, z = upd f_4 2 (nI 3) := ⟨_, rfl⟩
  rw [← ef_5] at h_z
  refine lv_dup hx hb dL_law_27 rfl ?_
  refine lv_iconst (v := nI 3) hx hb dL_law_28 (by decide) ?_
  refine lv_iconst (v := nI 1) hx hb dL_law_29 (by decide) ?_
  refine w_iast hx hb hK 0 h_z rfl (show s.heap.size ≤ _ by omega) hS (by omega) (by omega) dL_law_30 (fun H1 locs h_z z1 oq hS => ?_)
  have hG := hG.put hinj hadz (by omega) oq
  obtain ⟨f_6, ef_6⟩ : ∃ z, z = upd f_5 3 (nI 1) := ⟨_, rfl⟩
  rw [← ef_6] at h_z
  have hsz : ∀ k, k < 4 → f_6 k = nI (kz k) := by intro k hk; rw [ef_6, ef_5, ef_4, ef_3, ef_2]; exact size_ok k hk
  refine lv_astore_n (lv' := [(3, .ref z), (2, .int (nI n)), (1, .ref (ad 0)), (0, .ref b)]) hx hb dL_law_31 rfl hl (by decide) rfl (fun ls hl => ?_)
  exact kk32 z f_6 _ _ _ _ _ (by omega) (by omega) hadz hzA hsz hG h_z hS (lv_sub hl [3, 2, 1, 0] rfl)
