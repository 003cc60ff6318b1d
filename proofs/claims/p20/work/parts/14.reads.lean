set_option maxHeartbeats 4000000 in
set_option maxRecDepth 100000 in
/-- cell -/
theorem c_X0_cell (l : Launch) (hst : l.stackTraces = false) (D : va_G) (cI cZ cO : ClassId) (ad : Nat → Nat) (n np nq : Nat) (F : Nat → Nat → Int32) (s0 x0 y0 : Int32) (hn : n ≤ 10) : vx_Met l yX0_cell wsX0_cell ({ frames := 7, cells := 2, slots := 12, locals := 103 } : Room) (va_Pc [.ref (ad 0), .int s0, .int x0, .int y0] (Pr D (gT cI cZ cO) (wG cI cZ cO ad n np nq F) (EnvG (fun _ => False)))) (va_Qi (S := Unit) (fun (r : Int32) (_ : Unit) => spCell n F s0 x0 y0 = (0, r)) (fun _ _ => True) (fun _ => False)) (vx_X (S := Unit) (fun _ => True) (fun E (_ : Unit) (_ : State) => E = nX ∧ spCell n F s0 x0 y0 = (1, 0)) (fun _ => False)) 2 12 (fun _ => False) := by
  refine vx_ofW (cc := cX0_cell) (maxL := 4) (ret := (some .int)) (by decide) rfl ?_
  intro p e s m args below meth c s₁ B hml htab hv
  obtain ⟨hargs, hP, hK, hV⟩ := hv
  have hx := B.exec
  have hb := B.bytes
  have hr := B.returns
  have hts := atoms_spec (ws := wsX0_cell) B.pre
  have hown : s.vm.findClass RX0 = some m.cls := findClass_of_methodNamed B.named
  have hlocks := B.notSynchronized
  have hS : va_S (fun _ => False) s.heap s.heap [] := va_S.rf
  have hV0 : EnvG (fun _ => False) s := EnvG.nar hV sub_no
  have hiw : ∀ w ∈ wsX00, w ∈ wsX0_cell := (fun _ h => List.mem_cons_of_mem _ (List.mem_append_left _ (List.mem_append_right _ h)))
  have hRf : 7 ≤ (headSpec wsX0_cell ({ frames := 7, cells := 2, slots := 12, locals := 103 } : Room)).room.frames := Nat.le_refl _
  have hRl : 103 ≤ (headSpec wsX0_cell ({ frames := 7, cells := 2, slots := 12, locals := 103 } : Room)).room.locals := Nat.le_refl _
  have hRc : 2 ≤ (headSpec wsX0_cell ({ frames := 7, cells := 2, slots := 12, locals := 103 } : Room)).room.cells := Nat.le_refl _
  have hRs : 12 ≤ (headSpec wsX0_cell ({ frames := 7, cells := 2, slots := 12, locals := 103 } : Room)).room.slots := Nat.le_refl _
  generalize (headSpec wsX0_cell ({ frames := 7, cells := 2, slots := 12, locals := 103 } : Room)).room = R at hRf hRl hRc hRs ⊢
  have hl := lv_entry [.ref (ad 0), .int s0, .int x0, .int y0] (n := 4) (Nat.le_of_ble_eq_true rfl)
  refine W.eq (show entryFrame m args 4 = _ from by rw [hargs, lg_entry_eq]) ?_
  generalize (lg_sl [.ref (ad 0), .int s0, .int x0, .int y0] ++ List.replicate (4 - (lg_sl [.ref (ad 0), .int s0, .int x0, .int y0]).length) Slot.unset).toArray = ls at hl ⊢
  have hl : lv_has ls 4 [(0, .ref (ad 0)), (1, .int s0), (2, .int x0), (3, .int y0)] := hl
  generalize hQ : vx_MQ _ _ _ _ _ _ _ _ = Q
  refine lv_aload_n hx hb dX0_cell_0 rfl (lv_at hl 0 rfl) ?_
  refine lv_iload_n hx hb dX0_cell_1 rfl (lv_at hl 1 rfl) ?_
  refine vx_callv (vx_runV (As := [.int s0]) (rest := []) ⟨hx, hb, hml, hown, hts⟩ (c_X0_needSkin l hst D cI cZ cO ad n np nq F s0 hn) (cwV 1 hts gX0_cell_X0_needSkin rfl rfl rfl (by decide +kernel) ⟨Nat.le_trans (Nat.le_of_ble_eq_true rfl) hRf, Nat.le_trans (Nat.le_of_ble_eq_true rfl) hRl⟩) (pr_V hP (ci := 0) (q0 := 0) rfl g_at0 rfl hP hK [0, 1, 2] rfl (hV0.at hS sub_id sub_id) EnvG_c) rfl rfl hl.1 rfl (lv_room (Nat.le_of_ble_eq_true rfl)) dX0_cell_2 ⟨Nat.le_trans (Nat.le_of_ble_eq_true rfl) hRc, Nat.le_trans (Nat.le_of_ble_eq_true rfl) hRs⟩) hS (fun _ _ h => h.elim) (fun _ h => h.elim) (fun _ _ h => h.elim) (fun E ce q9 _ t H1 locs ht hvm hpx hbx _ hk hS hce hcv hcl => ?_) (fun _ t H1 locs ht hvm hw_1 hB hz hk hS => ?_)
  · rw [← hQ]
    exact vx_out (fun x hx9 => (htab x hx9).elim) hlocks hce hcv hcl (fun t ht hal => ⟨(), trivial, ⟨hbx.1, by unfold spCell; rw [hbx.2]; rfl⟩, hS.F ht⟩) (fun z hz => (hS.2.2 z hz).elim) (by omega) (by omega)
  have hP := P_kept hP hk
  obtain ⟨j, hj, rfl⟩ := inR_t (by omega) hw_1
  refine lv_iload_n hx hb dX0_cell_5 rfl (lv_at hl 2 rfl) ?_
  refine lv_iload_n hx hb dX0_cell_6 rfl (lv_at hl 3 rfl) ?_
  refine vx_callv (vx_runS (As := [.int x0, .int y0]) (rest := []) ⟨hx, hb, hml, hown, hts⟩ (c_X0_needCell l hst D x0 y0 ) (va_cwS 2 hts gX0_cell_X0_needCell rfl rfl rfl (by decide +kernel) ⟨Nat.le_trans (Nat.le_of_ble_eq_true rfl) hRf, Nat.le_trans (Nat.le_of_ble_eq_true rfl) hRl⟩) (pr_S (P_nil) hK [] rfl (hV0.at hS sub_id sub_id) EnvG_c) rfl rfl hl.1 rfl (lv_room (Nat.le_of_ble_eq_true rfl)) dX0_cell_7 ⟨Nat.le_trans (Nat.le_of_ble_eq_true rfl) hRc, Nat.le_trans (Nat.le_of_ble_eq_true rfl) hRs⟩) hS (fun _ _ h => h.elim) (fun _ h => h.elim) (fun _ _ h => h.elim) (fun E ce q9 _ t H1 locs ht hvm hpx hbx _ hk hS hce hcv hcl => ?_) (fun _ t H1 locs ht hvm hw_2 hB hz hk hS => ?_)
  · rw [← hQ]
    exact vx_out (fun x hx9 => (htab x hx9).elim) hlocks hce hcv hcl (fun t ht hal => ⟨(), trivial, ⟨hbx.1, by unfold spCell; rw [inR_in hj (by omega), hbx.2]; rfl⟩, hS.F ht⟩) (fun z hz => (hS.2.2 z hz).elim) (by omega) (by omega)
  have hP := P_kept hP hk
  obtain ⟨x9, hx9, rfl⟩ := inR_t (by omega) hw_2.1
  obtain ⟨y9, hy9, rfl⟩ := inR_t (by omega) hw_2.2
  refine lv_aload_n hx hb dX0_cell_10 rfl (lv_at hl 0 rfl) ?_
  refine va_get (D := D) (ci := 0) (v := .ref (ad 3)) (C := RX0) (T := TX0) (N := 16) hx hb hts hiw hown hK hP 0 g_at0 rfl 3 (by decide) (hts (.fieldLink RX0 18 "GloveCutters" "skinCells" "[[I") (by decide +kernel)) (fun _ h9 => h9) rfl dX0_cell_11 ?_
  refine lv_iload_n hx hb dX0_cell_14 rfl (lv_at hl 1 rfl) ?_
  refine nv_aald hx hb hK hP 3 2 g_at3 rfl (by omega) (by decide) (if_pos (by omega)) dX0_cell_15 ?_
  refine lv_bipush (v := nI 12) hx hb dX0_cell_16 (by decide) ?_
  refine lv_iload_n hx hb dX0_cell_18 rfl (lv_at hl 3 rfl) ?_
  refine nv_imul hx hb dX0_cell_19 ?_
  refine lv_iload_n hx hb dX0_cell_20 rfl (lv_at hl 2 rfl) ?_
  refine nv_iadd hx hb dX0_cell_21 ?_
  refine nv_iald hx hb hK hP (14 + j) 0 (g_atr (k := j) (by omega)) rfl (by omega) (by omega) dX0_cell_22 ?_
  rw [← hQ]
  refine vx_ret ?_
  exact W.iret (v := F (14 + j) ((12 * y9) + x9)) hx hb hr (fun t ht hW => ⟨⟨F (14 + j) ((12 * y9) + x9), (), rfl, (spCell_y hn hj hx9 hy9), trivial⟩, hS.F ht⟩) hS.2.2 dX0_cell_23
set_option maxHeartbeats 4000000 in
set_option maxRecDepth 100000 in
/-- skin -/
theorem c_X0_skin (l : Launch) (hst : l.stackTraces = false) (D : va_G) (cI cZ cO : ClassId) (ad : Nat → Nat) (n np nq : Nat) (F : Nat → Nat → Int32) (s0 w0 : Int32) (hn : n ≤ 10) : vx_Met l yX0_skin wsX0_skin ({ frames := 7, cells := 2, slots := 12, locals := 103 } : Room) (va_Pc [.ref (ad 0), .int s0, .int w0] (Pr D (gT cI cZ cO) (wG cI cZ cO ad n np nq F) (EnvG (fun _ => False)))) (va_Qi (S := Unit) (fun (r : Int32) (_ : Unit) => spSkin n F s0 w0 = (0, r)) (fun _ _ => True) (fun _ => False)) (vx_X (S := Unit) (fun _ => True) (fun E (_ : Unit) (_ : State) => E = nX ∧ spSkin n F s0 w0 = (1, 0)) (fun _ => False)) 2 12 (fun _ => False) := by
  refine vx_ofW (cc := cX0_skin) (maxL := 3) (ret := (some .int)) (by decide) rfl ?_
  intro p e s m args below meth c s₁ B hml htab hv
  obtain ⟨hargs, hP, hK, hV⟩ := hv
  have hx := B.exec
  have hb := B.bytes
  have hr := B.returns
  have hts := atoms_spec (ws := wsX0_skin) B.pre
  have hown : s.vm.findClass RX0 = some m.cls := findClass_of_methodNamed B.named
  have hlocks := B.notSynchronized
  have hS : va_S (fun _ => False) s.heap s.heap [] := va_S.rf
  have hV0 : EnvG (fun _ => False) s := EnvG.nar hV sub_no
  have hiw : ∀ w ∈ wsX00, w ∈ wsX0_skin := (fun _ h => List.mem_cons_of_mem _ (List.mem_append_left _ (List.mem_append_right _ h)))
  have hRf : 7 ≤ (headSpec wsX0_skin ({ frames := 7, cells := 2, slots := 12, locals := 103 } : Room)).room.frames := Nat.le_refl _
  have hRl : 103 ≤ (headSpec wsX0_skin ({ frames := 7, cells := 2, slots := 12, locals := 103 } : Room)).room.locals := Nat.le_refl _
  have hRc : 2 ≤ (headSpec wsX0_skin ({ frames := 7, cells := 2, slots := 12, locals := 103 } : Room)).room.cells := Nat.le_refl _
  have hRs : 12 ≤ (headSpec wsX0_skin ({ frames := 7, cells := 2, slots := 12, locals := 103 } : Room)).room.slots := Nat.le_refl _
  generalize (headSpec wsX0_skin ({ frames := 7, cells := 2, slots := 12, locals := 103 } : Room)).room = R at hRf hRl hRc hRs ⊢
  have hl := lv_entry [.ref (ad 0), .int s0, .int w0] (n := 3) (Nat.le_of_ble_eq_true rfl)
  refine W.eq (show entryFrame m args 3 = _ from by rw [hargs, lg_entry_eq]) ?_
  generalize (lg_sl [.ref (ad 0), .int s0, .int w0] ++ List.replicate (3 - (lg_sl [.ref (ad 0), .int s0, .int w0]).length) Slot.unset).toArray = ls at hl ⊢
  have hl : lv_has ls 3 [(0, .ref (ad 0)), (1, .int s0), (2, .int w0)] := hl
  generalize hQ : vx_MQ _ _ _ _ _ _ _ _ = Q
  refine lv_aload_n hx hb dX0_skin_0 rfl (lv_at hl 0 rfl) ?_
  refine lv_iload_n hx hb dX0_skin_1 rfl (lv_at hl 1 rfl) ?_
  refine vx_callv (vx_runV (As := [.int s0]) (rest := []) ⟨hx, hb, hml, hown, hts⟩ (c_X0_needSkin l hst D cI cZ cO ad n np nq F s0 hn) (cwV 1 hts gX0_skin_X0_needSkin rfl rfl rfl (by decide +kernel) ⟨Nat.le_trans (Nat.le_of_ble_eq_true rfl) hRf, Nat.le_trans (Nat.le_of_ble_eq_true rfl) hRl⟩) (pr_V hP (ci := 0) (q0 := 0) rfl g_at0 rfl hP hK [0, 1, 2] rfl (hV0.at hS sub_id sub_id) EnvG_c) rfl rfl hl.1 rfl (lv_room (Nat.le_of_ble_eq_true rfl)) dX0_skin_2 ⟨Nat.le_trans (Nat.le_of_ble_eq_true rfl) hRc, Nat.le_trans (Nat.le_of_ble_eq_true rfl) hRs⟩) hS (fun _ _ h => h.elim) (fun _ h => h.elim) (fun _ _ h => h.elim) (fun E ce q9 _ t H1 locs ht hvm hpx hbx _ hk hS hce hcv hcl => ?_) (fun _ t H1 locs ht hvm hw_1 hB hz hk hS => ?_)
  · rw [← hQ]
    exact vx_out (fun x hx9 => (htab x hx9).elim) hlocks hce hcv hcl (fun t ht hal => ⟨(), trivial, ⟨hbx.1, by unfold spSkin; rw [hbx.2]; rfl⟩, hS.F ht⟩) (fun z hz => (hS.2.2 z hz).elim) (by omega) (by omega)
  have hP := P_kept hP hk
  obtain ⟨j, hj, rfl⟩ := inR_t (by omega) hw_1
  refine lv_iload_n hx hb dX0_skin_5 rfl (lv_at hl 2 rfl) ?_
  refine lv_bipush (v := nI 6) hx hb dX0_skin_6 (by decide) ?_
  refine vx_callv (vx_runS (As := [.int w0, .int (nI 6)]) (rest := []) ⟨hx, hb, hml, hown, hts⟩ (c_X0_needWhat l hst D w0 6 ) (va_cwS 2 hts gX0_skin_X0_needWhat rfl rfl rfl (by decide +kernel) ⟨Nat.le_trans (Nat.le_of_ble_eq_true rfl) hRf, Nat.le_trans (Nat.le_of_ble_eq_true rfl) hRl⟩) (pr_S (P_nil) hK [] rfl (hV0.at hS sub_id sub_id) EnvG_c) rfl rfl hl.1 rfl (lv_room (Nat.le_of_ble_eq_true rfl)) dX0_skin_8 ⟨Nat.le_trans (Nat.le_of_ble_eq_true rfl) hRc, Nat.le_trans (Nat.le_of_ble_eq_true rfl) hRs⟩) hS (fun _ _ h => h.elim) (fun _ h => h.elim) (fun _ _ h => h.elim) (fun E ce q9 _ t H1 locs ht hvm hpx hbx _ hk hS hce hcv hcl => ?_) (fun _ t H1 locs ht hvm hw_2 hB hz hk hS => ?_)
  · rw [← hQ]
    exact vx_out (fun x hx9 => (htab x hx9).elim) hlocks hce hcv hcl (fun t ht hal => ⟨(), trivial, ⟨hbx.1, by unfold spSkin; rw [inR_in hj (by omega), hbx.2]; rfl⟩, hS.F ht⟩) (fun z hz => (hS.2.2 z hz).elim) (by omega) (by omega)
  have hP := P_kept hP hk
  obtain ⟨w9, hw9, rfl⟩ := inR_t (by omega) hw_2
  refine lv_aload_n hx hb dX0_skin_11 rfl (lv_at hl 0 rfl) ?_
  refine lv_iload_n hx hb dX0_skin_12 rfl (lv_at hl 1 rfl) ?_
  refine lv_iload_n hx hb dX0_skin_13 rfl (lv_at hl 2 rfl) ?_
  refine va_calli (va_runV (As := [.int (nI j), .int (nI w9)]) (rest := []) ⟨hx, hb, hml, hown, hts⟩ (c_X0_tellSkin l D cI cZ cO ad n np nq F j w9 (by omega) (by omega)) (cwV 2 hts gX0_skin_X0_tellSkin rfl rfl rfl (by decide +kernel) ⟨Nat.le_trans (Nat.le_of_ble_eq_true rfl) hRf, Nat.le_trans (Nat.le_of_ble_eq_true rfl) hRl⟩) (pr_V hP (ci := 0) (q0 := 0) rfl g_at0 rfl hP hK [0, 1, 2] rfl V0_at V0_c) rfl rfl hl.1 rfl (lv_room (Nat.le_of_ble_eq_true rfl)) dX0_skin_14 ⟨Nat.le_trans (Nat.le_of_ble_eq_true rfl) hRc, Nat.le_trans (Nat.le_of_ble_eq_true rfl) hRs⟩) hS (fun _ _ h => h.elim) (fun _ h => h.elim) (fun r_3 _ t H1 locs ht hvm hw_3 hB hz hk hS => ?_)
  have hP := P_kept hP hk
  obtain rfl := hw_3
  rw [← hQ]
  refine vx_ret ?_
  exact W.iret (v := skT F j w9) hx hb hr (fun t ht hW => ⟨⟨skT F j w9, (), rfl, (spSkin_y hn hj hw9), trivial⟩, hS.F ht⟩) hS.2.2 dX0_skin_17
set_option maxHeartbeats 4000000 in
set_option maxRecDepth 100000 in
/-- place -/
theorem c_X0_place (l : Launch) (hst : l.stackTraces = false) (D : va_G) (cI cZ cO : ClassId) (ad : Nat → Nat) (n np nq : Nat) (F : Nat → Nat → Int32) (s0 k0 : Int32) (tb : Bool) (hn : n ≤ 10) : vx_Met l yX0_place wsX0_place ({ frames := 7, cells := 2, slots := 12, locals := 103 } : Room) (va_Pc [.ref (ad 0), .int s0, .int k0, .int (bI tb)] (Pr D (gT cI cZ cO) (wG cI cZ cO ad n np nq F) (EnvG (fun _ => False)))) (va_Qi (S := Unit) (fun (r : Int32) (_ : Unit) => spPlace n F s0 k0 tb = (0, r)) (fun _ _ => True) (fun _ => False)) (vx_X (S := Unit) (fun _ => True) (fun E (_ : Unit) (_ : State) => (E = nX ∧ spPlace n F s0 k0 tb = (1, 0)) ∨ (E = nA ∧ spPlace n F s0 k0 tb = (2, 0))) (fun _ => False)) 2 12 (fun _ => False) := by
  refine vx_ofW (cc := cX0_place) (maxL := 4) (ret := (some .int)) (by decide) rfl ?_
  intro p e s m args below meth c s₁ B hml htab hv
  obtain ⟨hargs, hP, hK, hV⟩ := hv
  have hx := B.exec
  have hb := B.bytes
  have hr := B.returns
  have hts := atoms_spec (ws := wsX0_place) B.pre
  have hown : s.vm.findClass RX0 = some m.cls := findClass_of_methodNamed B.named
  have hlocks := B.notSynchronized
  have hS : va_S (fun _ => False) s.heap s.heap [] := va_S.rf
  have hV0 : EnvG (fun _ => False) s := EnvG.nar hV sub_no
  have hiw : ∀ w ∈ wsX00, w ∈ wsX0_place := (fun _ h => List.mem_cons_of_mem _ (List.mem_append_left _ (List.mem_append_left _ (List.mem_append_right _ h))))
  have hRf : 7 ≤ (headSpec wsX0_place ({ frames := 7, cells := 2, slots := 12, locals := 103 } : Room)).room.frames := Nat.le_refl _
  have hRl : 103 ≤ (headSpec wsX0_place ({ frames := 7, cells := 2, slots := 12, locals := 103 } : Room)).room.locals := Nat.le_refl _
  have hRc : 2 ≤ (headSpec wsX0_place ({ frames := 7, cells := 2, slots := 12, locals := 103 } : Room)).room.cells := Nat.le_refl _
  have hRs : 12 ≤ (headSpec wsX0_place ({ frames := 7, cells := 2, slots := 12, locals := 103 } : Room)).room.slots := Nat.le_refl _
  generalize (headSpec wsX0_place ({ frames := 7, cells := 2, slots := 12, locals := 103 } : Room)).room = R at hRf hRl hRc hRs ⊢
  have hl := lv_entry [.ref (ad 0), .int s0, .int k0, .int (bI tb)] (n := 4) (Nat.le_of_ble_eq_true rfl)
  refine W.eq (show entryFrame m args 4 = _ from by rw [hargs, lg_entry_eq]) ?_
  generalize (lg_sl [.ref (ad 0), .int s0, .int k0, .int (bI tb)] ++ List.replicate (4 - (lg_sl [.ref (ad 0), .int s0, .int k0, .int (bI tb)]).length) Slot.unset).toArray = ls at hl ⊢
  have hl : lv_has ls 4 [(0, .ref (ad 0)), (1, .int s0), (2, .int k0), (3, .int (bI tb))] := hl
  generalize hQ : vx_MQ _ _ _ _ _ _ _ _ = Q
  refine lv_aload_n hx hb dX0_place_0 rfl (lv_at hl 0 rfl) ?_
  refine lv_iload_n hx hb dX0_place_1 rfl (lv_at hl 1 rfl) ?_
  refine vx_callv (vx_runV (As := [.int s0]) (rest := []) ⟨hx, hb, hml, hown, hts⟩ (c_X0_needSkin l hst D cI cZ cO ad n np nq F s0 hn) (cwV 1 hts gX0_place_X0_needSkin rfl rfl rfl (by decide +kernel) ⟨Nat.le_trans (Nat.le_of_ble_eq_true rfl) hRf, Nat.le_trans (Nat.le_of_ble_eq_true rfl) hRl⟩) (pr_V hP (ci := 0) (q0 := 0) rfl g_at0 rfl hP hK [0, 1, 2] rfl (hV0.at hS sub_id sub_id) EnvG_c) rfl rfl hl.1 rfl (lv_room (Nat.le_of_ble_eq_true rfl)) dX0_place_2 ⟨Nat.le_trans (Nat.le_of_ble_eq_true rfl) hRc, Nat.le_trans (Nat.le_of_ble_eq_true rfl) hRs⟩) hS (fun _ _ h => h.elim) (fun _ h => h.elim) (fun _ _ h => h.elim) (fun E ce q9 _ t H1 locs ht hvm hpx hbx _ hk hS hce hcv hcl => ?_) (fun _ t H1 locs ht hvm hw_1 hB hz hk hS => ?_)
  · rw [← hQ]
    exact vx_out (fun x hx9 => (htab x hx9).elim) hlocks hce hcv hcl (fun t ht hal => ⟨(), trivial, Or.inl ⟨hbx.1, by unfold spPlace; rw [hbx.2]; rfl⟩, hS.F ht⟩) (fun z hz => (hS.2.2 z hz).elim) (by omega) (by omega)
  have hP := P_kept hP hk
  obtain ⟨j, hj, rfl⟩ := inR_t (by omega) hw_1
  refine lv_iload_n hx hb dX0_place_5 rfl (lv_at hl 2 rfl) ?_
  refine vx_callv (vx_runS (As := [.int k0]) (rest := []) ⟨hx, hb, hml, hown, hts⟩ (c_X0_needKind l hst D k0 ) (va_cwS 1 hts gX0_place_X0_needKind rfl rfl rfl (by decide +kernel) ⟨Nat.le_trans (Nat.le_of_ble_eq_true rfl) hRf, Nat.le_trans (Nat.le_of_ble_eq_true rfl) hRl⟩) (pr_S (P_nil) hK [] rfl (hV0.at hS sub_id sub_id) EnvG_c) rfl rfl hl.1 rfl (lv_room (Nat.le_of_ble_eq_true rfl)) dX0_place_6 ⟨Nat.le_trans (Nat.le_of_ble_eq_true rfl) hRc, Nat.le_trans (Nat.le_of_ble_eq_true rfl) hRs⟩) hS (fun _ _ h => h.elim) (fun _ h => h.elim) (fun _ _ h => h.elim) (fun E ce q9 _ t H1 locs ht hvm hpx hbx _ hk hS hce hcv hcl => ?_) (fun _ t H1 locs ht hvm hw_2 hB hz hk hS => ?_)
  · rw [← hQ]
    exact vx_out (fun x hx9 => (htab x hx9).elim) hlocks hce hcv hcl (fun t ht hal => ⟨(), trivial, Or.inr ⟨hbx.1, by unfold spPlace; rw [inR_in hj (by omega), hbx.2]; rfl⟩, hS.F ht⟩) (fun z hz => (hS.2.2 z hz).elim) (by omega) (by omega)
  have hP := P_kept hP hk
  obtain ⟨k9, hk9, rfl⟩ := inR_t (by omega) hw_2
  refine lv_aload_n hx hb dX0_place_9 rfl (lv_at hl 0 rfl) ?_
  refine va_get (D := D) (ci := 0) (v := .ref (ad 3)) (C := RX0) (T := TX0) (N := 16) hx hb hts hiw hown hK hP 0 g_at0 rfl 3 (by decide) (hts (.fieldLink RX0 18 "GloveCutters" "skinCells" "[[I") (by decide +kernel)) (fun _ h9 => h9) rfl dX0_place_10 ?_
  refine lv_iload_n hx hb dX0_place_13 rfl (lv_at hl 1 rfl) ?_
  refine nv_aald hx hb hK hP 3 2 g_at3 rfl (by omega) (by decide) (if_pos (by omega)) dX0_place_14 ?_
  refine lv_iload_n hx hb dX0_place_15 rfl (lv_at hl 2 rfl) ?_
  refine lv_iload_n hx hb dX0_place_16 rfl (lv_at hl 3 rfl) ?_
  refine lv_iconst (v := nI 0) hx hb dX0_place_17 (by decide) ?_
  refine va_calli (va_runS (As := [.ref (ad (14 + j)), .int (nI k9), .int (bI tb), .int (nI 0)]) (rest := []) ⟨hx, hb, hml, hown, hts⟩ (c_X0_firstFit l D cI (ad (14 + j)) 96 (F (14 + j)) k9 tb 0 (by omega) (by omega) (by omega)) (va_cwS 4 hts gX0_place_X0_firstFit rfl rfl rfl (by decide +kernel) ⟨Nat.le_trans (Nat.le_of_ble_eq_true rfl) hRf, Nat.le_trans (Nat.le_of_ble_eq_true rfl) hRl⟩) (pr_S (P_pick hP (k := (14 + j)) (g_atr (k := j) (by omega))) hK [0] rfl (hV0.at hS sub_id sub_id) EnvG_c) rfl rfl hl.1 rfl (lv_room (Nat.le_of_ble_eq_true rfl)) dX0_place_18 ⟨Nat.le_trans (Nat.le_of_ble_eq_true rfl) hRc, Nat.le_trans (Nat.le_of_ble_eq_true rfl) hRs⟩) hS (fun _ _ h => h.elim) (fun _ h => h.elim) (fun r_3 _ t H1 locs ht hvm hw_3 hB hz hk hS => ?_)
  have hP := P_kept hP hk
  obtain rfl := hw_3
  rw [← hQ]
  refine vx_ret ?_
  exact W.iret (v := fI (fitA (F (14 + j)) k9 tb) 0 (96 - 0)) hx hb hr (fun t ht hW => ⟨⟨fI (fitA (F (14 + j)) k9 tb) 0 (96 - 0), (), rfl, (spPlace_y hn hj hk9), trivial⟩, hS.F ht⟩) hS.2.2 dX0_place_21
set_option maxHeartbeats 4000000 in
set_option maxRecDepth 100000 in
/-- piece -/
theorem c_X0_piece (l : Launch) (hst : l.stackTraces = false) (D : va_G) (cI cZ cO : ClassId) (ad : Nat → Nat) (n np nq : Nat) (F : Nat → Nat → Int32) (p0 w0 : Int32) (hnp : np ≤ 150) : vx_Met l yX0_piece wsX0_piece ({ frames := 7, cells := 2, slots := 12, locals := 103 } : Room) (va_Pc [.ref (ad 0), .int p0, .int w0] (Pr D (gT cI cZ cO) (wG cI cZ cO ad n np nq F) (EnvG (fun _ => False)))) (va_Qi (S := Unit) (fun (r : Int32) (_ : Unit) => spPiece np F p0 w0 = (0, r)) (fun _ _ => True) (fun _ => False)) (vx_X (S := Unit) (fun _ => True) (fun E (_ : Unit) (_ : State) => E = nX ∧ spPiece np F p0 w0 = (1, 0)) (fun _ => False)) 2 12 (fun _ => False) := by
  refine vx_ofW (cc := cX0_piece) (maxL := 3) (ret := (some .int)) (by decide) rfl ?_
  intro p e s m args below meth c s₁ B hml htab hv
  obtain ⟨hargs, hP, hK, hV⟩ := hv
  have hx := B.exec
  have hb := B.bytes
  have hr := B.returns
  have hts := atoms_spec (ws := wsX0_piece) B.pre
  have hown : s.vm.findClass RX0 = some m.cls := findClass_of_methodNamed B.named
  have hlocks := B.notSynchronized
  have hS : va_S (fun _ => False) s.heap s.heap [] := va_S.rf
  have hV0 : EnvG (fun _ => False) s := EnvG.nar hV sub_no
  have hiw : ∀ w ∈ wsX00, w ∈ wsX0_piece := (fun _ h => List.mem_cons_of_mem _ (List.mem_append_left _ (List.mem_append_right _ h)))
  have hRf : 7 ≤ (headSpec wsX0_piece ({ frames := 7, cells := 2, slots := 12, locals := 103 } : Room)).room.frames := Nat.le_refl _
  have hRl : 103 ≤ (headSpec wsX0_piece ({ frames := 7, cells := 2, slots := 12, locals := 103 } : Room)).room.locals := Nat.le_refl _
  have hRc : 2 ≤ (headSpec wsX0_piece ({ frames := 7, cells := 2, slots := 12, locals := 103 } : Room)).room.cells := Nat.le_refl _
  have hRs : 12 ≤ (headSpec wsX0_piece ({ frames := 7, cells := 2, slots := 12, locals := 103 } : Room)).room.slots := Nat.le_refl _
  generalize (headSpec wsX0_piece ({ frames := 7, cells := 2, slots := 12, locals := 103 } : Room)).room = R at hRf hRl hRc hRs ⊢
  have hl := lv_entry [.ref (ad 0), .int p0, .int w0] (n := 3) (Nat.le_of_ble_eq_true rfl)
  refine W.eq (show entryFrame m args 3 = _ from by rw [hargs, lg_entry_eq]) ?_
  generalize (lg_sl [.ref (ad 0), .int p0, .int w0] ++ List.replicate (3 - (lg_sl [.ref (ad 0), .int p0, .int w0]).length) Slot.unset).toArray = ls at hl ⊢
  have hl : lv_has ls 3 [(0, .ref (ad 0)), (1, .int p0), (2, .int w0)] := hl
  generalize hQ : vx_MQ _ _ _ _ _ _ _ _ = Q
  refine lv_iload_n hx hb dX0_piece_0 rfl (lv_at hl 1 rfl) ?_
  refine lv_if_lt (tgt := 12) hx hb dX0_piece_1 (by decide) (fun c_1 => ?_) (fun c_1 => ?_)
  · obtain ⟨sa9, hsa9⟩ := hV0.2.2.2.2.2.1.2.2.2.2.2.2.2.2.2.2.2.1
    rw [← hQ]
    exact vx_throwS (names := ["java/lang/RuntimeException", "java/lang/Exception"]) hx hb hst hown (by decide +kernel) (by decide +kernel) (hts (.classLink RX0 123 "java/lang/IndexOutOfBoundsException") (by decide +kernel)) (hts (.initialized "java/lang/IndexOutOfBoundsException") (by decide +kernel)) hsa9 (at_X (fun w h9 => hts w ((fun _ h => List.mem_cons_of_mem _ (List.mem_append_right _ h)) w h9)) hV0.2.2.2.2.2.2) gd_X hV0.2.2.2.2.1.1 hV0.2.2.2.2.1.2 hS (hl.1.trans hml.symm) dX0_piece_12 dX0_piece_15 dX0_piece_16 dX0_piece_18 dX0_piece_21 (fun x hx9 => (htab x hx9).elim) (Nat.lt_of_lt_of_le (Nat.le_of_ble_eq_true rfl) hRf) (Nat.le_trans (Nat.le_of_ble_eq_true rfl) hRl) (Nat.le_trans (Nat.le_of_ble_eq_true rfl) hRc) (Nat.le_trans (Nat.le_of_ble_eq_true rfl) hRs) hlocks (fun t9 _ hs9 hq9 => x_thr hS trivial ⟨rfl, by unfold spPiece; rw [inR_lo c_1]; rfl⟩ hs9 hq9) (fun z hz => (hS.2.2 z hz).elim) (by omega) (by omega)
  · refine lv_iload_n hx hb dX0_piece_4 rfl (lv_at hl 1 rfl) ?_
    refine lv_aload_n hx hb dX0_piece_5 rfl (lv_at hl 0 rfl) ?_
    refine va_get (D := D) (ci := 0) (v := .int (nI np)) (C := RX0) (T := TX0) (N := 16) hx hb hts hiw hown hK hP 0 g_at0 rfl 4 (by decide) (hts (.fieldLink RX0 107 "GloveCutters" "pieces" "I") (by decide +kernel)) (fun _ h9 => h9) rfl dX0_piece_6 ?_
    refine lv_icmp_lt (tgt := 22) hx hb dX0_piece_9 (by decide) (fun c_2 => ?_) (fun c_2 => ?_)
    · obtain ⟨j, hj, rfl⟩ := inR_t (by omega) (inR_y c_1 c_2)
      refine lv_iload_n hx hb dX0_piece_22 rfl (lv_at hl 2 rfl) ?_
      refine lv_iconst (v := nI 4) hx hb dX0_piece_23 (by decide) ?_
      refine vx_callv (vx_runS (As := [.int w0, .int (nI 4)]) (rest := []) ⟨hx, hb, hml, hown, hts⟩ (c_X0_needWhat l hst D w0 4 ) (va_cwS 2 hts gX0_piece_X0_needWhat rfl rfl rfl (by decide +kernel) ⟨Nat.le_trans (Nat.le_of_ble_eq_true rfl) hRf, Nat.le_trans (Nat.le_of_ble_eq_true rfl) hRl⟩) (pr_S (P_nil) hK [] rfl (hV0.at hS sub_id sub_id) EnvG_c) rfl rfl hl.1 rfl (lv_room (Nat.le_of_ble_eq_true rfl)) dX0_piece_24 ⟨Nat.le_trans (Nat.le_of_ble_eq_true rfl) hRc, Nat.le_trans (Nat.le_of_ble_eq_true rfl) hRs⟩) hS (fun _ _ h => h.elim) (fun _ h => h.elim) (fun _ _ h => h.elim) (fun E ce q9 _ t H1 locs ht hvm hpx hbx _ hk hS hce hcv hcl => ?_) (fun _ t H1 locs ht hvm hw_3 hB hz hk hS => ?_)
      · rw [← hQ]
        exact vx_out (fun x hx9 => (htab x hx9).elim) hlocks hce hcv hcl (fun t ht hal => ⟨(), trivial, ⟨hbx.1, by unfold spPiece; rw [inR_in hj (by omega), hbx.2]; rfl⟩, hS.F ht⟩) (fun z hz => (hS.2.2 z hz).elim) (by omega) (by omega)
      have hP := P_kept hP hk
      obtain ⟨w9, hw9, rfl⟩ := inR_t (by omega) hw_3
      refine lv_aload_n hx hb dX0_piece_27 rfl (lv_at hl 0 rfl) ?_
      refine lv_iload_n hx hb dX0_piece_28 rfl (lv_at hl 1 rfl) ?_
      refine lv_iload_n hx hb dX0_piece_29 rfl (lv_at hl 2 rfl) ?_
      refine va_calli (va_runV (As := [.int (nI j), .int (nI w9)]) (rest := []) ⟨hx, hb, hml, hown, hts⟩ (c_X0_tellPiece l D cI cZ cO ad n np nq F j w9 (by omega) hnp (by omega)) (cwV 2 hts gX0_piece_X0_tellPiece rfl rfl rfl (by decide +kernel) ⟨Nat.le_trans (Nat.le_of_ble_eq_true rfl) hRf, Nat.le_trans (Nat.le_of_ble_eq_true rfl) hRl⟩) (pr_V hP (ci := 0) (q0 := 0) rfl g_at0 rfl hP hK [0, 1, 2] rfl V0_at V0_c) rfl rfl hl.1 rfl (lv_room (Nat.le_of_ble_eq_true rfl)) dX0_piece_30 ⟨Nat.le_trans (Nat.le_of_ble_eq_true rfl) hRc, Nat.le_trans (Nat.le_of_ble_eq_true rfl) hRs⟩) hS (fun _ _ h => h.elim) (fun _ h => h.elim) (fun r_4 _ t H1 locs ht hvm hw_4 hB hz hk hS => ?_)
      have hP := P_kept hP hk
      obtain rfl := hw_4
      rw [← hQ]
      refine vx_ret ?_
      refine W.widen (k := 2) (n := 12) (by omega) (by omega) ?_
      exact W.iret (v := pcT F j w9) hx hb hr (fun t ht hW => ⟨⟨pcT F j w9, (), rfl, (spPiece_y hnp hj hw9), trivial⟩, hS.F ht⟩) hS.2.2 dX0_piece_33
    · obtain ⟨sa9, hsa9⟩ := hV0.2.2.2.2.2.1.2.2.2.2.2.2.2.2.2.2.2.1
      rw [← hQ]
      exact vx_throwS (names := ["java/lang/RuntimeException", "java/lang/Exception"]) hx hb hst hown (by decide +kernel) (by decide +kernel) (hts (.classLink RX0 123 "java/lang/IndexOutOfBoundsException") (by decide +kernel)) (hts (.initialized "java/lang/IndexOutOfBoundsException") (by decide +kernel)) hsa9 (at_X (fun w h9 => hts w ((fun _ h => List.mem_cons_of_mem _ (List.mem_append_right _ h)) w h9)) hV0.2.2.2.2.2.2) gd_X hV0.2.2.2.2.1.1 hV0.2.2.2.2.1.2 hS (hl.1.trans hml.symm) dX0_piece_12 dX0_piece_15 dX0_piece_16 dX0_piece_18 dX0_piece_21 (fun x hx9 => (htab x hx9).elim) (Nat.lt_of_lt_of_le (Nat.le_of_ble_eq_true rfl) hRf) (Nat.le_trans (Nat.le_of_ble_eq_true rfl) hRl) (Nat.le_trans (Nat.le_of_ble_eq_true rfl) hRc) (Nat.le_trans (Nat.le_of_ble_eq_true rfl) hRs) hlocks (fun t9 _ hs9 hq9 => x_thr hS trivial ⟨rfl, by unfold spPiece; rw [inR_hi c_2]; rfl⟩ hs9 hq9) (fun z hz => (hS.2.2 z hz).elim) (by omega) (by omega)
set_option maxHeartbeats 4000000 in
set_option maxRecDepth 100000 in
/-- pair -/
theorem c_X0_pair (l : Launch) (hst : l.stackTraces = false) (D : va_G) (cI cZ cO : ClassId) (ad : Nat → Nat) (n np nq : Nat) (F : Nat → Nat → Int32) (p0 w0 : Int32) (hnq : nq ≤ 20) (hrip : ∀ q, q < nq → F 12 q = 0 ∨ F 12 q = 1) : vx_Met l yX0_pair wsX0_pair ({ frames := 7, cells := 2, slots := 12, locals := 103 } : Room) (va_Pc [.ref (ad 0), .int p0, .int w0] (Pr D (gT cI cZ cO) (wG cI cZ cO ad n np nq F) (EnvG (fun _ => False)))) (va_Qi (S := Unit) (fun (r : Int32) (_ : Unit) => spPair nq F p0 w0 = (0, r)) (fun _ _ => True) (fun _ => False)) (vx_X (S := Unit) (fun _ => True) (fun E (_ : Unit) (_ : State) => E = nX ∧ spPair nq F p0 w0 = (1, 0)) (fun _ => False)) 2 12 (fun _ => False) := by
  refine vx_ofW (cc := cX0_pair) (maxL := 3) (ret := (some .int)) (by decide) rfl ?_
  intro p e s m args below meth c s₁ B hml htab hv
  obtain ⟨hargs, hP, hK, hV⟩ := hv
  have hx := B.exec
  have hb := B.bytes
  have hr := B.returns
  have hts := atoms_spec (ws := wsX0_pair) B.pre
  have hown : s.vm.findClass RX0 = some m.cls := findClass_of_methodNamed B.named
  have hlocks := B.notSynchronized
  have hS : va_S (fun _ => False) s.heap s.heap [] := va_S.rf
  have hV0 : EnvG (fun _ => False) s := EnvG.nar hV sub_no
  have hiw : ∀ w ∈ wsX00, w ∈ wsX0_pair := (fun _ h => List.mem_cons_of_mem _ (List.mem_append_left _ (List.mem_append_right _ h)))
  have hRf : 7 ≤ (headSpec wsX0_pair ({ frames := 7, cells := 2, slots := 12, locals := 103 } : Room)).room.frames := Nat.le_refl _
  have hRl : 103 ≤ (headSpec wsX0_pair ({ frames := 7, cells := 2, slots := 12, locals := 103 } : Room)).room.locals := Nat.le_refl _
  have hRc : 2 ≤ (headSpec wsX0_pair ({ frames := 7, cells := 2, slots := 12, locals := 103 } : Room)).room.cells := Nat.le_refl _
  have hRs : 12 ≤ (headSpec wsX0_pair ({ frames := 7, cells := 2, slots := 12, locals := 103 } : Room)).room.slots := Nat.le_refl _
  generalize (headSpec wsX0_pair ({ frames := 7, cells := 2, slots := 12, locals := 103 } : Room)).room = R at hRf hRl hRc hRs ⊢
  have hl := lv_entry [.ref (ad 0), .int p0, .int w0] (n := 3) (Nat.le_of_ble_eq_true rfl)
  refine W.eq (show entryFrame m args 3 = _ from by rw [hargs, lg_entry_eq]) ?_
  generalize (lg_sl [.ref (ad 0), .int p0, .int w0] ++ List.replicate (3 - (lg_sl [.ref (ad 0), .int p0, .int w0]).length) Slot.unset).toArray = ls at hl ⊢
  have hl : lv_has ls 3 [(0, .ref (ad 0)), (1, .int p0), (2, .int w0)] := hl
  generalize hQ : vx_MQ _ _ _ _ _ _ _ _ = Q
  refine lv_aload_n hx hb dX0_pair_0 rfl (lv_at hl 0 rfl) ?_
  refine lv_iload_n hx hb dX0_pair_1 rfl (lv_at hl 1 rfl) ?_
  refine vx_callv (vx_runV (As := [.int p0]) (rest := []) ⟨hx, hb, hml, hown, hts⟩ (c_X0_needPair l hst D cI cZ cO ad n np nq F p0 (by omega)) (cwV 1 hts gX0_pair_X0_needPair rfl rfl rfl (by decide +kernel) ⟨Nat.le_trans (Nat.le_of_ble_eq_true rfl) hRf, Nat.le_trans (Nat.le_of_ble_eq_true rfl) hRl⟩) (pr_V hP (ci := 0) (q0 := 0) rfl g_at0 rfl hP hK [0, 1, 2] rfl (hV0.at hS sub_id sub_id) EnvG_c) rfl rfl hl.1 rfl (lv_room (Nat.le_of_ble_eq_true rfl)) dX0_pair_2 ⟨Nat.le_trans (Nat.le_of_ble_eq_true rfl) hRc, Nat.le_trans (Nat.le_of_ble_eq_true rfl) hRs⟩) hS (fun _ _ h => h.elim) (fun _ h => h.elim) (fun _ _ h => h.elim) (fun E ce q9 _ t H1 locs ht hvm hpx hbx _ hk hS hce hcv hcl => ?_) (fun _ t H1 locs ht hvm hw_1 hB hz hk hS => ?_)
  · rw [← hQ]
    exact vx_out (fun x hx9 => (htab x hx9).elim) hlocks hce hcv hcl (fun t ht hal => ⟨(), trivial, ⟨hbx.1, by unfold spPair; rw [hbx.2]; rfl⟩, hS.F ht⟩) (fun z hz => (hS.2.2 z hz).elim) (by omega) (by omega)
  have hP := P_kept hP hk
  obtain ⟨j, hj, rfl⟩ := inR_t (by omega) hw_1
  refine lv_iload_n hx hb dX0_pair_5 rfl (lv_at hl 2 rfl) ?_
  refine lv_iconst (v := nI 5) hx hb dX0_pair_6 (by decide) ?_
  refine vx_callv (vx_runS (As := [.int w0, .int (nI 5)]) (rest := []) ⟨hx, hb, hml, hown, hts⟩ (c_X0_needWhat l hst D w0 5 ) (va_cwS 2 hts gX0_pair_X0_needWhat rfl rfl rfl (by decide +kernel) ⟨Nat.le_trans (Nat.le_of_ble_eq_true rfl) hRf, Nat.le_trans (Nat.le_of_ble_eq_true rfl) hRl⟩) (pr_S (P_nil) hK [] rfl (hV0.at hS sub_id sub_id) EnvG_c) rfl rfl hl.1 rfl (lv_room (Nat.le_of_ble_eq_true rfl)) dX0_pair_7 ⟨Nat.le_trans (Nat.le_of_ble_eq_true rfl) hRc, Nat.le_trans (Nat.le_of_ble_eq_true rfl) hRs⟩) hS (fun _ _ h => h.elim) (fun _ h => h.elim) (fun _ _ h => h.elim) (fun E ce q9 _ t H1 locs ht hvm hpx hbx _ hk hS hce hcv hcl => ?_) (fun _ t H1 locs ht hvm hw_2 hB hz hk hS => ?_)
  · rw [← hQ]
    exact vx_out (fun x hx9 => (htab x hx9).elim) hlocks hce hcv hcl (fun t ht hal => ⟨(), trivial, ⟨hbx.1, by unfold spPair; rw [inR_in hj (by omega), hbx.2]; rfl⟩, hS.F ht⟩) (fun z hz => (hS.2.2 z hz).elim) (by omega) (by omega)
  have hP := P_kept hP hk
  obtain ⟨w9, hw9, rfl⟩ := inR_t (by omega) hw_2
  refine lv_aload_n hx hb dX0_pair_10 rfl (lv_at hl 0 rfl) ?_
  refine lv_iload_n hx hb dX0_pair_11 rfl (lv_at hl 1 rfl) ?_
  refine lv_iload_n hx hb dX0_pair_12 rfl (lv_at hl 2 rfl) ?_
  refine va_calli (va_runV (As := [.int (nI j), .int (nI w9)]) (rest := []) ⟨hx, hb, hml, hown, hts⟩ (c_X0_tellPair l D cI cZ cO ad n np nq F j w9 (by omega) hnq (by omega) hrip) (cwV 2 hts gX0_pair_X0_tellPair rfl rfl rfl (by decide +kernel) ⟨Nat.le_trans (Nat.le_of_ble_eq_true rfl) hRf, Nat.le_trans (Nat.le_of_ble_eq_true rfl) hRl⟩) (pr_V hP (ci := 0) (q0 := 0) rfl g_at0 rfl hP hK [0, 1, 2] rfl V0_at V0_c) rfl rfl hl.1 rfl (lv_room (Nat.le_of_ble_eq_true rfl)) dX0_pair_13 ⟨Nat.le_trans (Nat.le_of_ble_eq_true rfl) hRc, Nat.le_trans (Nat.le_of_ble_eq_true rfl) hRs⟩) hS (fun _ _ h => h.elim) (fun _ h => h.elim) (fun r_3 _ t H1 locs ht hvm hw_3 hB hz hk hS => ?_)
  have hP := P_kept hP hk
  obtain rfl := hw_3
  rw [← hQ]
  refine vx_ret ?_
  exact W.iret (v := prT F j w9) hx hb hr (fun t ht hW => ⟨⟨prT F j w9, (), rfl, (spPair_y hnq hj hw9), trivial⟩, hS.F ht⟩) hS.2.2 dX0_pair_16
set_option maxHeartbeats 4000000 in
set_option maxRecDepth 100000 in
/-- count -/
theorem c_X0_count (l : Launch) (hst : l.stackTraces = false) (D : va_G) (cI cZ cO : ClassId) (ad : Nat → Nat) (n np nq : Nat) (F : Nat → Nat → Int32) (w0 : Int32) (hnp : np ≤ 150) (hnq : nq ≤ 20) : vx_Met l yX0_count wsX0_count ({ frames := 7, cells := 1, slots := 6, locals := 103 } : Room) (va_Pc [.ref (ad 0), .int w0] (Pr D (gT cI cZ cO) (wG cI cZ cO ad n np nq F) (EnvG (fun _ => False)))) (va_Qi (S := Unit) (fun (r : Int32) (_ : Unit) => spCount n np nq F w0 = (0, r)) (fun _ _ => True) (fun _ => False)) (vx_X (S := Unit) (fun _ => True) (fun E (_ : Unit) (_ : State) => E = nX ∧ spCount n np nq F w0 = (1, 0)) (fun _ => False)) 1 6 (fun _ => False) := by
  refine vx_ofW (cc := cX0_count) (maxL := 2) (ret := (some .int)) (by decide) rfl ?_
  intro p e s m args below meth c s₁ B hml htab hv
  obtain ⟨hargs, hP, hK, hV⟩ := hv
  have hx := B.exec
  have hb := B.bytes
  have hr := B.returns
  have hts := atoms_spec (ws := wsX0_count) B.pre
  have hown : s.vm.findClass RX0 = some m.cls := findClass_of_methodNamed B.named
  have hlocks := B.notSynchronized
  have hS : va_S (fun _ => False) s.heap s.heap [] := va_S.rf
  have hV0 : EnvG (fun _ => False) s := EnvG.nar hV sub_no
  have hiw : ∀ w ∈ wsX00, w ∈ wsX0_count := (fun _ h => List.mem_cons_of_mem _ (List.mem_append_left _ (List.mem_append_right _ h)))
  have hRf : 7 ≤ (headSpec wsX0_count ({ frames := 7, cells := 1, slots := 6, locals := 103 } : Room)).room.frames := Nat.le_refl _
  have hRl : 103 ≤ (headSpec wsX0_count ({ frames := 7, cells := 1, slots := 6, locals := 103 } : Room)).room.locals := Nat.le_refl _
  have hRc : 1 ≤ (headSpec wsX0_count ({ frames := 7, cells := 1, slots := 6, locals := 103 } : Room)).room.cells := Nat.le_refl _
  have hRs : 6 ≤ (headSpec wsX0_count ({ frames := 7, cells := 1, slots := 6, locals := 103 } : Room)).room.slots := Nat.le_refl _
  generalize (headSpec wsX0_count ({ frames := 7, cells := 1, slots := 6, locals := 103 } : Room)).room = R at hRf hRl hRc hRs ⊢
  have hl := lv_entry [.ref (ad 0), .int w0] (n := 2) (Nat.le_of_ble_eq_true rfl)
  refine W.eq (show entryFrame m args 2 = _ from by rw [hargs, lg_entry_eq]) ?_
  generalize (lg_sl [.ref (ad 0), .int w0] ++ List.replicate (2 - (lg_sl [.ref (ad 0), .int w0]).length) Slot.unset).toArray = ls at hl ⊢
  have hl : lv_has ls 2 [(0, .ref (ad 0)), (1, .int w0)] := hl
  generalize hQ : vx_MQ _ _ _ _ _ _ _ _ = Q
  refine lv_iload_n hx hb dX0_count_0 rfl (lv_at hl 1 rfl) ?_
  refine lv_bipush (v := nI 7) hx hb dX0_count_1 (by decide) ?_
  refine vx_callv (vx_runS (As := [.int w0, .int (nI 7)]) (rest := []) ⟨hx, hb, hml, hown, hts⟩ (c_X0_needWhat l hst D w0 7 ) (va_cwS 2 hts gX0_count_X0_needWhat rfl rfl rfl (by decide +kernel) ⟨Nat.le_trans (Nat.le_of_ble_eq_true rfl) hRf, Nat.le_trans (Nat.le_of_ble_eq_true rfl) hRl⟩) (pr_S (P_nil) hK [] rfl (hV0.at hS sub_id sub_id) EnvG_c) rfl rfl hl.1 rfl (lv_room (Nat.le_of_ble_eq_true rfl)) dX0_count_3 ⟨Nat.le_trans (Nat.le_of_ble_eq_true rfl) hRc, Nat.le_trans (Nat.le_of_ble_eq_true rfl) hRs⟩) hS (fun _ _ h => h.elim) (fun _ h => h.elim) (fun _ _ h => h.elim) (fun E ce q9 _ t H1 locs ht hvm hpx hbx _ hk hS hce hcv hcl => ?_) (fun _ t H1 locs ht hvm hw_1 hB hz hk hS => ?_)
  · rw [← hQ]
    exact vx_out (fun x hx9 => (htab x hx9).elim) hlocks hce hcv hcl (fun t ht hal => ⟨(), trivial, ⟨hbx.1, by unfold spCount; rw [hbx.2]; rfl⟩, hS.F ht⟩) (fun z hz => (hS.2.2 z hz).elim) (by omega) (by omega)
  have hP := P_kept hP hk
  obtain ⟨w9, hw9, rfl⟩ := inR_t (by omega) hw_1
  refine lv_aload_n hx hb dX0_count_6 rfl (lv_at hl 0 rfl) ?_
  refine lv_iload_n hx hb dX0_count_7 rfl (lv_at hl 1 rfl) ?_
  refine va_calli (va_runV (As := [.int (nI w9)]) (rest := []) ⟨hx, hb, hml, hown, hts⟩ (c_X0_tellCount l D cI cZ cO ad n np nq F w9 hnp hnq (by omega)) (cwV 1 hts gX0_count_X0_tellCount rfl rfl rfl (by decide +kernel) ⟨Nat.le_trans (Nat.le_of_ble_eq_true rfl) hRf, Nat.le_trans (Nat.le_of_ble_eq_true rfl) hRl⟩) (pr_V hP (ci := 0) (q0 := 0) rfl g_at0 rfl hP hK [0, 1, 2] rfl V0_at V0_c) rfl rfl hl.1 rfl (lv_room (Nat.le_of_ble_eq_true rfl)) dX0_count_8 ⟨Nat.le_trans (Nat.le_of_ble_eq_true rfl) hRc, Nat.le_trans (Nat.le_of_ble_eq_true rfl) hRs⟩) hS (fun _ _ h => h.elim) (fun _ h => h.elim) (fun r_2 _ t H1 locs ht hvm hw_2 hB hz hk hS => ?_)
  have hP := P_kept hP hk
  obtain rfl := hw_2
  rw [← hQ]
  refine vx_ret ?_
  exact W.iret (v := cnT n np nq F w9) hx hb hr (fun t ht hW => ⟨⟨cnT n np nq F w9, (), rfl, (spCount_y hw9), trivial⟩, hS.F ht⟩) hS.2.2 dX0_count_11
set_option maxHeartbeats 4000000 in
set_option maxRecDepth 100000 in
/-- lacks -/
theorem c_X0_lacks (l : Launch) (hst : l.stackTraces = false) (D : va_G) (cI cZ cO : ClassId) (ad : Nat → Nat) (n np nq : Nat) (F : Nat → Nat → Int32) (c0 k0 : Int32) (hn : n ≤ 10) (hnp : np ≤ 150) (hsk : ∀ p, p < np → ∃ k, k < n ∧ F 4 p = nI k) : vx_Met l yX0_lacks wsX0_lacks ({ frames := 7, cells := 2, slots := 12, locals := 102 } : Room) (va_Pc [.ref (ad 0), .int c0, .int k0] (Pr D (gT cI cZ cO) (wG cI cZ cO ad n np nq F) (EnvG (fun _ => False)))) (va_Qi (S := Unit) (fun (r : Int32) (_ : Unit) => spLacks n np F c0 k0 = (0, r)) (fun _ _ => True) (fun _ => False)) (vx_X (S := Unit) (fun _ => True) (fun E (_ : Unit) (_ : State) => E = nA ∧ spLacks n np F c0 k0 = (1, 0)) (fun _ => False)) 2 12 (fun _ => False) := by
  refine vx_ofW (cc := cX0_lacks) (maxL := 3) (ret := (some .int)) (by decide) rfl ?_
  intro p e s m args below meth c s₁ B hml htab hv
  obtain ⟨hargs, hP, hK, hV⟩ := hv
  have hx := B.exec
  have hb := B.bytes
  have hr := B.returns
  have hts := atoms_spec (ws := wsX0_lacks) B.pre
  have hown : s.vm.findClass RX0 = some m.cls := findClass_of_methodNamed B.named
  have hlocks := B.notSynchronized
  have hS : va_S (fun _ => False) s.heap s.heap [] := va_S.rf
  have hV0 : EnvG (fun _ => False) s := EnvG.nar hV sub_no
  have hiw : ∀ w ∈ wsX00, w ∈ wsX0_lacks := (fun _ h => List.mem_cons_of_mem _ (List.mem_append_left _ (List.mem_append_right _ h)))
  have hRf : 7 ≤ (headSpec wsX0_lacks ({ frames := 7, cells := 2, slots := 12, locals := 102 } : Room)).room.frames := Nat.le_refl _
  have hRl : 102 ≤ (headSpec wsX0_lacks ({ frames := 7, cells := 2, slots := 12, locals := 102 } : Room)).room.locals := Nat.le_refl _
  have hRc : 2 ≤ (headSpec wsX0_lacks ({ frames := 7, cells := 2, slots := 12, locals := 102 } : Room)).room.cells := Nat.le_refl _
  have hRs : 12 ≤ (headSpec wsX0_lacks ({ frames := 7, cells := 2, slots := 12, locals := 102 } : Room)).room.slots := Nat.le_refl _
  generalize (headSpec wsX0_lacks ({ frames := 7, cells := 2, slots := 12, locals := 102 } : Room)).room = R at hRf hRl hRc hRs ⊢
  have hl := lv_entry [.ref (ad 0), .int c0, .int k0] (n := 3) (Nat.le_of_ble_eq_true rfl)
  refine W.eq (show entryFrame m args 3 = _ from by rw [hargs, lg_entry_eq]) ?_
  generalize (lg_sl [.ref (ad 0), .int c0, .int k0] ++ List.replicate (3 - (lg_sl [.ref (ad 0), .int c0, .int k0]).length) Slot.unset).toArray = ls at hl ⊢
  have hl : lv_has ls 3 [(0, .ref (ad 0)), (1, .int c0), (2, .int k0)] := hl
  generalize hQ : vx_MQ _ _ _ _ _ _ _ _ = Q
  refine lv_iload_n hx hb dX0_lacks_0 rfl (lv_at hl 1 rfl) ?_
  refine vx_callv (vx_runS (As := [.int c0]) (rest := []) ⟨hx, hb, hml, hown, hts⟩ (c_X0_needColour l hst D c0 ) (va_cwS 1 hts gX0_lacks_X0_needColour rfl rfl rfl (by decide +kernel) ⟨Nat.le_trans (Nat.le_of_ble_eq_true rfl) hRf, Nat.le_trans (Nat.le_of_ble_eq_true rfl) hRl⟩) (pr_S (P_nil) hK [] rfl (hV0.at hS sub_id sub_id) EnvG_c) rfl rfl hl.1 rfl (lv_room (Nat.le_of_ble_eq_true rfl)) dX0_lacks_1 ⟨Nat.le_trans (Nat.le_of_ble_eq_true rfl) hRc, Nat.le_trans (Nat.le_of_ble_eq_true rfl) hRs⟩) hS (fun _ _ h => h.elim) (fun _ h => h.elim) (fun _ _ h => h.elim) (fun E ce q9 _ t H1 locs ht hvm hpx hbx _ hk hS hce hcv hcl => ?_) (fun _ t H1 locs ht hvm hw_1 hB hz hk hS => ?_)
  · rw [← hQ]
    exact vx_out (fun x hx9 => (htab x hx9).elim) hlocks hce hcv hcl (fun t ht hal => ⟨(), trivial, ⟨hbx.1, by unfold spLacks; rw [hbx.2]; rfl⟩, hS.F ht⟩) (fun z hz => (hS.2.2 z hz).elim) (by omega) (by omega)
  have hP := P_kept hP hk
  have hc9 := hw_1
  refine lv_iload_n hx hb dX0_lacks_4 rfl (lv_at hl 2 rfl) ?_
  refine vx_callv (vx_runS (As := [.int k0]) (rest := []) ⟨hx, hb, hml, hown, hts⟩ (c_X0_needKind l hst D k0 ) (va_cwS 1 hts gX0_lacks_X0_needKind rfl rfl rfl (by decide +kernel) ⟨Nat.le_trans (Nat.le_of_ble_eq_true rfl) hRf, Nat.le_trans (Nat.le_of_ble_eq_true rfl) hRl⟩) (pr_S (P_nil) hK [] rfl (hV0.at hS sub_id sub_id) EnvG_c) rfl rfl hl.1 rfl (lv_room (Nat.le_of_ble_eq_true rfl)) dX0_lacks_5 ⟨Nat.le_trans (Nat.le_of_ble_eq_true rfl) hRc, Nat.le_trans (Nat.le_of_ble_eq_true rfl) hRs⟩) hS (fun _ _ h => h.elim) (fun _ h => h.elim) (fun _ _ h => h.elim) (fun E ce q9 _ t H1 locs ht hvm hpx hbx _ hk hS hce hcv hcl => ?_) (fun _ t H1 locs ht hvm hw_2 hB hz hk hS => ?_)
  · rw [← hQ]
    exact vx_out (fun x hx9 => (htab x hx9).elim) hlocks hce hcv hcl (fun t ht hal => ⟨(), trivial, ⟨hbx.1, by unfold spLacks; rw [hc9, hbx.2]; rfl⟩, hS.F ht⟩) (fun z hz => (hS.2.2 z hz).elim) (by omega) (by omega)
  have hP := P_kept hP hk
  obtain ⟨k9, hk9, rfl⟩ := inR_t (by omega) hw_2
  refine lv_aload_n hx hb dX0_lacks_8 rfl (lv_at hl 0 rfl) ?_
  refine lv_iload_n hx hb dX0_lacks_9 rfl (lv_at hl 1 rfl) ?_
  refine lv_iload_n hx hb dX0_lacks_10 rfl (lv_at hl 2 rfl) ?_
  refine va_calli (va_runV (As := [.int c0, .int (nI k9)]) (rest := []) ⟨hx, hb, hml, hown, hts⟩ (c_X0_lacking l D cI cZ cO ad n np nq F c0 k9 hn hnp hsk (by omega)) (cwV 2 hts gX0_lacks_X0_lacking rfl rfl rfl (by decide +kernel) ⟨Nat.le_trans (Nat.le_of_ble_eq_true rfl) hRf, Nat.le_trans (Nat.le_of_ble_eq_true rfl) hRl⟩) (pr_V hP (ci := 0) (q0 := 0) rfl g_at0 rfl hP hK [0, 1, 2] rfl (hV0.at hS sub_id sub_id) EnvG_c) rfl rfl hl.1 rfl (lv_room (Nat.le_of_ble_eq_true rfl)) dX0_lacks_11 ⟨Nat.le_trans (Nat.le_of_ble_eq_true rfl) hRc, Nat.le_trans (Nat.le_of_ble_eq_true rfl) hRs⟩) hS (fun _ _ h => h.elim) (fun _ h => h.elim) (fun r_3 _ t H1 locs ht hvm hw_3 hB hz hk hS => ?_)
  have hP := P_kept hP hk
  obtain rfl := hw_3
  rw [← hQ]
  refine vx_ret ?_
  exact W.iret (v := nI (lkN F n np c0 k9)) hx hb hr (fun t ht hW => ⟨⟨nI (lkN F n np c0 k9), (), rfl, (spLacks_y hc9 hk9), trivial⟩, hS.F ht⟩) hS.2.2 dX0_lacks_14
set_option maxHeartbeats 4000000 in
set_option maxRecDepth 100000 in
/-- pairs -/
theorem c_X0_pairs (l : Launch) (hst : l.stackTraces = false) (D : va_G) (cI cZ cO : ClassId) (ad : Nat → Nat) (n np nq : Nat) (F : Nat → Nat → Int32) (c0 : Int32) (hn : n ≤ 10) (hnp : np ≤ 150) (hsk : ∀ p, p < np → ∃ k, k < n ∧ F 4 p = nI k) : vx_Met l yX0_pairs wsX0_pairs ({ frames := 7, cells := 1, slots := 6, locals := 102 } : Room) (va_Pc [.ref (ad 0), .int c0] (Pr D (gT cI cZ cO) (wG cI cZ cO ad n np nq F) (EnvG (fun _ => False)))) (va_Qi (S := Unit) (fun (r : Int32) (_ : Unit) => spPairs n np F c0 = (0, r)) (fun _ _ => True) (fun _ => False)) (vx_X (S := Unit) (fun _ => True) (fun E (_ : Unit) (_ : State) => E = nA ∧ spPairs n np F c0 = (1, 0)) (fun _ => False)) 1 6 (fun _ => False) := by
  refine vx_ofW (cc := cX0_pairs) (maxL := 4) (ret := (some .int)) (by decide) rfl ?_
  intro p e s m args below meth c s₁ B hml htab hv
  obtain ⟨hargs, hP, hK, hV⟩ := hv
  have hx := B.exec
  have hb := B.bytes
  have hr := B.returns
  have hts := atoms_spec (ws := wsX0_pairs) B.pre
  have hown : s.vm.findClass RX0 = some m.cls := findClass_of_methodNamed B.named
  have hlocks := B.notSynchronized
  have hS : va_S (fun _ => False) s.heap s.heap [] := va_S.rf
  have hV0 : EnvG (fun _ => False) s := EnvG.nar hV sub_no
  have hiw : ∀ w ∈ wsX00, w ∈ wsX0_pairs := (fun _ h => List.mem_cons_of_mem _ (List.mem_append_left _ (List.mem_append_right _ h)))
  have hRf : 7 ≤ (headSpec wsX0_pairs ({ frames := 7, cells := 1, slots := 6, locals := 102 } : Room)).room.frames := Nat.le_refl _
  have hRl : 102 ≤ (headSpec wsX0_pairs ({ frames := 7, cells := 1, slots := 6, locals := 102 } : Room)).room.locals := Nat.le_refl _
  have hRc : 1 ≤ (headSpec wsX0_pairs ({ frames := 7, cells := 1, slots := 6, locals := 102 } : Room)).room.cells := Nat.le_refl _
  have hRs : 6 ≤ (headSpec wsX0_pairs ({ frames := 7, cells := 1, slots := 6, locals := 102 } : Room)).room.slots := Nat.le_refl _
  generalize (headSpec wsX0_pairs ({ frames := 7, cells := 1, slots := 6, locals := 102 } : Room)).room = R at hRf hRl hRc hRs ⊢
  have hl := lv_entry [.ref (ad 0), .int c0] (n := 4) (Nat.le_of_ble_eq_true rfl)
  refine W.eq (show entryFrame m args 4 = _ from by rw [hargs, lg_entry_eq]) ?_
  generalize (lg_sl [.ref (ad 0), .int c0] ++ List.replicate (4 - (lg_sl [.ref (ad 0), .int c0]).length) Slot.unset).toArray = ls at hl ⊢
  have hl : lv_has ls 4 [(0, .ref (ad 0)), (1, .int c0)] := hl
  generalize hQ : vx_MQ _ _ _ _ _ _ _ _ = Q
  refine lv_iload_n hx hb dX0_pairs_0 rfl (lv_at hl 1 rfl) ?_
  refine vx_callv (vx_runS (As := [.int c0]) (rest := []) ⟨hx, hb, hml, hown, hts⟩ (c_X0_needColour l hst D c0 ) (va_cwS 1 hts gX0_pairs_X0_needColour rfl rfl rfl (by decide +kernel) ⟨Nat.le_trans (Nat.le_of_ble_eq_true rfl) hRf, Nat.le_trans (Nat.le_of_ble_eq_true rfl) hRl⟩) (pr_S (P_nil) hK [] rfl (hV0.at hS sub_id sub_id) EnvG_c) rfl rfl hl.1 rfl (lv_room (Nat.le_of_ble_eq_true rfl)) dX0_pairs_1 ⟨Nat.le_trans (Nat.le_of_ble_eq_true rfl) hRc, Nat.le_trans (Nat.le_of_ble_eq_true rfl) hRs⟩) hS (fun _ _ h => h.elim) (fun _ h => h.elim) (fun _ _ h => h.elim) (fun E ce q9 _ t H1 locs ht hvm hpx hbx _ hk hS hce hcv hcl => ?_) (fun _ t H1 locs ht hvm hw_1 hB hz hk hS => ?_)
  · rw [← hQ]
    exact vx_out (fun x hx9 => (htab x hx9).elim) hlocks hce hcv hcl (fun t ht hal => ⟨(), trivial, ⟨hbx.1, by unfold spPairs; rw [hbx.2]; rfl⟩, hS.F ht⟩) (fun z hz => (hS.2.2 z hz).elim) (by omega) (by omega)
  have hP := P_kept hP hk
  have hc9 := hw_1
  refine lv_aload_n hx hb dX0_pairs_4 rfl (lv_at hl 0 rfl) ?_
  refine lv_iload_n hx hb dX0_pairs_5 rfl (lv_at hl 1 rfl) ?_
  refine va_calli (va_runV (As := [.int c0]) (rest := []) ⟨hx, hb, hml, hown, hts⟩ (c_X0_trankPairs l D cI cZ cO ad n np nq F c0 hn hnp) (cwV 1 hts gX0_pairs_X0_trankPairs rfl rfl rfl (by decide +kernel) ⟨Nat.le_trans (Nat.le_of_ble_eq_true rfl) hRf, Nat.le_trans (Nat.le_of_ble_eq_true rfl) hRl⟩) (pr_V hP (ci := 0) (q0 := 0) rfl g_at0 rfl hP hK [0, 1, 2] rfl (hV0.at hS sub_id sub_id) EnvG_c) rfl rfl hl.1 rfl (lv_room (Nat.le_of_ble_eq_true rfl)) dX0_pairs_6 ⟨Nat.le_trans (Nat.le_of_ble_eq_true rfl) hRc, Nat.le_trans (Nat.le_of_ble_eq_true rfl) hRs⟩) hS (fun _ _ h => h.elim) (fun _ h => h.elim) (fun r_2 _ t H1 locs ht hvm hw_2 hB hz hk hS => ?_)
  have hP := P_kept hP hk
  obtain rfl := hw_2
  have hm9 := Nat.le_trans (tP_le F np c0 n) (Nat.mul_le_mul hnp hn)
  refine lv_istore_n (lv' := [(2, .int (nI (tP F np c0 n))), (0, .ref (ad 0)), (1, .int c0)]) hx hb dX0_pairs_9 rfl hl (by decide) rfl (fun ls hl => ?_)
  refine lv_iconst (v := nI 1) hx hb dX0_pairs_10 (by decide) ?_
  refine lv_istore_n (lv' := [(3, .int (nI 1)), (2, .int (nI (tP F np c0 n))), (0, .ref (ad 0)), (1, .int c0)]) hx hb dX0_pairs_11 rfl hl (by decide) rfl (fun ls hl => ?_)
  have L12 : ∀ (fu : Nat) (k : Nat) (i : Nat) (j : Nat) (H : Heap) (locs : List Loc) (ls : Array Slot), 4 - i < fu → (i = j + 1) → (i ≤ 4) → (k = prN F n np c0 j) → (k ≤ 1500) → va_P D vwCl (wG cI cZ cO ad n np nq F) H → va_S (fun _ => False) s.heap H locs → lv_has ls 4 [(0, .ref (ad 0)), (1, .int c0), (2, .int (nI k)), (3, .int (nI i))] → W p l e R s m args below meth c H locs 1 6 Q (F0 m 12 ls []) := by
    intro fu
    induction fu with
    | zero => intro _ _ _ _ _ _ h; exact absurd h (Nat.not_lt_zero _)
    | succ fu ih12 =>
      intro k i j H locs ls hm12 h0 h1 h2 h3 hP  hS hl
      refine lv_iload_n hx hb dX0_pairs_12 rfl (lv_at hl 3 rfl) ?_
      refine lv_iconst (v := nI 4) hx hb dX0_pairs_13 (by decide) ?_
      refine nv_icmp_ge (tgt := 38) hx hb (by omega) (by omega) dX0_pairs_14 (by decide) (fun c_3 => ?_) (fun c_3 => ?_)
      · refine lv_iload_n hx hb dX0_pairs_38 rfl (lv_at hl 2 rfl) ?_
        rw [← hQ]
        refine vx_ret ?_
        exact W.iret (v := nI k) hx hb hr (fun t ht hW => ⟨⟨nI k, (), rfl, ((spPairs_y hc9).trans (by rw [h2, show j = 3 by omega])), trivial⟩, hS.F ht⟩) hS.2.2 dX0_pairs_39
      · refine lv_iload_n hx hb dX0_pairs_17 rfl (lv_at hl 2 rfl) ?_
        refine lv_aload_n hx hb dX0_pairs_18 rfl (lv_at hl 0 rfl) ?_
        refine lv_iload_n hx hb dX0_pairs_19 rfl (lv_at hl 1 rfl) ?_
        refine lv_iload_n hx hb dX0_pairs_20 rfl (lv_at hl 3 rfl) ?_
        refine va_calli (va_runV (As := [.int c0, .int (nI i)]) (rest := [.int (nI k)]) ⟨hx, hb, hml, hown, hts⟩ (c_X0_freeOfColour l D cI cZ cO ad n np nq F c0 (nI i) hn hnp hsk) (cwV 2 hts gX0_pairs_X0_freeOfColour rfl rfl rfl (by decide +kernel) ⟨Nat.le_trans (Nat.le_of_ble_eq_true rfl) hRf, Nat.le_trans (Nat.le_of_ble_eq_true rfl) hRl⟩) (pr_V hP (ci := 0) (q0 := 0) rfl g_at0 rfl hP hK [0, 1, 2] rfl V0_at V0_c) rfl rfl hl.1 rfl (lv_room (Nat.le_of_ble_eq_true rfl)) dX0_pairs_21 ⟨Nat.le_trans (Nat.le_of_ble_eq_true rfl) hRc, Nat.le_trans (Nat.le_of_ble_eq_true rfl) hRs⟩) hS (fun _ _ h => h.elim) (fun _ h => h.elim) (fun r_4 _ t H1 locs ht hvm hw_4 hB hz hk hS => ?_)
        have hP := P_kept hP hk
        obtain rfl := hw_4
        have hb9 := fC_le F np c0 (nI i)
        refine lv_iload_n hx hb dX0_pairs_24 rfl (lv_at hl 3 rfl) ?_
        refine va_calli (va_runS (As := [.int (nI (fC F np c0 (nI i))), .int (nI i)]) (rest := [.int (nI k)]) ⟨hx, hb, hml, hown, hts⟩ (c_X0_pairsFrom l D (fC F np c0 (nI i)) i (by omega) (by omega)) (va_cwS 2 hts gX0_pairs_X0_pairsFrom rfl rfl rfl (by decide +kernel) ⟨Nat.le_trans (Nat.le_of_ble_eq_true rfl) hRf, Nat.le_trans (Nat.le_of_ble_eq_true rfl) hRl⟩) (pr_S (P_nil) hK [] rfl (hV0.at hS sub_id sub_id) EnvG_c) rfl rfl hl.1 rfl (lv_room (Nat.le_of_ble_eq_true rfl)) dX0_pairs_25 ⟨Nat.le_trans (Nat.le_of_ble_eq_true rfl) hRc, Nat.le_trans (Nat.le_of_ble_eq_true rfl) hRs⟩) hS (fun _ _ h => h.elim) (fun _ h => h.elim) (fun r_5 _ t H1 locs ht hvm hw_5 hB hz hk hS => ?_)
        have hP := P_kept hP hk
        obtain rfl := hw_5
        have hb8 := Nat.div_le_self (fC F np c0 (nI i)) (kP i)
        refine va_mmin (rest := []) hx hb (hml.trans hl.1.symm) hown (hts (.methodLink RX0 169 Lib.Math.min.name) (by decide +kernel)) (hts (.static Lib.Math.min.name) (by decide +kernel)) (hts (.initialized "java/lang/Math") (by decide +kernel)) (hts (.code Lib.Math.min.name Lib.Math.min.code 2 (some .int)) (by decide +kernel)) (Nat.le_trans (Nat.le_of_ble_eq_true rfl) hRf) (Nat.le_trans (Nat.le_of_ble_eq_true rfl) hRl) (Nat.le_trans (Nat.le_of_ble_eq_true rfl) hRc) (Nat.le_trans (Nat.le_of_ble_eq_true rfl) hRs) dX0_pairs_28 ?_
        rw [nI_min (by omega) (by omega)]
        refine lv_istore_n (lv' := [(2, .int (nI (min ((fC F np c0 (nI i)) / kP i) k))), (0, .ref (ad 0)), (1, .int c0), (3, .int (nI i))]) hx hb dX0_pairs_31 rfl hl (by decide) rfl (fun ls hl => ?_)
        refine lv_iinc (k := 3) (v := nI (i + 1)) (lv' := [(3, .int (nI (i + 1))), (2, .int (nI (min ((fC F np c0 (nI i)) / kP i) k))), (0, .ref (ad 0)), (1, .int c0)]) hx hb dX0_pairs_32 hl rfl (nI_add i 1) (by decide) rfl (fun ls hl => ?_)
        refine lv_goto (tgt := 12) hx hb dX0_pairs_35 (by decide) ?_
        exact ih12 (min ((fC F np c0 (nI i)) / kP i) k) (i + 1) (j + 1) _ _ _ (by omega) (by omega) (by omega) (by subst h0; rw [h2, Nat.min_comm]; rfl) (Nat.le_trans (Nat.min_le_right _ _) h3) hP hS (lv_sub hl [2, 3, 1, 0] rfl)
  exact L12 _ (tP F np c0 n) 1 0 _ _ _ (Nat.lt_succ_self _) rfl (by omega) rfl (by omega) hP hS (lv_sub hl [2, 3, 1, 0] rfl)
set_option maxHeartbeats 4000000 in
set_option maxRecDepth 100000 in
/-- digestSkin -/
theorem c_X0_digestSkin (l : Launch) (D : va_G) (cI cZ cO : ClassId) (ad : Nat → Nat) (n np nq : Nat) (F : Nat → Nat → Int32) (d0 : Int64) (s0 : Nat) (hs : s0 < 10) : Met l yX0_digestSkin wsX0_digestSkin ({ frames := 3, cells := 0, slots := 0, locals := 72 } : Room) (va_Pc [.ref (ad 0), .long d0, .int (nI s0)] (Pr D (gT cI cZ cO) (wG cI cZ cO ad n np nq F) V0)) (va_Ql (S := Unit) (fun (r : Int64) (_ : Unit) => r = dS (F (14 + s0)) (dS (skT F s0) d0 6) 96) (fun _ _ => True) (fun _ => False)) 0 0 (fun _ => False) := by
  refine Met.ofW (cc := cX0_digestSkin) (maxL := 7) (ret := (some .long)) (by decide) rfl ?_
  intro p e s m args below meth c s₁ B hml hv
  obtain ⟨hargs, hP, hK, hV⟩ := hv
  have hx := B.exec
  have hb := B.bytes
  have hr := B.returns
  have hts := atoms_spec (ws := wsX0_digestSkin) B.pre
  have hown : s.vm.findClass RX0 = some m.cls := findClass_of_methodNamed B.named
  have hlocks := B.notSynchronized
  have hS : va_S (fun _ => False) s.heap s.heap [] := va_S.rf
  have hiw : ∀ w ∈ wsX00, w ∈ wsX0_digestSkin := (fun _ h => List.mem_cons_of_mem _ (List.mem_append_right _ h))
  have hRf : 3 ≤ (headSpec wsX0_digestSkin ({ frames := 3, cells := 0, slots := 0, locals := 72 } : Room)).room.frames := Nat.le_refl _
  have hRl : 72 ≤ (headSpec wsX0_digestSkin ({ frames := 3, cells := 0, slots := 0, locals := 72 } : Room)).room.locals := Nat.le_refl _
  have hRc : 0 ≤ (headSpec wsX0_digestSkin ({ frames := 3, cells := 0, slots := 0, locals := 72 } : Room)).room.cells := Nat.le_refl _
  have hRs : 0 ≤ (headSpec wsX0_digestSkin ({ frames := 3, cells := 0, slots := 0, locals := 72 } : Room)).room.slots := Nat.le_refl _
  generalize (headSpec wsX0_digestSkin ({ frames := 3, cells := 0, slots := 0, locals := 72 } : Room)).room = R at hRf hRl hRc hRs ⊢
  have hl := lv_entry [.ref (ad 0), .long d0, .int (nI s0)] (n := 7) (Nat.le_of_ble_eq_true rfl)
  refine W.eq (show entryFrame m args 7 = _ from by rw [hargs, lg_entry_eq]) ?_
  generalize (lg_sl [.ref (ad 0), .long d0, .int (nI s0)] ++ List.replicate (7 - (lg_sl [.ref (ad 0), .long d0, .int (nI s0)]).length) Slot.unset).toArray = ls at hl ⊢
  have hl : lv_has ls 7 [(0, .ref (ad 0)), (1, .long d0), (3, .int (nI s0))] := hl
  generalize hQ : MQ _ _ _ _ _ _ _ = Q
  refine lv_lload_n hx hb dX0_digestSkin_0 rfl (lv_at hl 1 rfl) ?_
  refine lv_lstore (lv' := [(4, .long d0), (0, .ref (ad 0)), (1, .long d0), (3, .int (nI s0))]) hx hb dX0_digestSkin_1 hl (by decide) rfl (fun ls hl => ?_)
  refine lv_iconst (v := nI 0) hx hb dX0_digestSkin_3 (by decide) ?_
  refine lv_istore (lv' := [(6, .int (nI 0)), (4, .long d0), (0, .ref (ad 0)), (1, .long d0), (3, .int (nI s0))]) hx hb dX0_digestSkin_4 hl (by decide) rfl (fun ls hl => ?_)
  have L6 : ∀ (fu : Nat) (da : Int64) (a9 : Nat) (H : Heap) (locs : List Loc) (ls : Array Slot), 6 - a9 < fu → (a9 ≤ 6) → (da = dS (skT F s0) d0 a9) → va_P D vwCl (wG cI cZ cO ad n np nq F) H → va_S (fun _ => False) s.heap H locs → lv_has ls 7 [(0, .ref (ad 0)), (1, .long d0), (3, .int (nI s0)), (4, .long da), (6, .int (nI a9))] → W p l e R s m args below meth c H locs 0 0 Q (F0 m 6 ls []) := by
    intro fu
    induction fu with
    | zero => intro _ _ _ _ _ h; exact absurd h (Nat.not_lt_zero _)
    | succ fu ih6 =>
      intro da a9 H locs ls hm6 ga ea hP  hS hl
      refine lv_iload hx hb dX0_digestSkin_6 (lv_at hl 4 rfl) ?_
      refine lv_bipush (v := nI 6) hx hb dX0_digestSkin_8 (by decide) ?_
      refine nv_icmp_ge (tgt := 36) hx hb (by omega) (by omega) dX0_digestSkin_10 (by decide) (fun c_1 => ?_) (fun c_1 => ?_)
      · refine lv_iconst (v := nI 0) hx hb dX0_digestSkin_36 (by decide) ?_
        refine lv_istore (lv' := [(6, .int (nI 0)), (0, .ref (ad 0)), (1, .long d0), (3, .int (nI s0)), (4, .long da)]) hx hb dX0_digestSkin_37 hl (by decide) rfl (fun ls hl => ?_)
        have L39 : ∀ (fu : Nat) (db : Int64) (b9 : Nat) (H : Heap) (locs : List Loc) (ls : Array Slot), 96 - b9 < fu → (b9 ≤ 96) → (db = dS (F (14 + s0)) (dS (skT F s0) d0 6) b9) → va_P D vwCl (wG cI cZ cO ad n np nq F) H → va_S (fun _ => False) s.heap H locs → lv_has ls 7 [(0, .ref (ad 0)), (1, .long d0), (3, .int (nI s0)), (4, .long db), (6, .int (nI b9))] → W p l e R s m args below meth c H locs 0 0 Q (F0 m 39 ls []) := by
          intro fu
          induction fu with
          | zero => intro _ _ _ _ _ h; exact absurd h (Nat.not_lt_zero _)
          | succ fu ih39 =>
            intro db b9 H locs ls hm39 gb eb hP  hS hl
            refine lv_iload hx hb dX0_digestSkin_39 (lv_at hl 4 rfl) ?_
            refine lv_bipush (v := nI 96) hx hb dX0_digestSkin_41 (by decide) ?_
            refine nv_icmp_ge (tgt := 71) hx hb (by omega) (by omega) dX0_digestSkin_43 (by decide) (fun c_2 => ?_) (fun c_2 => ?_)
            · refine lv_lload hx hb dX0_digestSkin_71 (lv_at hl 3 rfl) ?_
              rw [← hQ]
              exact W.lret (v := db) hx hb hr (fun t ht hW => ⟨⟨db, (), rfl, (by rw [eb, show b9 = 96 by omega]), trivial⟩, hS.F ht⟩) hS.2.2 dX0_digestSkin_73
            · refine lv_lload hx hb dX0_digestSkin_46 (lv_at hl 3 rfl) ?_
              refine lv_ldc2 (v := 31) hx hb hown (hts (.constantLong RX0 179 (31)) (by decide +kernel)) dX0_digestSkin_48 ?_
              refine lv_lmul hx hb dX0_digestSkin_51 ?_
              refine lv_aload_n hx hb dX0_digestSkin_52 rfl (lv_at hl 0 rfl) ?_
              refine va_get (D := D) (ci := 0) (v := .ref (ad 3)) (C := RX0) (T := TX0) (N := 16) hx hb hts hiw hown hK hP 0 g_at0 rfl 3 (by decide) (hts (.fieldLink RX0 18 "GloveCutters" "skinCells" "[[I") (by decide +kernel)) (fun _ h9 => h9) rfl dX0_digestSkin_53 ?_
              refine lv_iload_n hx hb dX0_digestSkin_56 rfl (lv_at hl 2 rfl) ?_
              refine nv_aald hx hb hK hP 3 2 g_at3 rfl (by omega) (by decide) (if_pos (by omega)) dX0_digestSkin_57 ?_
              refine lv_iload hx hb dX0_digestSkin_58 (lv_at hl 4 rfl) ?_
              refine nv_iald hx hb hK hP (14 + s0) 0 (g_atr (k := s0) (by omega)) rfl (by omega) (by omega) dX0_digestSkin_60 ?_
              refine lv_i2l hx hb dX0_digestSkin_61 rfl ?_
              refine lv_ladd hx hb dX0_digestSkin_62 ?_
              refine lv_lstore (lv' := [(4, .long ((db * 31) + ((F (14 + s0) b9).toInt64))), (0, .ref (ad 0)), (1, .long d0), (3, .int (nI s0)), (6, .int (nI b9))]) hx hb dX0_digestSkin_63 hl (by decide) rfl (fun ls hl => ?_)
              refine lv_iinc (k := 4) (v := nI (b9 + 1)) (lv' := [(6, .int (nI (b9 + 1))), (4, .long ((db * 31) + ((F (14 + s0) b9).toInt64))), (0, .ref (ad 0)), (1, .long d0), (3, .int (nI s0))]) hx hb dX0_digestSkin_65 hl rfl (nI_add b9 1) (by decide) rfl (fun ls hl => ?_)
              refine lv_goto (tgt := 39) hx hb dX0_digestSkin_68 (by decide) ?_
              exact ih39 ((db * 31) + ((F (14 + s0) b9).toInt64)) (b9 + 1) _ _ _ (by omega) (by omega) (by rw [eb]; rfl) hP hS (lv_sub hl [2, 3, 4, 1, 0] rfl)
        exact L39 _ da 0 _ _ _ (Nat.lt_succ_self _) (by omega) (by rw [ea, show a9 = 6 by omega]; rfl) hP hS (lv_sub hl [1, 2, 3, 4, 0] rfl)
      · refine lv_lload hx hb dX0_digestSkin_13 (lv_at hl 3 rfl) ?_
        refine lv_ldc2 (v := 31) hx hb hown (hts (.constantLong RX0 179 (31)) (by decide +kernel)) dX0_digestSkin_15 ?_
        refine lv_lmul hx hb dX0_digestSkin_18 ?_
        refine lv_aload_n hx hb dX0_digestSkin_19 rfl (lv_at hl 0 rfl) ?_
        refine lv_iload_n hx hb dX0_digestSkin_20 rfl (lv_at hl 2 rfl) ?_
        refine lv_iload hx hb dX0_digestSkin_21 (lv_at hl 4 rfl) ?_
        refine va_calli (va_runV (As := [.int (nI s0), .int (nI a9)]) (rest := [.long (da * 31)]) ⟨hx, hb, hml, hown, hts⟩ (c_X0_tellSkin l D cI cZ cO ad n np nq F s0 a9 hs (by omega)) (cwV 2 hts gX0_digestSkin_X0_tellSkin rfl rfl rfl (by decide +kernel) ⟨Nat.le_trans (Nat.le_of_ble_eq_true rfl) hRf, Nat.le_trans (Nat.le_of_ble_eq_true rfl) hRl⟩) (pr_V hP (ci := 0) (q0 := 0) rfl g_at0 rfl hP hK [0, 1, 2] rfl V0_at V0_c) rfl rfl hl.1 rfl (lv_room (Nat.le_of_ble_eq_true rfl)) dX0_digestSkin_23 ⟨Nat.le_trans (Nat.le_of_ble_eq_true rfl) hRc, Nat.le_trans (Nat.le_of_ble_eq_true rfl) hRs⟩) hS (fun _ _ h => h.elim) (fun _ h => h.elim) (fun r_3 _ t H1 locs ht hvm hw_3 hB hz hk hS => ?_)
        have hP := P_kept hP hk
        obtain rfl := hw_3
        refine lv_i2l hx hb dX0_digestSkin_26 rfl ?_
        refine lv_ladd hx hb dX0_digestSkin_27 ?_
        refine lv_lstore (lv' := [(4, .long ((da * 31) + ((skT F s0 a9).toInt64))), (0, .ref (ad 0)), (1, .long d0), (3, .int (nI s0)), (6, .int (nI a9))]) hx hb dX0_digestSkin_28 hl (by decide) rfl (fun ls hl => ?_)
        refine lv_iinc (k := 4) (v := nI (a9 + 1)) (lv' := [(6, .int (nI (a9 + 1))), (4, .long ((da * 31) + ((skT F s0 a9).toInt64))), (0, .ref (ad 0)), (1, .long d0), (3, .int (nI s0))]) hx hb dX0_digestSkin_30 hl rfl (nI_add a9 1) (by decide) rfl (fun ls hl => ?_)
        refine lv_goto (tgt := 6) hx hb dX0_digestSkin_33 (by decide) ?_
        exact ih6 ((da * 31) + ((skT F s0 a9).toInt64)) (a9 + 1) _ _ _ (by omega) (by omega) (by rw [ea]; rfl) hP hS (lv_sub hl [2, 3, 4, 1, 0] rfl)
  exact L6 _ d0 0 _ _ _ (Nat.lt_succ_self _) (by omega) rfl hP hS (lv_sub hl [2, 3, 4, 1, 0] rfl)
set_option maxHeartbeats 4000000 in
set_option maxRecDepth 100000 in
/-- digest -/
theorem c_X0_digest (l : Launch) (D : va_G) (cI cZ cO : ClassId) (ad : Nat → Nat) (n np nq : Nat) (F : Nat → Nat → Int32) (hn : n ≤ 10) (hnp : np ≤ 150) (hnq : nq ≤ 20) (hrip : ∀ q, q < nq → F 12 q = 0 ∨ F 12 q = 1) : Met l yX0_digest wsX0_digest ({ frames := 4, cells := 0, slots := 0, locals := 98 } : Room) (va_Pc [.ref (ad 0)] (Pr D (gT cI cZ cO) (wG cI cZ cO ad n np nq F) V0)) (va_Ql (S := Unit) (fun (r : Int64) (_ : Unit) => r = dG n np nq F) (fun _ _ => True) (fun _ => False)) 0 0 (fun _ => False) := by
  refine Met.ofW (cc := cX0_digest) (maxL := 5) (ret := (some .long)) (by decide) rfl ?_
  intro p e s m args below meth c s₁ B hml hv
  obtain ⟨hargs, hP, hK, hV⟩ := hv
  have hx := B.exec
  have hb := B.bytes
  have hr := B.returns
  have hts := atoms_spec (ws := wsX0_digest) B.pre
  have hown : s.vm.findClass RX0 = some m.cls := findClass_of_methodNamed B.named
  have hlocks := B.notSynchronized
  have hS : va_S (fun _ => False) s.heap s.heap [] := va_S.rf
  have hiw : ∀ w ∈ wsX00, w ∈ wsX0_digest := (fun _ h => List.mem_cons_of_mem _ (List.mem_append_right _ h))
  have hRf : 4 ≤ (headSpec wsX0_digest ({ frames := 4, cells := 0, slots := 0, locals := 98 } : Room)).room.frames := Nat.le_refl _
  have hRl : 98 ≤ (headSpec wsX0_digest ({ frames := 4, cells := 0, slots := 0, locals := 98 } : Room)).room.locals := Nat.le_refl _
  have hRc : 0 ≤ (headSpec wsX0_digest ({ frames := 4, cells := 0, slots := 0, locals := 98 } : Room)).room.cells := Nat.le_refl _
  have hRs : 0 ≤ (headSpec wsX0_digest ({ frames := 4, cells := 0, slots := 0, locals := 98 } : Room)).room.slots := Nat.le_refl _
  generalize (headSpec wsX0_digest ({ frames := 4, cells := 0, slots := 0, locals := 98 } : Room)).room = R at hRf hRl hRc hRs ⊢
  have hl := lv_entry [.ref (ad 0)] (n := 5) (Nat.le_of_ble_eq_true rfl)
  refine W.eq (show entryFrame m args 5 = _ from by rw [hargs, lg_entry_eq]) ?_
  generalize (lg_sl [.ref (ad 0)] ++ List.replicate (5 - (lg_sl [.ref (ad 0)]).length) Slot.unset).toArray = ls at hl ⊢
  have hl : lv_has ls 5 [(0, .ref (ad 0))] := hl
  generalize hQ : MQ _ _ _ _ _ _ _ = Q
  refine lv_ldc2 (v := 1087) hx hb hown (hts (.constantLong RX0 177 (1087)) (by decide +kernel)) dX0_digest_0 ?_
  refine lv_lstore_n (lv' := [(1, .long 1087), (0, .ref (ad 0))]) hx hb dX0_digest_3 rfl hl (by decide) rfl (fun ls hl => ?_)
  refine lv_iconst (v := nI 0) hx hb dX0_digest_4 (by decide) ?_
  refine lv_istore_n (lv' := [(3, .int (nI 0)), (1, .long 1087), (0, .ref (ad 0))]) hx hb dX0_digest_5 rfl hl (by decide) rfl (fun ls hl => ?_)
  have L6 : ∀ (fu : Nat) (da : Int64) (a9 : Nat) (H : Heap) (locs : List Loc) (ls : Array Slot), 7 - a9 < fu → (a9 ≤ 7) → (da = dS (cnT n np nq F) 1087 a9) → va_P D vwCl (wG cI cZ cO ad n np nq F) H → va_S (fun _ => False) s.heap H locs → lv_has ls 5 [(0, .ref (ad 0)), (1, .long da), (3, .int (nI a9))] → W p l e R s m args below meth c H locs 0 0 Q (F0 m 6 ls []) := by
    intro fu
    induction fu with
    | zero => intro _ _ _ _ _ h; exact absurd h (Nat.not_lt_zero _)
    | succ fu ih6 =>
      intro da a9 H locs ls hm6 ga ea hP  hS hl
      refine lv_iload_n hx hb dX0_digest_6 rfl (lv_at hl 2 rfl) ?_
      refine lv_bipush (v := nI 7) hx hb dX0_digest_7 (by decide) ?_
      refine nv_icmp_ge (tgt := 31) hx hb (by omega) (by omega) dX0_digest_9 (by decide) (fun c_1 => ?_) (fun c_1 => ?_)
      · refine lv_iconst (v := nI 0) hx hb dX0_digest_31 (by decide) ?_
        refine lv_istore_n (lv' := [(3, .int (nI 0)), (0, .ref (ad 0)), (1, .long da)]) hx hb dX0_digest_32 rfl hl (by decide) rfl (fun ls hl => ?_)
        have L33 : ∀ (fu : Nat) (db : Int64) (b9 : Nat) (H : Heap) (locs : List Loc) (ls : Array Slot), n - b9 < fu → (b9 ≤ n) → (db = dK F (dS (cnT n np nq F) 1087 7) b9) → va_P D vwCl (wG cI cZ cO ad n np nq F) H → va_S (fun _ => False) s.heap H locs → lv_has ls 5 [(0, .ref (ad 0)), (1, .long db), (3, .int (nI b9))] → W p l e R s m args below meth c H locs 0 0 Q (F0 m 33 ls []) := by
          intro fu
          induction fu with
          | zero => intro _ _ _ _ _ h; exact absurd h (Nat.not_lt_zero _)
          | succ fu ih33 =>
            intro db b9 H locs ls hm33 gb eb hP  hS hl
            refine lv_iload_n hx hb dX0_digest_33 rfl (lv_at hl 2 rfl) ?_
            refine lv_aload_n hx hb dX0_digest_34 rfl (lv_at hl 0 rfl) ?_
            refine va_get (D := D) (ci := 0) (v := .int (nI n)) (C := RX0) (T := TX0) (N := 16) hx hb hts hiw hown hK hP 0 g_at0 rfl 0 (by decide) (hts (.fieldLink RX0 56 "GloveCutters" "skins" "I") (by decide +kernel)) (fun _ h9 => h9) rfl dX0_digest_35 ?_
            refine nv_icmp_ge (tgt := 54) hx hb (by omega) (by omega) dX0_digest_38 (by decide) (fun c_2 => ?_) (fun c_2 => ?_)
            · refine lv_iconst (v := nI 0) hx hb dX0_digest_54 (by decide) ?_
              refine lv_istore_n (lv' := [(3, .int (nI 0)), (0, .ref (ad 0)), (1, .long db)]) hx hb dX0_digest_55 rfl hl (by decide) rfl (fun ls hl => ?_)
              have L56 : ∀ (fu : Nat) (dp : Int64) (p9 : Nat) (H : Heap) (locs : List Loc) (ls : Array Slot), np - p9 < fu → (p9 ≤ np) → (dp = dP F (dK F (dS (cnT n np nq F) 1087 7) n) p9) → va_P D vwCl (wG cI cZ cO ad n np nq F) H → va_S (fun _ => False) s.heap H locs → lv_has ls 5 [(0, .ref (ad 0)), (1, .long dp), (3, .int (nI p9))] → W p l e R s m args below meth c H locs 0 0 Q (F0 m 56 ls []) := by
                intro fu
                induction fu with
                | zero => intro _ _ _ _ _ h; exact absurd h (Nat.not_lt_zero _)
                | succ fu ih56 =>
                  intro dp p9 H locs ls hm56 gp ep hP  hS hl
                  refine lv_iload_n hx hb dX0_digest_56 rfl (lv_at hl 2 rfl) ?_
                  refine lv_aload_n hx hb dX0_digest_57 rfl (lv_at hl 0 rfl) ?_
                  refine va_get (D := D) (ci := 0) (v := .int (nI np)) (C := RX0) (T := TX0) (N := 16) hx hb hts hiw hown hK hP 0 g_at0 rfl 4 (by decide) (hts (.fieldLink RX0 107 "GloveCutters" "pieces" "I") (by decide +kernel)) (fun _ h9 => h9) rfl dX0_digest_58 ?_
                  refine nv_icmp_ge (tgt := 100) hx hb (by omega) (by omega) dX0_digest_61 (by decide) (fun c_3 => ?_) (fun c_3 => ?_)
                  · refine lv_iconst (v := nI 0) hx hb dX0_digest_100 (by decide) ?_
                    refine lv_istore_n (lv' := [(3, .int (nI 0)), (0, .ref (ad 0)), (1, .long dp)]) hx hb dX0_digest_101 rfl hl (by decide) rfl (fun ls hl => ?_)
                    have L102 : ∀ (fu : Nat) (dq : Int64) (q9 : Nat) (H : Heap) (locs : List Loc) (ls : Array Slot), nq - q9 < fu → (q9 ≤ nq) → (dq = dQ F (dP F (dK F (dS (cnT n np nq F) 1087 7) n) np) q9) → va_P D vwCl (wG cI cZ cO ad n np nq F) H → va_S (fun _ => False) s.heap H locs → lv_has ls 5 [(0, .ref (ad 0)), (1, .long dq), (3, .int (nI q9))] → W p l e R s m args below meth c H locs 0 0 Q (F0 m 102 ls []) := by
                      intro fu
                      induction fu with
                      | zero => intro _ _ _ _ _ h; exact absurd h (Nat.not_lt_zero _)
                      | succ fu ih102 =>
                        intro dq q9 H locs ls hm102 gq eq hP  hS hl
                        refine lv_iload_n hx hb dX0_digest_102 rfl (lv_at hl 2 rfl) ?_
                        refine lv_aload_n hx hb dX0_digest_103 rfl (lv_at hl 0 rfl) ?_
                        refine va_get (D := D) (ci := 0) (v := .int (nI nq)) (C := RX0) (T := TX0) (N := 16) hx hb hts hiw hown hK hP 0 g_at0 rfl 9 (by decide) (hts (.fieldLink RX0 136 "GloveCutters" "sewn" "I") (by decide +kernel)) (fun _ h9 => h9) rfl dX0_digest_104 ?_
                        refine nv_icmp_ge (tgt := 146) hx hb (by omega) (by omega) dX0_digest_107 (by decide) (fun c_4 => ?_) (fun c_4 => ?_)
                        · refine lv_lload_n hx hb dX0_digest_146 rfl (lv_at hl 1 rfl) ?_
                          rw [← hQ]
                          exact W.lret (v := dq) hx hb hr (fun t ht hW => ⟨⟨dq, (), rfl, (by rw [eq, show q9 = nq by omega]; rfl), trivial⟩, hS.F ht⟩) hS.2.2 dX0_digest_147
                        · refine lv_iconst (v := nI 0) hx hb dX0_digest_110 (by decide) ?_
                          refine lv_istore (lv' := [(4, .int (nI 0)), (0, .ref (ad 0)), (1, .long dq), (3, .int (nI q9))]) hx hb dX0_digest_111 hl (by decide) rfl (fun ls hl => ?_)
                          have L113 : ∀ (fu : Nat) (dv : Int64) (v9 : Nat) (H : Heap) (locs : List Loc) (ls : Array Slot), 5 - v9 < fu → (v9 ≤ 5) → (dv = dS (prT F q9) dq v9) → va_P D vwCl (wG cI cZ cO ad n np nq F) H → va_S (fun _ => False) s.heap H locs → lv_has ls 5 [(0, .ref (ad 0)), (1, .long dv), (3, .int (nI q9)), (4, .int (nI v9))] → W p l e R s m args below meth c H locs 0 0 Q (F0 m 113 ls []) := by
                            intro fu
                            induction fu with
                            | zero => intro _ _ _ _ _ h; exact absurd h (Nat.not_lt_zero _)
                            | succ fu ih113 =>
                              intro dv v9 H locs ls hm113 gv ev hP  hS hl
                              refine lv_iload hx hb dX0_digest_113 (lv_at hl 3 rfl) ?_
                              refine lv_iconst (v := nI 5) hx hb dX0_digest_115 (by decide) ?_
                              refine nv_icmp_ge (tgt := 140) hx hb (by omega) (by omega) dX0_digest_116 (by decide) (fun c_5 => ?_) (fun c_5 => ?_)
                              · refine lv_iinc (k := 2) (v := nI (q9 + 1)) (lv' := [(3, .int (nI (q9 + 1))), (0, .ref (ad 0)), (1, .long dv), (4, .int (nI v9))]) hx hb dX0_digest_140 hl rfl (nI_add q9 1) (by decide) rfl (fun ls hl => ?_)
                                refine lv_goto (tgt := 102) hx hb dX0_digest_143 (by decide) ?_
                                exact ih102 dv (q9 + 1) _ _ _ (by omega) (by omega) (by rw [ev, show v9 = 5 by omega, eq]; rfl) hP hS (lv_sub hl [1, 2, 0] rfl)
                              · refine lv_lload_n hx hb dX0_digest_119 rfl (lv_at hl 1 rfl) ?_
                                refine lv_ldc2 (v := 31) hx hb hown (hts (.constantLong RX0 179 (31)) (by decide +kernel)) dX0_digest_120 ?_
                                refine lv_lmul hx hb dX0_digest_123 ?_
                                refine lv_aload_n hx hb dX0_digest_124 rfl (lv_at hl 0 rfl) ?_
                                refine lv_iload_n hx hb dX0_digest_125 rfl (lv_at hl 2 rfl) ?_
                                refine lv_iload hx hb dX0_digest_126 (lv_at hl 3 rfl) ?_
                                refine va_calli (va_runV (As := [.int (nI q9), .int (nI v9)]) (rest := [.long (dv * 31)]) ⟨hx, hb, hml, hown, hts⟩ (c_X0_tellPair l D cI cZ cO ad n np nq F q9 v9 (by omega) hnq (by omega) hrip) (cwV 2 hts gX0_digest_X0_tellPair rfl rfl rfl (by decide +kernel) ⟨Nat.le_trans (Nat.le_of_ble_eq_true rfl) hRf, Nat.le_trans (Nat.le_of_ble_eq_true rfl) hRl⟩) (pr_V hP (ci := 0) (q0 := 0) rfl g_at0 rfl hP hK [0, 1, 2] rfl V0_at V0_c) rfl rfl hl.1 rfl (lv_room (Nat.le_of_ble_eq_true rfl)) dX0_digest_128 ⟨Nat.le_trans (Nat.le_of_ble_eq_true rfl) hRc, Nat.le_trans (Nat.le_of_ble_eq_true rfl) hRs⟩) hS (fun _ _ h => h.elim) (fun _ h => h.elim) (fun r_6 _ t H1 locs ht hvm hw_6 hB hz hk hS => ?_)
                                have hP := P_kept hP hk
                                obtain rfl := hw_6
                                refine lv_i2l hx hb dX0_digest_131 rfl ?_
                                refine lv_ladd hx hb dX0_digest_132 ?_
                                refine lv_lstore_n (lv' := [(1, .long ((dv * 31) + ((prT F q9 v9).toInt64))), (0, .ref (ad 0)), (3, .int (nI q9)), (4, .int (nI v9))]) hx hb dX0_digest_133 rfl hl (by decide) rfl (fun ls hl => ?_)
                                refine lv_iinc (k := 3) (v := nI (v9 + 1)) (lv' := [(4, .int (nI (v9 + 1))), (1, .long ((dv * 31) + ((prT F q9 v9).toInt64))), (0, .ref (ad 0)), (3, .int (nI q9))]) hx hb dX0_digest_134 hl rfl (nI_add v9 1) (by decide) rfl (fun ls hl => ?_)
                                refine lv_goto (tgt := 113) hx hb dX0_digest_137 (by decide) ?_
                                exact ih113 ((dv * 31) + ((prT F q9 v9).toInt64)) (v9 + 1) _ _ _ (by omega) (by omega) (by rw [ev]; rfl) hP hS (lv_sub hl [2, 1, 3, 0] rfl)
                          exact L113 _ dq 0 _ _ _ (Nat.lt_succ_self _) (by omega) rfl hP hS (lv_sub hl [1, 2, 3, 0] rfl)
                    exact L102 _ dp 0 _ _ _ (Nat.lt_succ_self _) (by omega) (by rw [ep, show p9 = np by omega]; rfl) hP hS (lv_sub hl [1, 2, 0] rfl)
                  · refine lv_iconst (v := nI 0) hx hb dX0_digest_64 (by decide) ?_
                    refine lv_istore (lv' := [(4, .int (nI 0)), (0, .ref (ad 0)), (1, .long dp), (3, .int (nI p9))]) hx hb dX0_digest_65 hl (by decide) rfl (fun ls hl => ?_)
                    have L67 : ∀ (fu : Nat) (du : Int64) (u9 : Nat) (H : Heap) (locs : List Loc) (ls : Array Slot), 4 - u9 < fu → (u9 ≤ 4) → (du = dS (pcT F p9) dp u9) → va_P D vwCl (wG cI cZ cO ad n np nq F) H → va_S (fun _ => False) s.heap H locs → lv_has ls 5 [(0, .ref (ad 0)), (1, .long du), (3, .int (nI p9)), (4, .int (nI u9))] → W p l e R s m args below meth c H locs 0 0 Q (F0 m 67 ls []) := by
                      intro fu
                      induction fu with
                      | zero => intro _ _ _ _ _ h; exact absurd h (Nat.not_lt_zero _)
                      | succ fu ih67 =>
                        intro du u9 H locs ls hm67 gu eu hP  hS hl
                        refine lv_iload hx hb dX0_digest_67 (lv_at hl 3 rfl) ?_
                        refine lv_iconst (v := nI 4) hx hb dX0_digest_69 (by decide) ?_
                        refine nv_icmp_ge (tgt := 94) hx hb (by omega) (by omega) dX0_digest_70 (by decide) (fun c_7 => ?_) (fun c_7 => ?_)
                        · refine lv_iinc (k := 2) (v := nI (p9 + 1)) (lv' := [(3, .int (nI (p9 + 1))), (0, .ref (ad 0)), (1, .long du), (4, .int (nI u9))]) hx hb dX0_digest_94 hl rfl (nI_add p9 1) (by decide) rfl (fun ls hl => ?_)
                          refine lv_goto (tgt := 56) hx hb dX0_digest_97 (by decide) ?_
                          exact ih56 du (p9 + 1) _ _ _ (by omega) (by omega) (by rw [eu, show u9 = 4 by omega, ep]; rfl) hP hS (lv_sub hl [1, 2, 0] rfl)
                        · refine lv_lload_n hx hb dX0_digest_73 rfl (lv_at hl 1 rfl) ?_
                          refine lv_ldc2 (v := 31) hx hb hown (hts (.constantLong RX0 179 (31)) (by decide +kernel)) dX0_digest_74 ?_
                          refine lv_lmul hx hb dX0_digest_77 ?_
                          refine lv_aload_n hx hb dX0_digest_78 rfl (lv_at hl 0 rfl) ?_
                          refine lv_iload_n hx hb dX0_digest_79 rfl (lv_at hl 2 rfl) ?_
                          refine lv_iload hx hb dX0_digest_80 (lv_at hl 3 rfl) ?_
                          refine va_calli (va_runV (As := [.int (nI p9), .int (nI u9)]) (rest := [.long (du * 31)]) ⟨hx, hb, hml, hown, hts⟩ (c_X0_tellPiece l D cI cZ cO ad n np nq F p9 u9 (by omega) hnp (by omega)) (cwV 2 hts gX0_digest_X0_tellPiece rfl rfl rfl (by decide +kernel) ⟨Nat.le_trans (Nat.le_of_ble_eq_true rfl) hRf, Nat.le_trans (Nat.le_of_ble_eq_true rfl) hRl⟩) (pr_V hP (ci := 0) (q0 := 0) rfl g_at0 rfl hP hK [0, 1, 2] rfl V0_at V0_c) rfl rfl hl.1 rfl (lv_room (Nat.le_of_ble_eq_true rfl)) dX0_digest_82 ⟨Nat.le_trans (Nat.le_of_ble_eq_true rfl) hRc, Nat.le_trans (Nat.le_of_ble_eq_true rfl) hRs⟩) hS (fun _ _ h => h.elim) (fun _ h => h.elim) (fun r_8 _ t H1 locs ht hvm hw_8 hB hz hk hS => ?_)
                          have hP := P_kept hP hk
                          obtain rfl := hw_8
                          refine lv_i2l hx hb dX0_digest_85 rfl ?_
                          refine lv_ladd hx hb dX0_digest_86 ?_
                          refine lv_lstore_n (lv' := [(1, .long ((du * 31) + ((pcT F p9 u9).toInt64))), (0, .ref (ad 0)), (3, .int (nI p9)), (4, .int (nI u9))]) hx hb dX0_digest_87 rfl hl (by decide) rfl (fun ls hl => ?_)
                          refine lv_iinc (k := 3) (v := nI (u9 + 1)) (lv' := [(4, .int (nI (u9 + 1))), (1, .long ((du * 31) + ((pcT F p9 u9).toInt64))), (0, .ref (ad 0)), (3, .int (nI p9))]) hx hb dX0_digest_88 hl rfl (nI_add u9 1) (by decide) rfl (fun ls hl => ?_)
                          refine lv_goto (tgt := 67) hx hb dX0_digest_91 (by decide) ?_
                          exact ih67 ((du * 31) + ((pcT F p9 u9).toInt64)) (u9 + 1) _ _ _ (by omega) (by omega) (by rw [eu]; rfl) hP hS (lv_sub hl [2, 1, 3, 0] rfl)
                    exact L67 _ dp 0 _ _ _ (Nat.lt_succ_self _) (by omega) rfl hP hS (lv_sub hl [1, 2, 3, 0] rfl)
              exact L56 _ db 0 _ _ _ (Nat.lt_succ_self _) (by omega) (by rw [eb, show b9 = n by omega]; rfl) hP hS (lv_sub hl [1, 2, 0] rfl)
            · refine lv_aload_n hx hb dX0_digest_41 rfl (lv_at hl 0 rfl) ?_
              refine lv_lload_n hx hb dX0_digest_42 rfl (lv_at hl 1 rfl) ?_
              refine lv_iload_n hx hb dX0_digest_43 rfl (lv_at hl 2 rfl) ?_
              refine va_calll (va_runV (As := [.long db, .int (nI b9)]) (rest := []) ⟨hx, hb, hml, hown, hts⟩ (c_X0_digestSkin l D cI cZ cO ad n np nq F db b9 (by omega)) (cwV 2 hts gX0_digest_X0_digestSkin rfl rfl rfl (by decide +kernel) ⟨Nat.le_trans (Nat.le_of_ble_eq_true rfl) hRf, Nat.le_trans (Nat.le_of_ble_eq_true rfl) hRl⟩) (pr_V hP (ci := 0) (q0 := 0) rfl g_at0 rfl hP hK [0, 1, 2] rfl V0_at V0_c) rfl rfl hl.1 rfl (lv_room (Nat.le_of_ble_eq_true rfl)) dX0_digest_44 ⟨Nat.le_trans (Nat.le_of_ble_eq_true rfl) hRc, Nat.le_trans (Nat.le_of_ble_eq_true rfl) hRs⟩) hS (fun _ _ h => h.elim) (fun _ h => h.elim) (fun r_9 _ t H1 locs ht hvm hw_9 hB hz hk hS => ?_)
              have hP := P_kept hP hk
              obtain rfl := hw_9
              refine lv_lstore_n (lv' := [(1, .long (dS (F (14 + b9)) (dS (skT F b9) db 6) 96)), (0, .ref (ad 0)), (3, .int (nI b9))]) hx hb dX0_digest_47 rfl hl (by decide) rfl (fun ls hl => ?_)
              refine lv_iinc (k := 2) (v := nI (b9 + 1)) (lv' := [(3, .int (nI (b9 + 1))), (1, .long (dS (F (14 + b9)) (dS (skT F b9) db 6) 96)), (0, .ref (ad 0))]) hx hb dX0_digest_48 hl rfl (nI_add b9 1) (by decide) rfl (fun ls hl => ?_)
              refine lv_goto (tgt := 33) hx hb dX0_digest_51 (by decide) ?_
              exact ih33 (dS (F (14 + b9)) (dS (skT F b9) db 6) 96) (b9 + 1) _ _ _ (by omega) (by omega) (by rw [eb]; rfl) hP hS (lv_sub hl [2, 1, 0] rfl)
        exact L33 _ da 0 _ _ _ (Nat.lt_succ_self _) (by omega) (by rw [ea, show a9 = 7 by omega]; rfl) hP hS (lv_sub hl [1, 2, 0] rfl)
      · refine lv_lload_n hx hb dX0_digest_12 rfl (lv_at hl 1 rfl) ?_
        refine lv_ldc2 (v := 31) hx hb hown (hts (.constantLong RX0 179 (31)) (by decide +kernel)) dX0_digest_13 ?_
        refine lv_lmul hx hb dX0_digest_16 ?_
        refine lv_aload_n hx hb dX0_digest_17 rfl (lv_at hl 0 rfl) ?_
        refine lv_iload_n hx hb dX0_digest_18 rfl (lv_at hl 2 rfl) ?_
        refine va_calli (va_runV (As := [.int (nI a9)]) (rest := [.long (da * 31)]) ⟨hx, hb, hml, hown, hts⟩ (c_X0_tellCount l D cI cZ cO ad n np nq F a9 hnp hnq (by omega)) (cwV 1 hts gX0_digest_X0_tellCount rfl rfl rfl (by decide +kernel) ⟨Nat.le_trans (Nat.le_of_ble_eq_true rfl) hRf, Nat.le_trans (Nat.le_of_ble_eq_true rfl) hRl⟩) (pr_V hP (ci := 0) (q0 := 0) rfl g_at0 rfl hP hK [0, 1, 2] rfl V0_at V0_c) rfl rfl hl.1 rfl (lv_room (Nat.le_of_ble_eq_true rfl)) dX0_digest_19 ⟨Nat.le_trans (Nat.le_of_ble_eq_true rfl) hRc, Nat.le_trans (Nat.le_of_ble_eq_true rfl) hRs⟩) hS (fun _ _ h => h.elim) (fun _ h => h.elim) (fun r_10 _ t H1 locs ht hvm hw_10 hB hz hk hS => ?_)
        have hP := P_kept hP hk
        obtain rfl := hw_10
        refine lv_i2l hx hb dX0_digest_22 rfl ?_
        refine lv_ladd hx hb dX0_digest_23 ?_
        refine lv_lstore_n (lv' := [(1, .long ((da * 31) + ((cnT n np nq F a9).toInt64))), (0, .ref (ad 0)), (3, .int (nI a9))]) hx hb dX0_digest_24 rfl hl (by decide) rfl (fun ls hl => ?_)
        refine lv_iinc (k := 2) (v := nI (a9 + 1)) (lv' := [(3, .int (nI (a9 + 1))), (1, .long ((da * 31) + ((cnT n np nq F a9).toInt64))), (0, .ref (ad 0))]) hx hb dX0_digest_25 hl rfl (nI_add a9 1) (by decide) rfl (fun ls hl => ?_)
        refine lv_goto (tgt := 6) hx hb dX0_digest_28 (by decide) ?_
        exact ih6 ((da * 31) + ((cnT n np nq F a9).toInt64)) (a9 + 1) _ _ _ (by omega) (by omega) (by rw [ea]; rfl) hP hS (lv_sub hl [2, 1, 0] rfl)
  exact L6 _ 1087 0 _ _ _ (Nat.lt_succ_self _) (by omega) rfl hP hS (lv_sub hl [2, 1, 0] rfl)
