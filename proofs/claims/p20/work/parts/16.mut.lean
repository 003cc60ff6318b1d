set_option maxHeartbeats 4000000 in
set_option maxRecDepth 100000 in
/-- lay -/
theorem c_X0_lay (l : Launch) (hst : l.stackTraces = false) (D : va_G) (cI cZ cO : ClassId) (ad : Nat → Nat) (n np nq : Nat) (F : Nat → Nat → Int32) (c0 : Int32) (hinj : inj ad 23) (hn : n ≤ 10) : vx_Met l yX0_lay wsX0_lay ({ frames := 7, cells := 2, slots := 12, locals := 102 } : Room) (va_Pc [.ref (ad 0), .int c0] (Pr D (gT cI cZ cO) (wG cI cZ cO ad n np nq F) (EnvG (inA ad 23)))) (va_Qi (S := Unit) (fun (r : Int32) (_ : Unit) => spLay n c0 = (0, r)) (fun (_ : Unit) (t : State) => va_P D vwCl (wG cI cZ cO ad (n + 1) np nq (layF F n c0)) t.heap) (inA ad 23)) (vx_X (S := Unit) (fun _ => True) (fun E (_ : Unit) (_ : State) => (E = nA ∧ spLay n c0 = (1, 0)) ∨ (E = nS ∧ spLay n c0 = (2, 0))) (fun _ => False)) 2 12 (inA ad 23) := by
  refine vx_ofW (cc := cX0_lay) (maxL := 2) (ret := (some .int)) (by decide) rfl ?_
  intro p e s m args below meth c s₁ B hml htab hv
  obtain ⟨hargs, hP, hK, hV⟩ := hv
  have hx := B.exec
  have hb := B.bytes
  have hr := B.returns
  have hts := atoms_spec (ws := wsX0_lay) B.pre
  have hown : s.vm.findClass RX0 = some m.cls := findClass_of_methodNamed B.named
  have hlocks := B.notSynchronized
  have hS : va_S (fun _ => False) s.heap s.heap [] := va_S.rf
  have hV0 : EnvG (fun _ => False) s := EnvG.nar hV sub_no
  have hiw : ∀ w ∈ wsX00, w ∈ wsX0_lay := (fun _ h => List.mem_cons_of_mem _ (List.mem_append_left _ (List.mem_append_left _ (List.mem_append_right _ h))))
  have hRf : 7 ≤ (headSpec wsX0_lay ({ frames := 7, cells := 2, slots := 12, locals := 102 } : Room)).room.frames := Nat.le_refl _
  have hRl : 102 ≤ (headSpec wsX0_lay ({ frames := 7, cells := 2, slots := 12, locals := 102 } : Room)).room.locals := Nat.le_refl _
  have hRc : 2 ≤ (headSpec wsX0_lay ({ frames := 7, cells := 2, slots := 12, locals := 102 } : Room)).room.cells := Nat.le_refl _
  have hRs : 12 ≤ (headSpec wsX0_lay ({ frames := 7, cells := 2, slots := 12, locals := 102 } : Room)).room.slots := Nat.le_refl _
  generalize (headSpec wsX0_lay ({ frames := 7, cells := 2, slots := 12, locals := 102 } : Room)).room = R at hRf hRl hRc hRs ⊢
  have hl := lv_entry [.ref (ad 0), .int c0] (n := 2) (Nat.le_of_ble_eq_true rfl)
  refine W.eq (show entryFrame m args 2 = _ from by rw [hargs, lg_entry_eq]) ?_
  generalize (lg_sl [.ref (ad 0), .int c0] ++ List.replicate (2 - (lg_sl [.ref (ad 0), .int c0]).length) Slot.unset).toArray = ls at hl ⊢
  have hl : lv_has ls 2 [(0, .ref (ad 0)), (1, .int c0)] := hl
  have hD : va_D (inA ad 23) (wG cI cZ cO ad n np nq F) := g_D hinj
  generalize hQ : vx_MQ _ _ _ _ _ _ _ _ = Q
  refine lv_iload_n hx hb dX0_lay_0 rfl (lv_at hl 1 rfl) ?_
  refine vx_callv (vx_runS (As := [.int c0]) (rest := []) ⟨hx, hb, hml, hown, hts⟩ (c_X0_needColour l hst D c0 ) (va_cwS 1 hts gX0_lay_X0_needColour rfl rfl rfl (by decide +kernel) ⟨Nat.le_trans (Nat.le_of_ble_eq_true rfl) hRf, Nat.le_trans (Nat.le_of_ble_eq_true rfl) hRl⟩) (pr_S (P_nil) hK [] rfl (hV0.at hS sub_id sub_id) EnvG_c) rfl rfl hl.1 rfl (lv_room (Nat.le_of_ble_eq_true rfl)) dX0_lay_1 ⟨Nat.le_trans (Nat.le_of_ble_eq_true rfl) hRc, Nat.le_trans (Nat.le_of_ble_eq_true rfl) hRs⟩) hS (fun _ _ h => h.elim) (fun _ h => h.elim) (fun _ _ h => h.elim) (fun E ce q9 _ t H1 locs ht hvm hpx hbx _ hk hS hce hcv hcl => ?_) (fun _ t H1 locs ht hvm hw_1 hB hz hk hS => ?_)
  · rw [← hQ]
    exact vx_out (fun x hx9 => (htab x hx9).elim) hlocks hce hcv hcl (fun t ht hal => ⟨(), trivial, Or.inl ⟨hbx.1, by unfold spLay; rw [hbx.2]; rfl⟩, hS.F ht⟩) (fun z hz => (hS.2.2 z hz).elim) (by omega) (by omega)
  have hP := P_kept hP hk
  have hc9 := hw_1
  refine lv_aload_n hx hb dX0_lay_4 rfl (lv_at hl 0 rfl) ?_
  refine va_get (D := D) (ci := 0) (v := .int (nI n)) (C := RX0) (T := TX0) (N := 16) hx hb hts hiw hown hK hP 0 g_at0 rfl 0 (by decide) (hts (.fieldLink RX0 56 "GloveCutters" "skins" "I") (by decide +kernel)) (fun _ h9 => h9) rfl dX0_lay_5 ?_
  refine lv_bipush (v := nI 10) hx hb dX0_lay_8 (by decide) ?_
  refine nv_icmp_lt (tgt := 23) hx hb (by omega) (by omega) dX0_lay_10 (by decide) (fun c_2 => ?_) (fun c_2 => ?_)
  · refine lv_aload_n hx hb dX0_lay_23 rfl (lv_at hl 0 rfl) ?_
    refine va_get (D := D) (ci := 0) (v := .ref (ad 1)) (C := RX0) (T := TX0) (N := 16) hx hb hts hiw hown hK hP 0 g_at0 rfl 1 (by decide) (hts (.fieldLink RX0 9 "GloveCutters" "skinColour" "[I") (by decide +kernel)) (fun _ h9 => h9) rfl dX0_lay_24 ?_
    refine lv_aload_n hx hb dX0_lay_27 rfl (lv_at hl 0 rfl) ?_
    refine va_get (D := D) (ci := 0) (v := .int (nI n)) (C := RX0) (T := TX0) (N := 16) hx hb hts hiw hown hK hP 0 g_at0 rfl 0 (by decide) (hts (.fieldLink RX0 56 "GloveCutters" "skins" "I") (by decide +kernel)) (fun _ h9 => h9) rfl dX0_lay_28 ?_
    refine lv_iload_n hx hb dX0_lay_31 rfl (lv_at hl 1 rfl) ?_
    have hS : va_S (inA ad 23) s.heap _ _ := S_mono hS
    refine nv_iast hx hb hK hP hD hS 1 0 g_at1 rfl (by omega) (by omega) dX0_lay_32 (fun H locs hP hD hS => ?_)
    rw [g_set1] at hP hD
    obtain ⟨F_3, eF_3⟩ : ∃ z, z = va_up F 1 (upd (F 1) n c0) := ⟨_, rfl⟩
    rw [← eF_3] at hP hD
    refine lv_aload_n hx hb dX0_lay_33 rfl (lv_at hl 0 rfl) ?_
    refine lv_dup hx hb dX0_lay_34 rfl ?_
    refine va_get (D := D) (ci := 0) (v := .int (nI n)) (C := RX0) (T := TX0) (N := 16) hx hb hts hiw hown hK hP 0 g_at0 rfl 0 (by decide) (hts (.fieldLink RX0 56 "GloveCutters" "skins" "I") (by decide +kernel)) (fun _ h9 => h9) rfl dX0_lay_35 ?_
    refine lv_iconst (v := nI 1) hx hb dX0_lay_38 (by decide) ?_
    refine nv_iadd hx hb dX0_lay_39 ?_
    refine va_put (D := D) (ci := 0) (v := .int (nI (n + 1))) (ty := .int) (C := RX0) (T := TX0) (N := 16) hx hb hts hiw tyX0 tyX0_ok nmX0 hown hK hP hD hS 0 g_at0 rfl 0 (by decide) (hts (.fieldLink RX0 56 "GloveCutters" "skins" "I") (by decide +kernel)) (fun _ h9 => h9) rfl (by decide +kernel) rfl rfl (Nat.le_of_ble_eq_true rfl) dX0_lay_40 (fun H locs hP hD hS => ?_)
    have hP : va_P D vwCl (wG cI cZ cO ad (n + 1) np nq F_3) H := hP
    have hD : va_D (inA ad 23) (wG cI cZ cO ad (n + 1) np nq F_3) := hD
    refine lv_aload_n hx hb dX0_lay_43 rfl (lv_at hl 0 rfl) ?_
    refine va_get (D := D) (ci := 0) (v := .int (nI (n + 1))) (C := RX0) (T := TX0) (N := 16) hx hb hts hiw hown hK hP 0 g_at0 rfl 0 (by decide) (hts (.fieldLink RX0 56 "GloveCutters" "skins" "I") (by decide +kernel)) (fun _ h9 => h9) rfl dX0_lay_44 ?_
    refine lv_iconst (v := nI 1) hx hb dX0_lay_47 (by decide) ?_
    refine nv_isub hx hb (by omega) dX0_lay_48 ?_
    rw [← hQ]
    refine vx_ret ?_
    refine W.widen (k := 2) (n := 12) (by omega) (by omega) ?_
    exact W.iret (v := nI ((n + 1) - 1)) hx hb hr (fun t ht hW => ⟨⟨nI ((n + 1) - 1), (), rfl, (by show spLay n c0 = (0, nI (n + 1 - 1)); rw [show n + 1 - 1 = n by omega]; unfold spLay; rw [hc9, if_pos rfl, if_pos c_2]), (by show va_P D vwCl (wG cI cZ cO ad (n + 1) np nq (layF F n c0)) t.heap; rw [ht]; subst eF_3; exact hP)⟩, hS.F ht⟩) hS.2.2 dX0_lay_49
  · obtain ⟨sa9, hsa9⟩ := hV0.2.2.2.2.2.1.2.1
    rw [← hQ]
    exact vx_throwS (names := ["java/lang/RuntimeException", "java/lang/Exception"]) hx hb hst hown (by decide +kernel) (by decide +kernel) (hts (.classLink RX0 60 "java/lang/IllegalStateException") (by decide +kernel)) (hts (.initialized "java/lang/IllegalStateException") (by decide +kernel)) hsa9 (at_S (fun w h9 => hts w ((fun _ h => List.mem_cons_of_mem _ (List.mem_append_left _ (List.mem_append_right _ h))) w h9)) hV0.2.2.2.2.2.2) gd_S hV0.2.2.2.2.1.1 hV0.2.2.2.2.1.2 hS (hl.1.trans hml.symm) dX0_lay_13 dX0_lay_16 dX0_lay_17 dX0_lay_19 dX0_lay_22 (fun x hx9 => (htab x hx9).elim) (Nat.lt_of_lt_of_le (Nat.le_of_ble_eq_true rfl) hRf) (Nat.le_trans (Nat.le_of_ble_eq_true rfl) hRl) (Nat.le_trans (Nat.le_of_ble_eq_true rfl) hRc) (Nat.le_trans (Nat.le_of_ble_eq_true rfl) hRs) hlocks (fun t9 _ hs9 hq9 => x_thr hS trivial (Or.inr ⟨rfl, by unfold spLay; rw [hc9, if_pos rfl, if_neg (by omega)]⟩) hs9 hq9) (fun z hz => (hS.2.2 z hz).elim) (by omega) (by omega)
set_option maxHeartbeats 4000000 in
set_option maxRecDepth 100000 in
/-- mark -/
theorem c_X0_mark (l : Launch) (hst : l.stackTraces = false) (D : va_G) (cI cZ cO : ClassId) (ad : Nat → Nat) (n np nq : Nat) (F : Nat → Nat → Int32) (s0 x0 y0 w0 h0 v0 : Int32) (hinj : inj ad 23) (hn : n ≤ 10) : vx_Met l yX0_mark wsX0_mark ({ frames := 7, cells := 5, slots := 30, locals := 103 } : Room) (va_Pc [.ref (ad 0), .int s0, .int x0, .int y0, .int w0, .int h0, .int v0] (Pr D (gT cI cZ cO) (wG cI cZ cO ad n np nq F) (EnvG (inA ad 23)))) (va_Qi (S := Unit) (fun (r : Int32) (_ : Unit) => spMark n F s0 x0 y0 w0 h0 v0 = (0, r)) (fun (_ : Unit) (t : State) => va_P D vwCl (wG cI cZ cO ad n np nq (stMark F s0 x0 y0 w0 h0 v0)) t.heap) (inA ad 23)) (vx_X (S := Unit) (fun _ => True) (fun E (_ : Unit) (_ : State) => (E = nX ∧ spMark n F s0 x0 y0 w0 h0 v0 = (1, 0)) ∨ (E = nA ∧ spMark n F s0 x0 y0 w0 h0 v0 = (2, 0)) ∨ (E = nS ∧ spMark n F s0 x0 y0 w0 h0 v0 = (3, 0))) (fun _ => False)) 5 30 (inA ad 23) := by
  refine vx_ofW (cc := cX0_mark) (maxL := 9) (ret := (some .int)) (by decide) rfl ?_
  intro p e s m args below meth c s₁ B hml htab hv
  obtain ⟨hargs, hP, hK, hV⟩ := hv
  have hx := B.exec
  have hb := B.bytes
  have hr := B.returns
  have hts := atoms_spec (ws := wsX0_mark) B.pre
  have hown : s.vm.findClass RX0 = some m.cls := findClass_of_methodNamed B.named
  have hlocks := B.notSynchronized
  have hS : va_S (fun _ => False) s.heap s.heap [] := va_S.rf
  have hV0 : EnvG (fun _ => False) s := EnvG.nar hV sub_no
  have hiw : ∀ w ∈ wsX00, w ∈ wsX0_mark := (fun _ h => List.mem_cons_of_mem _ (List.mem_append_left _ (List.mem_append_left _ (List.mem_append_left _ (List.mem_append_right _ h)))))
  have hRf : 7 ≤ (headSpec wsX0_mark ({ frames := 7, cells := 5, slots := 30, locals := 103 } : Room)).room.frames := Nat.le_refl _
  have hRl : 103 ≤ (headSpec wsX0_mark ({ frames := 7, cells := 5, slots := 30, locals := 103 } : Room)).room.locals := Nat.le_refl _
  have hRc : 5 ≤ (headSpec wsX0_mark ({ frames := 7, cells := 5, slots := 30, locals := 103 } : Room)).room.cells := Nat.le_refl _
  have hRs : 30 ≤ (headSpec wsX0_mark ({ frames := 7, cells := 5, slots := 30, locals := 103 } : Room)).room.slots := Nat.le_refl _
  generalize (headSpec wsX0_mark ({ frames := 7, cells := 5, slots := 30, locals := 103 } : Room)).room = R at hRf hRl hRc hRs ⊢
  have hl := lv_entry [.ref (ad 0), .int s0, .int x0, .int y0, .int w0, .int h0, .int v0] (n := 9) (Nat.le_of_ble_eq_true rfl)
  refine W.eq (show entryFrame m args 9 = _ from by rw [hargs, lg_entry_eq]) ?_
  generalize (lg_sl [.ref (ad 0), .int s0, .int x0, .int y0, .int w0, .int h0, .int v0] ++ List.replicate (9 - (lg_sl [.ref (ad 0), .int s0, .int x0, .int y0, .int w0, .int h0, .int v0]).length) Slot.unset).toArray = ls at hl ⊢
  have hl : lv_has ls 9 [(0, .ref (ad 0)), (1, .int s0), (2, .int x0), (3, .int y0), (4, .int w0), (5, .int h0), (6, .int v0)] := hl
  have hD : va_D (inA ad 23) (wG cI cZ cO ad n np nq F) := g_D hinj
  generalize hQ : vx_MQ _ _ _ _ _ _ _ _ = Q
  refine lv_aload_n hx hb dX0_mark_0 rfl (lv_at hl 0 rfl) ?_
  refine lv_iload_n hx hb dX0_mark_1 rfl (lv_at hl 1 rfl) ?_
  refine vx_callv (vx_runV (As := [.int s0]) (rest := []) ⟨hx, hb, hml, hown, hts⟩ (c_X0_needSkin l hst D cI cZ cO ad n np nq F s0 hn) (cwV 1 hts gX0_mark_X0_needSkin rfl rfl rfl (by decide +kernel) ⟨Nat.le_trans (Nat.le_of_ble_eq_true rfl) hRf, Nat.le_trans (Nat.le_of_ble_eq_true rfl) hRl⟩) (pr_V hP (ci := 0) (q0 := 0) rfl g_at0 rfl hP hK [0, 1, 2] rfl (hV0.at hS sub_id sub_id) EnvG_c) rfl rfl hl.1 rfl (lv_room (Nat.le_of_ble_eq_true rfl)) dX0_mark_2 ⟨Nat.le_trans (Nat.le_of_ble_eq_true rfl) hRc, Nat.le_trans (Nat.le_of_ble_eq_true rfl) hRs⟩) hS (fun _ _ h => h.elim) (fun _ h => h.elim) (fun _ _ h => h.elim) (fun E ce q9 _ t H1 locs ht hvm hpx hbx _ hk hS hce hcv hcl => ?_) (fun _ t H1 locs ht hvm hw_1 hB hz hk hS => ?_)
  · rw [← hQ]
    exact vx_out (fun x hx9 => (htab x hx9).elim) hlocks hce hcv hcl (fun t ht hal => ⟨(), trivial, Or.inl ⟨hbx.1, by unfold spMark; rw [hbx.2]; rfl⟩, hS.F ht⟩) (fun z hz => (hS.2.2 z hz).elim) (by omega) (by omega)
  have hP := P_kept hP hk
  obtain ⟨j, hj, rfl⟩ := inR_t (by omega) hw_1
  refine lv_iload_n hx hb dX0_mark_5 rfl (lv_at hl 2 rfl) ?_
  refine lv_iload_n hx hb dX0_mark_6 rfl (lv_at hl 3 rfl) ?_
  refine vx_callv (vx_runS (As := [.int x0, .int y0]) (rest := []) ⟨hx, hb, hml, hown, hts⟩ (c_X0_needCell l hst D x0 y0 ) (va_cwS 2 hts gX0_mark_X0_needCell rfl rfl rfl (by decide +kernel) ⟨Nat.le_trans (Nat.le_of_ble_eq_true rfl) hRf, Nat.le_trans (Nat.le_of_ble_eq_true rfl) hRl⟩) (pr_S (P_nil) hK [] rfl (hV0.at hS sub_id sub_id) EnvG_c) rfl rfl hl.1 rfl (lv_room (Nat.le_of_ble_eq_true rfl)) dX0_mark_7 ⟨Nat.le_trans (Nat.le_of_ble_eq_true rfl) hRc, Nat.le_trans (Nat.le_of_ble_eq_true rfl) hRs⟩) hS (fun _ _ h => h.elim) (fun _ h => h.elim) (fun _ _ h => h.elim) (fun E ce q9 _ t H1 locs ht hvm hpx hbx _ hk hS hce hcv hcl => ?_) (fun _ t H1 locs ht hvm hw_2 hB hz hk hS => ?_)
  · rw [← hQ]
    exact vx_out (fun x hx9 => (htab x hx9).elim) hlocks hce hcv hcl (fun t ht hal => ⟨(), trivial, Or.inl ⟨hbx.1, by unfold spMark; rw [inR_in hj (by omega), hbx.2]; rfl⟩, hS.F ht⟩) (fun z hz => (hS.2.2 z hz).elim) (by omega) (by omega)
  have hP := P_kept hP hk
  obtain ⟨x9, hx9, rfl⟩ := inR_t (by omega) hw_2.1
  obtain ⟨y9, hy9, rfl⟩ := inR_t (by omega) hw_2.2
  refine lv_iload hx hb dX0_mark_10 (lv_at hl 4 rfl) ?_
  refine lv_iconst (v := nI 1) hx hb dX0_mark_12 (by decide) ?_
  refine lv_icmp_lt (tgt := 40) hx hb dX0_mark_13 (by decide) (fun c_3 => ?_) (fun c_3 => ?_)
  · obtain ⟨sa9, hsa9⟩ := hV0.2.2.2.2.2.1.2.2.2.2.1
    rw [← hQ]
    exact vx_throwS (names := ["java/lang/RuntimeException", "java/lang/Exception"]) hx hb hst hown (by decide +kernel) (by decide +kernel) (hts (.classLink RX0 74 "java/lang/IllegalArgumentException") (by decide +kernel)) (hts (.initialized "java/lang/IllegalArgumentException") (by decide +kernel)) hsa9 (at_A (fun w h9 => hts w ((fun _ h => List.mem_cons_of_mem _ (List.mem_append_left _ (List.mem_append_left _ (List.mem_append_right _ h)))) w h9)) hV0.2.2.2.2.2.2) gd_A hV0.2.2.2.2.1.1 hV0.2.2.2.2.1.2 hS (hl.1.trans hml.symm) dX0_mark_40 dX0_mark_43 dX0_mark_44 dX0_mark_46 dX0_mark_49 (fun x hx9 => (htab x hx9).elim) (Nat.lt_of_lt_of_le (Nat.le_of_ble_eq_true rfl) hRf) (Nat.le_trans (Nat.le_of_ble_eq_true rfl) hRl) (Nat.le_trans (Nat.le_of_ble_eq_true rfl) hRc) (Nat.le_trans (Nat.le_of_ble_eq_true rfl) hRs) hlocks (fun t9 _ hs9 hq9 => x_thr hS trivial (Or.inr (Or.inl ⟨rfl, spMark_2 hn hj hx9 hy9 (by rw [inW_lo c_3]; rfl)⟩)) hs9 hq9) (fun z hz => (hS.2.2 z hz).elim) (by omega) (by omega)
  · refine lv_iload hx hb dX0_mark_16 (lv_at hl 4 rfl) ?_
    refine lv_bipush (v := nI 12) hx hb dX0_mark_18 (by decide) ?_
    refine lv_iload_n hx hb dX0_mark_20 rfl (lv_at hl 2 rfl) ?_
    refine nv_isub hx hb (by omega) dX0_mark_21 ?_
    refine lv_icmp_gt (tgt := 40) hx hb dX0_mark_22 (by decide) (fun c_4 => ?_) (fun c_4 => ?_)
    · obtain ⟨sa9, hsa9⟩ := hV0.2.2.2.2.2.1.2.2.2.2.1
      rw [← hQ]
      exact vx_throwS (names := ["java/lang/RuntimeException", "java/lang/Exception"]) hx hb hst hown (by decide +kernel) (by decide +kernel) (hts (.classLink RX0 74 "java/lang/IllegalArgumentException") (by decide +kernel)) (hts (.initialized "java/lang/IllegalArgumentException") (by decide +kernel)) hsa9 (at_A (fun w h9 => hts w ((fun _ h => List.mem_cons_of_mem _ (List.mem_append_left _ (List.mem_append_left _ (List.mem_append_right _ h)))) w h9)) hV0.2.2.2.2.2.2) gd_A hV0.2.2.2.2.1.1 hV0.2.2.2.2.1.2 hS (hl.1.trans hml.symm) dX0_mark_40 dX0_mark_43 dX0_mark_44 dX0_mark_46 dX0_mark_49 (fun x hx9 => (htab x hx9).elim) (Nat.lt_of_lt_of_le (Nat.le_of_ble_eq_true rfl) hRf) (Nat.le_trans (Nat.le_of_ble_eq_true rfl) hRl) (Nat.le_trans (Nat.le_of_ble_eq_true rfl) hRc) (Nat.le_trans (Nat.le_of_ble_eq_true rfl) hRs) hlocks (fun t9 _ hs9 hq9 => x_thr hS trivial (Or.inr (Or.inl ⟨rfl, spMark_2 hn hj hx9 hy9 (by rw [inW_hi (Int32.not_le.mpr c_4)]; rfl)⟩)) hs9 hq9) (fun z hz => (hS.2.2 z hz).elim) (by omega) (by omega)
    · refine lv_iload hx hb dX0_mark_25 (lv_at hl 5 rfl) ?_
      refine lv_iconst (v := nI 1) hx hb dX0_mark_27 (by decide) ?_
      refine lv_icmp_lt (tgt := 40) hx hb dX0_mark_28 (by decide) (fun c_5 => ?_) (fun c_5 => ?_)
      · obtain ⟨sa9, hsa9⟩ := hV0.2.2.2.2.2.1.2.2.2.2.1
        rw [← hQ]
        exact vx_throwS (names := ["java/lang/RuntimeException", "java/lang/Exception"]) hx hb hst hown (by decide +kernel) (by decide +kernel) (hts (.classLink RX0 74 "java/lang/IllegalArgumentException") (by decide +kernel)) (hts (.initialized "java/lang/IllegalArgumentException") (by decide +kernel)) hsa9 (at_A (fun w h9 => hts w ((fun _ h => List.mem_cons_of_mem _ (List.mem_append_left _ (List.mem_append_left _ (List.mem_append_right _ h)))) w h9)) hV0.2.2.2.2.2.2) gd_A hV0.2.2.2.2.1.1 hV0.2.2.2.2.1.2 hS (hl.1.trans hml.symm) dX0_mark_40 dX0_mark_43 dX0_mark_44 dX0_mark_46 dX0_mark_49 (fun x hx9 => (htab x hx9).elim) (Nat.lt_of_lt_of_le (Nat.le_of_ble_eq_true rfl) hRf) (Nat.le_trans (Nat.le_of_ble_eq_true rfl) hRl) (Nat.le_trans (Nat.le_of_ble_eq_true rfl) hRc) (Nat.le_trans (Nat.le_of_ble_eq_true rfl) hRs) hlocks (fun t9 _ hs9 hq9 => x_thr hS trivial (Or.inr (Or.inl ⟨rfl, spMark_2 hn hj hx9 hy9 (by rw [inW_lo c_5, Bool.false_and, Bool.and_false])⟩)) hs9 hq9) (fun z hz => (hS.2.2 z hz).elim) (by omega) (by omega)
      · refine lv_iload hx hb dX0_mark_31 (lv_at hl 5 rfl) ?_
        refine lv_bipush (v := nI 8) hx hb dX0_mark_33 (by decide) ?_
        refine lv_iload_n hx hb dX0_mark_35 rfl (lv_at hl 3 rfl) ?_
        refine nv_isub hx hb (by omega) dX0_mark_36 ?_
        refine lv_icmp_le (tgt := 50) hx hb dX0_mark_37 (by decide) (fun c_6 => ?_) (fun c_6 => ?_)
        · refine lv_iload hx hb dX0_mark_50 (lv_at hl 6 rfl) ?_
          refine lv_if_lt (tgt := 61) hx hb dX0_mark_52 (by decide) (fun c_7 => ?_) (fun c_7 => ?_)
          · obtain ⟨sa9, hsa9⟩ := hV0.2.2.2.2.2.1.2.2.2.2.2.1
            rw [← hQ]
            exact vx_throwS (names := ["java/lang/RuntimeException", "java/lang/Exception"]) hx hb hst hown (by decide +kernel) (by decide +kernel) (hts (.classLink RX0 74 "java/lang/IllegalArgumentException") (by decide +kernel)) (hts (.initialized "java/lang/IllegalArgumentException") (by decide +kernel)) hsa9 (at_A (fun w h9 => hts w ((fun _ h => List.mem_cons_of_mem _ (List.mem_append_left _ (List.mem_append_left _ (List.mem_append_right _ h)))) w h9)) hV0.2.2.2.2.2.2) gd_A hV0.2.2.2.2.1.1 hV0.2.2.2.2.1.2 hS (hl.1.trans hml.symm) dX0_mark_61 dX0_mark_64 dX0_mark_65 dX0_mark_67 dX0_mark_70 (fun x hx9 => (htab x hx9).elim) (Nat.lt_of_lt_of_le (Nat.le_of_ble_eq_true rfl) hRf) (Nat.le_trans (Nat.le_of_ble_eq_true rfl) hRl) (Nat.le_trans (Nat.le_of_ble_eq_true rfl) hRc) (Nat.le_trans (Nat.le_of_ble_eq_true rfl) hRs) hlocks (fun t9 _ hs9 hq9 => x_thr hS trivial (Or.inr (Or.inl ⟨rfl, spMark_2 hn hj hx9 hy9 (by rw [inR_lo c_7, Bool.and_false, Bool.and_false])⟩)) hs9 hq9) (fun z hz => (hS.2.2 z hz).elim) (by omega) (by omega)
          · refine lv_iload hx hb dX0_mark_55 (lv_at hl 6 rfl) ?_
            refine lv_iconst (v := nI 2) hx hb dX0_mark_57 (by decide) ?_
            refine lv_icmp_le (tgt := 71) hx hb dX0_mark_58 (by decide) (fun c_8 => ?_) (fun c_8 => ?_)
            · have hv9 : inR v0 3 = true := inR_y c_7 ((lt_suc (by decide)).mpr c_8)
              obtain ⟨w9, hw9, rfl⟩ := inW_t (n := 12 - x9) (by omega) (inW_y c_3 (Int32.not_lt.mp c_4))
              obtain ⟨h9, hh9, rfl⟩ := inW_t (n := 8 - y9) (by omega) (inW_y c_5 c_6)
              have hwh : w9 * h9 ≤ 96 := Nat.mul_le_mul (show w9 ≤ 12 by omega) (show h9 ≤ 8 by omega)
              refine lv_aload_n hx hb dX0_mark_71 rfl (lv_at hl 0 rfl) ?_
              refine va_get (D := D) (ci := 0) (v := .ref (ad 3)) (C := RX0) (T := TX0) (N := 16) hx hb hts hiw hown hK hP 0 g_at0 rfl 3 (by decide) (hts (.fieldLink RX0 18 "GloveCutters" "skinCells" "[[I") (by decide +kernel)) (fun _ h9 => h9) rfl dX0_mark_72 ?_
              refine lv_iload_n hx hb dX0_mark_75 rfl (lv_at hl 1 rfl) ?_
              refine nv_aald hx hb hK hP 3 2 g_at3 rfl (by omega) (by decide) (if_pos (by omega)) dX0_mark_76 ?_
              refine lv_astore (lv' := [(7, .ref (ad (14 + j))), (0, .ref (ad 0)), (1, .int (nI j)), (2, .int (nI x9)), (3, .int (nI y9)), (4, .int (nI w9)), (5, .int (nI h9)), (6, .int v0)]) hx hb dX0_mark_77 hl (by decide) rfl (fun ls hl => ?_)
              refine lv_aload hx hb dX0_mark_79 (lv_at hl 0 rfl) ?_
              refine lv_iload_n hx hb dX0_mark_81 rfl (lv_at hl 3 rfl) ?_
              refine lv_iload_n hx hb dX0_mark_82 rfl (lv_at hl 4 rfl) ?_
              refine lv_iload hx hb dX0_mark_83 (lv_at hl 5 rfl) ?_
              refine lv_iload hx hb dX0_mark_85 (lv_at hl 6 rfl) ?_
              refine lv_iconst (v := nI 3) hx hb dX0_mark_87 (by decide) ?_
              refine va_calli (va_runS (As := [.ref (ad (14 + j)), .int (nI x9), .int (nI y9), .int (nI w9), .int (nI h9), .int (nI 3)]) (rest := []) ⟨hx, hb, hml, hown, hts⟩ (c_X0_tally l D cI (ad (14 + j)) 96 (F (14 + j)) x9 y9 w9 h9 (nI 3) (by omega) (by omega) (by omega)) (va_cwS 6 hts gX0_mark_X0_tally rfl rfl rfl (by decide +kernel) ⟨Nat.le_trans (Nat.le_of_ble_eq_true rfl) hRf, Nat.le_trans (Nat.le_of_ble_eq_true rfl) hRl⟩) (pr_S (P_pick hP (k := (14 + j)) (g_atr (k := j) (by omega))) hK [0] rfl V0_at V0_c) rfl rfl hl.1 rfl (lv_room (Nat.le_of_ble_eq_true rfl)) dX0_mark_88 ⟨Nat.le_trans (Nat.le_of_ble_eq_true rfl) hRc, Nat.le_trans (Nat.le_of_ble_eq_true rfl) hRs⟩) hS (fun _ _ h => h.elim) (fun _ h => h.elim) (fun r_9 _ t H1 locs ht hvm hw_9 hB hz hk hS => ?_)
              have hP := P_kept hP hk
              obtain rfl := hw_9
              have hb9 := ct_le (F (14 + j)) (12 * y9 + x9) w9 (nI 3) (w9 * h9)
              refine nv_if_le (tgt := 104) hx hb (by omega) dX0_mark_91 (by decide) (fun c_10 => ?_) (fun c_10 => ?_)
              · refine lv_aload hx hb dX0_mark_104 (lv_at hl 0 rfl) ?_
                refine lv_iload_n hx hb dX0_mark_106 rfl (lv_at hl 3 rfl) ?_
                refine lv_iload_n hx hb dX0_mark_107 rfl (lv_at hl 4 rfl) ?_
                refine lv_iload hx hb dX0_mark_108 (lv_at hl 5 rfl) ?_
                refine lv_iload hx hb dX0_mark_110 (lv_at hl 6 rfl) ?_
                refine lv_iload hx hb dX0_mark_112 (lv_at hl 7 rfl) ?_
                refine va_calli (va_runS (As := [.ref (ad (14 + j)), .int (nI x9), .int (nI y9), .int (nI w9), .int (nI h9), .int v0]) (rest := []) ⟨hx, hb, hml, hown, hts⟩ (c_X0_tally l D cI (ad (14 + j)) 96 (F (14 + j)) x9 y9 w9 h9 v0 (by omega) (by omega) (by omega)) (va_cwS 6 hts gX0_mark_X0_tally rfl rfl rfl (by decide +kernel) ⟨Nat.le_trans (Nat.le_of_ble_eq_true rfl) hRf, Nat.le_trans (Nat.le_of_ble_eq_true rfl) hRl⟩) (pr_S (P_pick hP (k := (14 + j)) (g_atr (k := j) (by omega))) hK [0] rfl V0_at V0_c) rfl rfl hl.1 rfl (lv_room (Nat.le_of_ble_eq_true rfl)) dX0_mark_114 ⟨Nat.le_trans (Nat.le_of_ble_eq_true rfl) hRc, Nat.le_trans (Nat.le_of_ble_eq_true rfl) hRs⟩) hS (fun _ _ h => h.elim) (fun _ h => h.elim) (fun r_11 _ t H1 locs ht hvm hw_11 hB hz hk hS => ?_)
                have hP := P_kept hP hk
                obtain rfl := hw_11
                have hb8 := ct_le (F (14 + j)) (12 * y9 + x9) w9 v0 (w9 * h9)
                refine lv_istore (lv' := [(8, .int (nI (ct (F (14 + j)) (12 * y9 + x9) w9 v0 (w9 * h9)))), (7, .ref (ad (14 + j))), (0, .ref (ad 0)), (1, .int (nI j)), (2, .int (nI x9)), (3, .int (nI y9)), (4, .int (nI w9)), (5, .int (nI h9)), (6, .int v0)]) hx hb dX0_mark_117 hl (by decide) rfl (fun ls hl => ?_)
                refine lv_aload hx hb dX0_mark_119 (lv_at hl 1 rfl) ?_
                refine lv_iload_n hx hb dX0_mark_121 rfl (lv_at hl 4 rfl) ?_
                refine lv_iload_n hx hb dX0_mark_122 rfl (lv_at hl 5 rfl) ?_
                refine lv_iload hx hb dX0_mark_123 (lv_at hl 6 rfl) ?_
                refine lv_iload hx hb dX0_mark_125 (lv_at hl 7 rfl) ?_
                refine lv_iload hx hb dX0_mark_127 (lv_at hl 8 rfl) ?_
                have hS : va_S (inA ad 23) s.heap _ _ := S_mono hS
                refine va_callv (va_runS (As := [.ref (ad (14 + j)), .int (nI x9), .int (nI y9), .int (nI w9), .int (nI h9), .int v0]) (rest := []) ⟨hx, hb, hml, hown, hts⟩ (c_X0_paint l D cI (ad (14 + j)) 96 (F (14 + j)) x9 y9 w9 h9 v0 (by omega) (by omega) (by omega)) (va_cwS 6 hts gX0_mark_X0_paint rfl rfl rfl (by decide +kernel) ⟨Nat.le_trans (Nat.le_of_ble_eq_true rfl) hRf, Nat.le_trans (Nat.le_of_ble_eq_true rfl) hRl⟩) (pr_S (P_pick hP (k := (14 + j)) (g_atr (k := j) (by omega))) hK [0] rfl V0_at V0_c) rfl rfl hl.1 rfl (lv_room (Nat.le_of_ble_eq_true rfl)) dX0_mark_129 ⟨Nat.le_trans (Nat.le_of_ble_eq_true rfl) hRc, Nat.le_trans (Nat.le_of_ble_eq_true rfl) hRs⟩) hS (fun q _ h => ⟨(14 + j), by omega, h⟩) (fun q h => ⟨(14 + j), by omega, h⟩) (fun _ t H1 locs ht hvm hw_12 hB hz hk hS => ?_)
                rw [ht] at hB
                have hP := P_put hP hD (g_atr (k := j) (by omega)) hk hB
                rw [g_setr (by omega)] at hP
                obtain ⟨F_13, eF_13⟩ : ∃ z, z = va_up F (14 + j) (fl (F (14 + j)) (12 * y9 + x9) w9 v0 (w9 * h9)) := ⟨_, rfl⟩
                rw [← eF_13] at hP
                have hD : va_D (inA ad 23) (wG cI cZ cO ad n np nq F_13) := g_D hinj
                refine lv_iload hx hb dX0_mark_132 (lv_at hl 6 rfl) ?_
                refine lv_iload hx hb dX0_mark_134 (lv_at hl 7 rfl) ?_
                refine nv_imul hx hb dX0_mark_136 ?_
                refine lv_iload hx hb dX0_mark_137 (lv_at hl 0 rfl) ?_
                refine nv_isub hx hb (by omega) dX0_mark_139 ?_
                rw [← hQ]
                refine vx_ret ?_
                refine W.widen (k := 5) (n := 30) (by omega) (by omega) ?_
                exact W.iret (v := nI ((w9 * h9) - (ct (F (14 + j)) (12 * y9 + x9) w9 v0 (w9 * h9)))) hx hb hr (fun t ht hW => ⟨⟨nI ((w9 * h9) - (ct (F (14 + j)) (12 * y9 + x9) w9 v0 (w9 * h9))), (), rfl, (by show spMark n F (nI j) (nI x9) (nI y9) (nI w9) (nI h9) v0 = _; rw [spMark_1 hn hj hx9 hy9 hw9 hh9 hv9, if_pos c_10]), (by show va_P D vwCl (wG cI cZ cO ad n np nq (stMark F (nI j) (nI x9) (nI y9) (nI w9) (nI h9) v0)) t.heap; rw [ht, stMark_n (by omega) hx9 hy9 (by omega) (by omega)]; subst eF_13; exact hP)⟩, hS.F ht⟩) hS.2.2 dX0_mark_140
              · obtain ⟨sa9, hsa9⟩ := hV0.2.2.2.2.2.1.2.2.2.2.2.2.1
                rw [← hQ]
                exact vx_throwS (names := ["java/lang/RuntimeException", "java/lang/Exception"]) hx hb hst hown (by decide +kernel) (by decide +kernel) (hts (.classLink RX0 60 "java/lang/IllegalStateException") (by decide +kernel)) (hts (.initialized "java/lang/IllegalStateException") (by decide +kernel)) hsa9 (at_S (fun w h9 => hts w ((fun _ h => List.mem_cons_of_mem _ (List.mem_append_left _ (List.mem_append_right _ h))) w h9)) hV0.2.2.2.2.2.2) gd_S hV0.2.2.2.2.1.1 hV0.2.2.2.2.1.2 hS (hl.1.trans hml.symm) dX0_mark_94 dX0_mark_97 dX0_mark_98 dX0_mark_100 dX0_mark_103 (fun x hx9 => (htab x hx9).elim) (Nat.lt_of_lt_of_le (Nat.le_of_ble_eq_true rfl) hRf) (Nat.le_trans (Nat.le_of_ble_eq_true rfl) hRl) (Nat.le_trans (Nat.le_of_ble_eq_true rfl) hRc) (Nat.le_trans (Nat.le_of_ble_eq_true rfl) hRs) hlocks (fun t9 _ hs9 hq9 => x_thr hS trivial (Or.inr (Or.inr ⟨rfl, by rw [spMark_1 hn hj hx9 hy9 hw9 hh9 hv9, if_neg (by omega)]⟩)) hs9 hq9) (fun z hz => (hS.2.2 z hz).elim) (by omega) (by omega)
            · obtain ⟨sa9, hsa9⟩ := hV0.2.2.2.2.2.1.2.2.2.2.2.1
              rw [← hQ]
              exact vx_throwS (names := ["java/lang/RuntimeException", "java/lang/Exception"]) hx hb hst hown (by decide +kernel) (by decide +kernel) (hts (.classLink RX0 74 "java/lang/IllegalArgumentException") (by decide +kernel)) (hts (.initialized "java/lang/IllegalArgumentException") (by decide +kernel)) hsa9 (at_A (fun w h9 => hts w ((fun _ h => List.mem_cons_of_mem _ (List.mem_append_left _ (List.mem_append_left _ (List.mem_append_right _ h)))) w h9)) hV0.2.2.2.2.2.2) gd_A hV0.2.2.2.2.1.1 hV0.2.2.2.2.1.2 hS (hl.1.trans hml.symm) dX0_mark_61 dX0_mark_64 dX0_mark_65 dX0_mark_67 dX0_mark_70 (fun x hx9 => (htab x hx9).elim) (Nat.lt_of_lt_of_le (Nat.le_of_ble_eq_true rfl) hRf) (Nat.le_trans (Nat.le_of_ble_eq_true rfl) hRl) (Nat.le_trans (Nat.le_of_ble_eq_true rfl) hRc) (Nat.le_trans (Nat.le_of_ble_eq_true rfl) hRs) hlocks (fun t9 _ hs9 hq9 => x_thr hS trivial (Or.inr (Or.inl ⟨rfl, spMark_2 hn hj hx9 hy9 (by rw [inR_hi (fun q9 => c_8 ((lt_suc (k := 2) (by decide)).mp q9)), Bool.and_false, Bool.and_false])⟩)) hs9 hq9) (fun z hz => (hS.2.2 z hz).elim) (by omega) (by omega)
        · obtain ⟨sa9, hsa9⟩ := hV0.2.2.2.2.2.1.2.2.2.2.1
          rw [← hQ]
          exact vx_throwS (names := ["java/lang/RuntimeException", "java/lang/Exception"]) hx hb hst hown (by decide +kernel) (by decide +kernel) (hts (.classLink RX0 74 "java/lang/IllegalArgumentException") (by decide +kernel)) (hts (.initialized "java/lang/IllegalArgumentException") (by decide +kernel)) hsa9 (at_A (fun w h9 => hts w ((fun _ h => List.mem_cons_of_mem _ (List.mem_append_left _ (List.mem_append_left _ (List.mem_append_right _ h)))) w h9)) hV0.2.2.2.2.2.2) gd_A hV0.2.2.2.2.1.1 hV0.2.2.2.2.1.2 hS (hl.1.trans hml.symm) dX0_mark_40 dX0_mark_43 dX0_mark_44 dX0_mark_46 dX0_mark_49 (fun x hx9 => (htab x hx9).elim) (Nat.lt_of_lt_of_le (Nat.le_of_ble_eq_true rfl) hRf) (Nat.le_trans (Nat.le_of_ble_eq_true rfl) hRl) (Nat.le_trans (Nat.le_of_ble_eq_true rfl) hRc) (Nat.le_trans (Nat.le_of_ble_eq_true rfl) hRs) hlocks (fun t9 _ hs9 hq9 => x_thr hS trivial (Or.inr (Or.inl ⟨rfl, spMark_2 hn hj hx9 hy9 (by rw [inW_hi c_6, Bool.false_and, Bool.and_false])⟩)) hs9 hq9) (fun z hz => (hS.2.2 z hz).elim) (by omega) (by omega)
set_option maxHeartbeats 4000000 in
set_option maxRecDepth 100000 in
/-- cut -/
theorem c_X0_cut (l : Launch) (hst : l.stackTraces = false) (D : va_G) (cI cZ cO : ClassId) (ad : Nat → Nat) (n np nq : Nat) (F : Nat → Nat → Int32) (s0 k0 : Int32) (tb : Bool) (x0 y0 : Int32) (hinj : inj ad 23) (hn : n ≤ 10) (hnp : np ≤ 150) : vx_Met l yX0_cut wsX0_cut ({ frames := 7, cells := 5, slots := 30, locals := 103 } : Room) (va_Pc [.ref (ad 0), .int s0, .int k0, .int (bI tb), .int x0, .int y0] (Pr D (gT cI cZ cO) (wG cI cZ cO ad n np nq F) (EnvG (inA ad 23)))) (va_Qi (S := Unit) (fun (r : Int32) (_ : Unit) => spCut n np F s0 k0 tb x0 y0 = (0, r)) (fun (_ : Unit) (t : State) => va_P D vwCl (wG cI cZ cO ad n (np + 1) nq (stCut F np s0 k0 tb x0 y0)) t.heap) (inA ad 23)) (vx_X (S := Unit) (fun _ => True) (fun E (_ : Unit) (_ : State) => (E = nX ∧ spCut n np F s0 k0 tb x0 y0 = (1, 0)) ∨ (E = nA ∧ spCut n np F s0 k0 tb x0 y0 = (2, 0)) ∨ (E = nS ∧ spCut n np F s0 k0 tb x0 y0 = (3, 0))) (fun _ => False)) 5 30 (inA ad 23) := by
  refine vx_ofW (cc := cX0_cut) (maxL := 9) (ret := (some .int)) (by decide) rfl ?_
  intro p e s m args below meth c s₁ B hml htab hv
  obtain ⟨hargs, hP, hK, hV⟩ := hv
  have hx := B.exec
  have hb := B.bytes
  have hr := B.returns
  have hts := atoms_spec (ws := wsX0_cut) B.pre
  have hown : s.vm.findClass RX0 = some m.cls := findClass_of_methodNamed B.named
  have hlocks := B.notSynchronized
  have hS : va_S (fun _ => False) s.heap s.heap [] := va_S.rf
  have hV0 : EnvG (fun _ => False) s := EnvG.nar hV sub_no
  have hiw : ∀ w ∈ wsX00, w ∈ wsX0_cut := (fun _ h => List.mem_cons_of_mem _ (List.mem_append_left _ (List.mem_append_left _ (List.mem_append_left _ (List.mem_append_right _ h)))))
  have hRf : 7 ≤ (headSpec wsX0_cut ({ frames := 7, cells := 5, slots := 30, locals := 103 } : Room)).room.frames := Nat.le_refl _
  have hRl : 103 ≤ (headSpec wsX0_cut ({ frames := 7, cells := 5, slots := 30, locals := 103 } : Room)).room.locals := Nat.le_refl _
  have hRc : 5 ≤ (headSpec wsX0_cut ({ frames := 7, cells := 5, slots := 30, locals := 103 } : Room)).room.cells := Nat.le_refl _
  have hRs : 30 ≤ (headSpec wsX0_cut ({ frames := 7, cells := 5, slots := 30, locals := 103 } : Room)).room.slots := Nat.le_refl _
  generalize (headSpec wsX0_cut ({ frames := 7, cells := 5, slots := 30, locals := 103 } : Room)).room = R at hRf hRl hRc hRs ⊢
  have hl := lv_entry [.ref (ad 0), .int s0, .int k0, .int (bI tb), .int x0, .int y0] (n := 9) (Nat.le_of_ble_eq_true rfl)
  refine W.eq (show entryFrame m args 9 = _ from by rw [hargs, lg_entry_eq]) ?_
  generalize (lg_sl [.ref (ad 0), .int s0, .int k0, .int (bI tb), .int x0, .int y0] ++ List.replicate (9 - (lg_sl [.ref (ad 0), .int s0, .int k0, .int (bI tb), .int x0, .int y0]).length) Slot.unset).toArray = ls at hl ⊢
  have hl : lv_has ls 9 [(0, .ref (ad 0)), (1, .int s0), (2, .int k0), (3, .int (bI tb)), (4, .int x0), (5, .int y0)] := hl
  have hD : va_D (inA ad 23) (wG cI cZ cO ad n np nq F) := g_D hinj
  generalize hQ : vx_MQ _ _ _ _ _ _ _ _ = Q
  refine lv_aload_n hx hb dX0_cut_0 rfl (lv_at hl 0 rfl) ?_
  refine lv_iload_n hx hb dX0_cut_1 rfl (lv_at hl 1 rfl) ?_
  refine vx_callv (vx_runV (As := [.int s0]) (rest := []) ⟨hx, hb, hml, hown, hts⟩ (c_X0_needSkin l hst D cI cZ cO ad n np nq F s0 hn) (cwV 1 hts gX0_cut_X0_needSkin rfl rfl rfl (by decide +kernel) ⟨Nat.le_trans (Nat.le_of_ble_eq_true rfl) hRf, Nat.le_trans (Nat.le_of_ble_eq_true rfl) hRl⟩) (pr_V hP (ci := 0) (q0 := 0) rfl g_at0 rfl hP hK [0, 1, 2] rfl (hV0.at hS sub_id sub_id) EnvG_c) rfl rfl hl.1 rfl (lv_room (Nat.le_of_ble_eq_true rfl)) dX0_cut_2 ⟨Nat.le_trans (Nat.le_of_ble_eq_true rfl) hRc, Nat.le_trans (Nat.le_of_ble_eq_true rfl) hRs⟩) hS (fun _ _ h => h.elim) (fun _ h => h.elim) (fun _ _ h => h.elim) (fun E ce q9 _ t H1 locs ht hvm hpx hbx _ hk hS hce hcv hcl => ?_) (fun _ t H1 locs ht hvm hw_1 hB hz hk hS => ?_)
  · rw [← hQ]
    exact vx_out (fun x hx9 => (htab x hx9).elim) hlocks hce hcv hcl (fun t ht hal => ⟨(), trivial, Or.inl ⟨hbx.1, by unfold spCut; rw [hbx.2]; rfl⟩, hS.F ht⟩) (fun z hz => (hS.2.2 z hz).elim) (by omega) (by omega)
  have hP := P_kept hP hk
  obtain ⟨j, hj, rfl⟩ := inR_t (by omega) hw_1
  refine lv_iload hx hb dX0_cut_5 (lv_at hl 4 rfl) ?_
  refine lv_iload hx hb dX0_cut_7 (lv_at hl 5 rfl) ?_
  refine vx_callv (vx_runS (As := [.int x0, .int y0]) (rest := []) ⟨hx, hb, hml, hown, hts⟩ (c_X0_needCell l hst D x0 y0 ) (va_cwS 2 hts gX0_cut_X0_needCell rfl rfl rfl (by decide +kernel) ⟨Nat.le_trans (Nat.le_of_ble_eq_true rfl) hRf, Nat.le_trans (Nat.le_of_ble_eq_true rfl) hRl⟩) (pr_S (P_nil) hK [] rfl (hV0.at hS sub_id sub_id) EnvG_c) rfl rfl hl.1 rfl (lv_room (Nat.le_of_ble_eq_true rfl)) dX0_cut_9 ⟨Nat.le_trans (Nat.le_of_ble_eq_true rfl) hRc, Nat.le_trans (Nat.le_of_ble_eq_true rfl) hRs⟩) hS (fun _ _ h => h.elim) (fun _ h => h.elim) (fun _ _ h => h.elim) (fun E ce q9 _ t H1 locs ht hvm hpx hbx _ hk hS hce hcv hcl => ?_) (fun _ t H1 locs ht hvm hw_2 hB hz hk hS => ?_)
  · rw [← hQ]
    exact vx_out (fun x hx9 => (htab x hx9).elim) hlocks hce hcv hcl (fun t ht hal => ⟨(), trivial, Or.inl ⟨hbx.1, by unfold spCut; rw [inR_in hj (by omega), hbx.2]; rfl⟩, hS.F ht⟩) (fun z hz => (hS.2.2 z hz).elim) (by omega) (by omega)
  have hP := P_kept hP hk
  obtain ⟨x9, hx9, rfl⟩ := inR_t (by omega) hw_2.1
  obtain ⟨y9, hy9, rfl⟩ := inR_t (by omega) hw_2.2
  refine lv_iload_n hx hb dX0_cut_12 rfl (lv_at hl 2 rfl) ?_
  refine vx_callv (vx_runS (As := [.int k0]) (rest := []) ⟨hx, hb, hml, hown, hts⟩ (c_X0_needKind l hst D k0 ) (va_cwS 1 hts gX0_cut_X0_needKind rfl rfl rfl (by decide +kernel) ⟨Nat.le_trans (Nat.le_of_ble_eq_true rfl) hRf, Nat.le_trans (Nat.le_of_ble_eq_true rfl) hRl⟩) (pr_S (P_nil) hK [] rfl (hV0.at hS sub_id sub_id) EnvG_c) rfl rfl hl.1 rfl (lv_room (Nat.le_of_ble_eq_true rfl)) dX0_cut_13 ⟨Nat.le_trans (Nat.le_of_ble_eq_true rfl) hRc, Nat.le_trans (Nat.le_of_ble_eq_true rfl) hRs⟩) hS (fun _ _ h => h.elim) (fun _ h => h.elim) (fun _ _ h => h.elim) (fun E ce q9 _ t H1 locs ht hvm hpx hbx _ hk hS hce hcv hcl => ?_) (fun _ t H1 locs ht hvm hw_3 hB hz hk hS => ?_)
  · rw [← hQ]
    exact vx_out (fun x hx9 => (htab x hx9).elim) hlocks hce hcv hcl (fun t ht hal => ⟨(), trivial, Or.inr (Or.inl ⟨hbx.1, by unfold spCut; rw [inR_in hj (by omega), inR_in hx9 (by omega), inR_in hy9 (by omega), hbx.2]; rfl⟩), hS.F ht⟩) (fun z hz => (hS.2.2 z hz).elim) (by omega) (by omega)
  have hP := P_kept hP hk
  obtain ⟨k9, hk9, rfl⟩ := inR_t (by omega) hw_3
  have hw9 := wd_le k9 tb
  have hh9 := hg_le k9 tb
  refine lv_aload_n hx hb dX0_cut_16 rfl (lv_at hl 0 rfl) ?_
  refine va_get (D := D) (ci := 0) (v := .ref (ad 3)) (C := RX0) (T := TX0) (N := 16) hx hb hts hiw hown hK hP 0 g_at0 rfl 3 (by decide) (hts (.fieldLink RX0 18 "GloveCutters" "skinCells" "[[I") (by decide +kernel)) (fun _ h9 => h9) rfl dX0_cut_17 ?_
  refine lv_iload_n hx hb dX0_cut_20 rfl (lv_at hl 1 rfl) ?_
  refine nv_aald hx hb hK hP 3 2 g_at3 rfl (by omega) (by decide) (if_pos (by omega)) dX0_cut_21 ?_
  refine lv_astore (lv' := [(6, .ref (ad (14 + j))), (0, .ref (ad 0)), (1, .int (nI j)), (2, .int (nI k9)), (3, .int (bI tb)), (4, .int (nI x9)), (5, .int (nI y9))]) hx hb dX0_cut_22 hl (by decide) rfl (fun ls hl => ?_)
  refine lv_aload hx hb dX0_cut_24 (lv_at hl 0 rfl) ?_
  refine lv_iload_n hx hb dX0_cut_26 rfl (lv_at hl 3 rfl) ?_
  refine lv_iload_n hx hb dX0_cut_27 rfl (lv_at hl 4 rfl) ?_
  refine lv_iload hx hb dX0_cut_28 (lv_at hl 5 rfl) ?_
  refine lv_iload hx hb dX0_cut_30 (lv_at hl 6 rfl) ?_
  refine va_calli (va_runS (As := [.ref (ad (14 + j)), .int (nI k9), .int (bI tb), .int (nI x9), .int (nI y9)]) (rest := []) ⟨hx, hb, hml, hown, hts⟩ (c_X0_fits l D cI (ad (14 + j)) 96 (F (14 + j)) k9 tb x9 y9 (by omega) (by omega) (by omega) (by omega)) (va_cwS 5 hts gX0_cut_X0_fits rfl rfl rfl (by decide +kernel) ⟨Nat.le_trans (Nat.le_of_ble_eq_true rfl) hRf, Nat.le_trans (Nat.le_of_ble_eq_true rfl) hRl⟩) (pr_S (P_pick hP (k := (14 + j)) (g_atr (k := j) (by omega))) hK [0] rfl (hV0.at hS sub_id sub_id) EnvG_c) rfl rfl hl.1 rfl (lv_room (Nat.le_of_ble_eq_true rfl)) dX0_cut_32 ⟨Nat.le_trans (Nat.le_of_ble_eq_true rfl) hRc, Nat.le_trans (Nat.le_of_ble_eq_true rfl) hRs⟩) hS (fun _ _ h => h.elim) (fun _ h => h.elim) (fun r_4 _ t H1 locs ht hvm hw_4 hB hz hk hS => ?_)
  have hP := P_kept hP hk
  obtain rfl := hw_4
  refine nb_if_ne (tgt := 48) hx hb dX0_cut_35 (by decide) (fun c_5 => ?_) (fun c_5 => ?_)
  · refine lv_aload_n hx hb dX0_cut_48 rfl (lv_at hl 1 rfl) ?_
    refine va_get (D := D) (ci := 0) (v := .int (nI np)) (C := RX0) (T := TX0) (N := 16) hx hb hts hiw hown hK hP 0 g_at0 rfl 4 (by decide) (hts (.fieldLink RX0 107 "GloveCutters" "pieces" "I") (by decide +kernel)) (fun _ h9 => h9) rfl dX0_cut_49 ?_
    refine lv_sipush (v := nI 150) hx hb dX0_cut_52 (by decide) ?_
    refine nv_icmp_lt (tgt := 68) hx hb (by omega) (by omega) dX0_cut_55 (by decide) (fun c_6 => ?_) (fun c_6 => ?_)
    · have hft : x9 + wd k9 tb ≤ 12 ∧ y9 + hg k9 tb ≤ 8 := by (have hq9 := c_5; unfold fitB at hq9; simp only [Bool.and_eq_true, decide_eq_true_eq] at hq9; omega)
      refine lv_iload_n hx hb dX0_cut_68 rfl (lv_at hl 3 rfl) ?_
      refine lv_iload_n hx hb dX0_cut_69 rfl (lv_at hl 4 rfl) ?_
      refine va_calli (va_runS (As := [.int (nI k9), .int (bI tb)]) (rest := []) ⟨hx, hb, hml, hown, hts⟩ (c_X0_wideOf l D k9 tb (by omega)) (va_cwS 2 hts gX0_cut_X0_wideOf rfl rfl rfl (by decide +kernel) ⟨Nat.le_trans (Nat.le_of_ble_eq_true rfl) hRf, Nat.le_trans (Nat.le_of_ble_eq_true rfl) hRl⟩) (pr_S (P_nil) hK [] rfl (hV0.at hS sub_id sub_id) EnvG_c) rfl rfl hl.1 rfl (lv_room (Nat.le_of_ble_eq_true rfl)) dX0_cut_70 ⟨Nat.le_trans (Nat.le_of_ble_eq_true rfl) hRc, Nat.le_trans (Nat.le_of_ble_eq_true rfl) hRs⟩) hS (fun _ _ h => h.elim) (fun _ h => h.elim) (fun r_7 _ t H1 locs ht hvm hw_7 hB hz hk hS => ?_)
      have hP := P_kept hP hk
      obtain rfl := hw_7
      refine lv_istore (lv' := [(7, .int (nI (wd k9 tb))), (6, .ref (ad (14 + j))), (0, .ref (ad 0)), (1, .int (nI j)), (2, .int (nI k9)), (3, .int (bI tb)), (4, .int (nI x9)), (5, .int (nI y9))]) hx hb dX0_cut_73 hl (by decide) rfl (fun ls hl => ?_)
      refine lv_iload_n hx hb dX0_cut_75 rfl (lv_at hl 4 rfl) ?_
      refine lv_iload_n hx hb dX0_cut_76 rfl (lv_at hl 5 rfl) ?_
      refine va_calli (va_runS (As := [.int (nI k9), .int (bI tb)]) (rest := []) ⟨hx, hb, hml, hown, hts⟩ (c_X0_highOf l D k9 tb (by omega)) (va_cwS 2 hts gX0_cut_X0_highOf rfl rfl rfl (by decide +kernel) ⟨Nat.le_trans (Nat.le_of_ble_eq_true rfl) hRf, Nat.le_trans (Nat.le_of_ble_eq_true rfl) hRl⟩) (pr_S (P_nil) hK [] rfl (hV0.at hS sub_id sub_id) EnvG_c) rfl rfl hl.1 rfl (lv_room (Nat.le_of_ble_eq_true rfl)) dX0_cut_77 ⟨Nat.le_trans (Nat.le_of_ble_eq_true rfl) hRc, Nat.le_trans (Nat.le_of_ble_eq_true rfl) hRs⟩) hS (fun _ _ h => h.elim) (fun _ h => h.elim) (fun r_8 _ t H1 locs ht hvm hw_8 hB hz hk hS => ?_)
      have hP := P_kept hP hk
      obtain rfl := hw_8
      refine lv_istore (lv' := [(8, .int (nI (hg k9 tb))), (7, .int (nI (wd k9 tb))), (6, .ref (ad (14 + j))), (0, .ref (ad 0)), (1, .int (nI j)), (2, .int (nI k9)), (3, .int (bI tb)), (4, .int (nI x9)), (5, .int (nI y9))]) hx hb dX0_cut_80 hl (by decide) rfl (fun ls hl => ?_)
      refine lv_aload_n hx hb dX0_cut_82 rfl (lv_at hl 3 rfl) ?_
      refine va_get (D := D) (ci := 0) (v := .ref (ad 4)) (C := RX0) (T := TX0) (N := 16) hx hb hts hiw hown hK hP 0 g_at0 rfl 5 (by decide) (hts (.fieldLink RX0 21 "GloveCutters" "pieceSkin" "[I") (by decide +kernel)) (fun _ h9 => h9) rfl dX0_cut_83 ?_
      refine lv_aload_n hx hb dX0_cut_86 rfl (lv_at hl 3 rfl) ?_
      refine va_get (D := D) (ci := 0) (v := .int (nI np)) (C := RX0) (T := TX0) (N := 16) hx hb hts hiw hown hK hP 0 g_at0 rfl 4 (by decide) (hts (.fieldLink RX0 107 "GloveCutters" "pieces" "I") (by decide +kernel)) (fun _ h9 => h9) rfl dX0_cut_87 ?_
      refine lv_iload_n hx hb dX0_cut_90 rfl (lv_at hl 4 rfl) ?_
      have hS : va_S (inA ad 23) s.heap _ _ := S_mono hS
      refine nv_iast hx hb hK hP hD hS 4 0 g_at4 rfl (by omega) (by omega) dX0_cut_91 (fun H locs hP hD hS => ?_)
      rw [g_set4] at hP hD
      obtain ⟨F_9, eF_9⟩ : ∃ z, z = va_up F 4 (upd (F 4) np (nI j)) := ⟨_, rfl⟩
      rw [← eF_9] at hP hD
      refine lv_aload_n hx hb dX0_cut_92 rfl (lv_at hl 3 rfl) ?_
      refine va_get (D := D) (ci := 0) (v := .ref (ad 5)) (C := RX0) (T := TX0) (N := 16) hx hb hts hiw hown hK hP 0 g_at0 rfl 6 (by decide) (hts (.fieldLink RX0 24 "GloveCutters" "pieceKind" "[I") (by decide +kernel)) (fun _ h9 => h9) rfl dX0_cut_93 ?_
      refine lv_aload_n hx hb dX0_cut_96 rfl (lv_at hl 3 rfl) ?_
      refine va_get (D := D) (ci := 0) (v := .int (nI np)) (C := RX0) (T := TX0) (N := 16) hx hb hts hiw hown hK hP 0 g_at0 rfl 4 (by decide) (hts (.fieldLink RX0 107 "GloveCutters" "pieces" "I") (by decide +kernel)) (fun _ h9 => h9) rfl dX0_cut_97 ?_
      refine lv_iload_n hx hb dX0_cut_100 rfl (lv_at hl 5 rfl) ?_
      refine nv_iast hx hb hK hP hD hS 5 0 g_at5 rfl (by omega) (by omega) dX0_cut_101 (fun H locs hP hD hS => ?_)
      rw [g_set5] at hP hD
      obtain ⟨F_10, eF_10⟩ : ∃ z, z = va_up F_9 5 (upd (F_9 5) np (nI k9)) := ⟨_, rfl⟩
      rw [← eF_10] at hP hD
      refine lv_aload_n hx hb dX0_cut_102 rfl (lv_at hl 3 rfl) ?_
      refine va_get (D := D) (ci := 0) (v := .ref (ad 6)) (C := RX0) (T := TX0) (N := 16) hx hb hts hiw hown hK hP 0 g_at0 rfl 7 (by decide) (hts (.fieldLink RX0 27 "GloveCutters" "pieceWhere" "[I") (by decide +kernel)) (fun _ h9 => h9) rfl dX0_cut_103 ?_
      refine lv_aload_n hx hb dX0_cut_106 rfl (lv_at hl 3 rfl) ?_
      refine va_get (D := D) (ci := 0) (v := .int (nI np)) (C := RX0) (T := TX0) (N := 16) hx hb hts hiw hown hK hP 0 g_at0 rfl 4 (by decide) (hts (.fieldLink RX0 107 "GloveCutters" "pieces" "I") (by decide +kernel)) (fun _ h9 => h9) rfl dX0_cut_107 ?_
      refine lv_iconst (v := -1) hx hb dX0_cut_110 (by decide) ?_
      refine nv_iast hx hb hK hP hD hS 6 0 g_at6 rfl (by omega) (by omega) dX0_cut_111 (fun H locs hP hD hS => ?_)
      rw [g_set6] at hP hD
      obtain ⟨F_11, eF_11⟩ : ∃ z, z = va_up F_10 6 (upd (F_10 6) np (-1)) := ⟨_, rfl⟩
      rw [← eF_11] at hP hD
      refine lv_aload_n hx hb dX0_cut_112 rfl (lv_at hl 3 rfl) ?_
      refine va_get (D := D) (ci := 0) (v := .ref (ad 7)) (C := RX0) (T := TX0) (N := 16) hx hb hts hiw hown hK hP 0 g_at0 rfl 8 (by decide) (hts (.fieldLink RX0 30 "GloveCutters" "pieceThin" "[I") (by decide +kernel)) (fun _ h9 => h9) rfl dX0_cut_113 ?_
      refine lv_aload_n hx hb dX0_cut_116 rfl (lv_at hl 3 rfl) ?_
      refine va_get (D := D) (ci := 0) (v := .int (nI np)) (C := RX0) (T := TX0) (N := 16) hx hb hts hiw hown hK hP 0 g_at0 rfl 4 (by decide) (hts (.fieldLink RX0 107 "GloveCutters" "pieces" "I") (by decide +kernel)) (fun _ h9 => h9) rfl dX0_cut_117 ?_
      refine lv_aload hx hb dX0_cut_120 (lv_at hl 2 rfl) ?_
      refine lv_iload hx hb dX0_cut_122 (lv_at hl 7 rfl) ?_
      refine lv_iload hx hb dX0_cut_124 (lv_at hl 8 rfl) ?_
      refine lv_iload hx hb dX0_cut_126 (lv_at hl 1 rfl) ?_
      refine lv_iload hx hb dX0_cut_128 (lv_at hl 0 rfl) ?_
      refine lv_iconst (v := nI 1) hx hb dX0_cut_130 (by decide) ?_
      refine va_calli (va_runS (As := [.ref (ad (14 + j)), .int (nI x9), .int (nI y9), .int (nI (wd k9 tb)), .int (nI (hg k9 tb)), .int (nI 1)]) (rest := [.int (nI np), .ref (ad 7)]) ⟨hx, hb, hml, hown, hts⟩ (c_X0_tally l D cI (ad (14 + j)) 96 (F_11 (14 + j)) x9 y9 (wd k9 tb) (hg k9 tb) (nI 1) (by omega) (by omega) (by omega)) (va_cwS 6 hts gX0_cut_X0_tally rfl rfl rfl (by decide +kernel) ⟨Nat.le_trans (Nat.le_of_ble_eq_true rfl) hRf, Nat.le_trans (Nat.le_of_ble_eq_true rfl) hRl⟩) (pr_S (P_pick hP (k := (14 + j)) (g_atr (k := j) (by omega))) hK [0] rfl V0_at V0_c) rfl rfl hl.1 rfl (lv_room (Nat.le_of_ble_eq_true rfl)) dX0_cut_131 ⟨Nat.le_trans (Nat.le_of_ble_eq_true rfl) hRc, Nat.le_trans (Nat.le_of_ble_eq_true rfl) hRs⟩) hS (fun _ _ h => h.elim) (fun _ h => h.elim) (fun r_12 _ t H1 locs ht hvm hw_12 hB hz hk hS => ?_)
      have hP := P_kept hP hk
      obtain rfl := hw_12
      have eR1 : F_11 (14 + j) = F (14 + j) := by rw [eF_11, va_up_ne _ _ (by omega), eF_10, va_up_ne _ _ (by omega), eF_9, va_up_ne _ _ (by omega)]
      rw [eR1]
      refine nv_iast hx hb hK hP hD hS 7 0 g_at7 rfl (by omega) (by omega) dX0_cut_134 (fun H locs hP hD hS => ?_)
      rw [g_set7] at hP hD
      obtain ⟨F_13, eF_13⟩ : ∃ z, z = va_up F_11 7 (upd (F_11 7) np (nI (ct (F (14 + j)) (12 * y9 + x9) (wd k9 tb) (nI 1) ((wd k9 tb) * (hg k9 tb))))) := ⟨_, rfl⟩
      rw [← eF_13] at hP hD
      refine lv_aload hx hb dX0_cut_135 (lv_at hl 2 rfl) ?_
      refine lv_iload hx hb dX0_cut_137 (lv_at hl 7 rfl) ?_
      refine lv_iload hx hb dX0_cut_139 (lv_at hl 8 rfl) ?_
      refine lv_iload hx hb dX0_cut_141 (lv_at hl 1 rfl) ?_
      refine lv_iload hx hb dX0_cut_143 (lv_at hl 0 rfl) ?_
      refine lv_iconst (v := nI 3) hx hb dX0_cut_145 (by decide) ?_
      refine va_callv (va_runS (As := [.ref (ad (14 + j)), .int (nI x9), .int (nI y9), .int (nI (wd k9 tb)), .int (nI (hg k9 tb)), .int (nI 3)]) (rest := []) ⟨hx, hb, hml, hown, hts⟩ (c_X0_paint l D cI (ad (14 + j)) 96 (F_13 (14 + j)) x9 y9 (wd k9 tb) (hg k9 tb) (nI 3) (by omega) (by omega) (by omega)) (va_cwS 6 hts gX0_cut_X0_paint rfl rfl rfl (by decide +kernel) ⟨Nat.le_trans (Nat.le_of_ble_eq_true rfl) hRf, Nat.le_trans (Nat.le_of_ble_eq_true rfl) hRl⟩) (pr_S (P_pick hP (k := (14 + j)) (g_atr (k := j) (by omega))) hK [0] rfl V0_at V0_c) rfl rfl hl.1 rfl (lv_room (Nat.le_of_ble_eq_true rfl)) dX0_cut_146 ⟨Nat.le_trans (Nat.le_of_ble_eq_true rfl) hRc, Nat.le_trans (Nat.le_of_ble_eq_true rfl) hRs⟩) hS (fun q _ h => ⟨(14 + j), by omega, h⟩) (fun q h => ⟨(14 + j), by omega, h⟩) (fun _ t H1 locs ht hvm hw_14 hB hz hk hS => ?_)
      rw [ht] at hB
      have hP := P_put hP hD (g_atr (k := j) (by omega)) hk hB
      rw [g_setr (by omega)] at hP
      obtain ⟨F_15, eF_15⟩ : ∃ z, z = va_up F_13 (14 + j) (fl (F_13 (14 + j)) (12 * y9 + x9) (wd k9 tb) (nI 3) ((wd k9 tb) * (hg k9 tb))) := ⟨_, rfl⟩
      rw [← eF_15] at hP
      have hD : va_D (inA ad 23) (wG cI cZ cO ad n np nq F_15) := g_D hinj
      have eR2 : F_13 (14 + j) = F (14 + j) := by rw [eF_13, va_up_ne _ _ (by omega)]; exact eR1
      rw [eR2] at eF_15
      have eR3 : F_15 2 = F 2 := by rw [eF_15, va_up_ne _ _ (by omega), eF_13, va_up_ne _ _ (by omega), eF_11, va_up_ne _ _ (by omega), eF_10, va_up_ne _ _ (by omega), eF_9, va_up_ne _ _ (by omega)]
      refine lv_aload_n hx hb dX0_cut_149 rfl (lv_at hl 3 rfl) ?_
      refine va_get (D := D) (ci := 0) (v := .ref (ad 2)) (C := RX0) (T := TX0) (N := 16) hx hb hts hiw hown hK hP 0 g_at0 rfl 2 (by decide) (hts (.fieldLink RX0 13 "GloveCutters" "skinPieces" "[I") (by decide +kernel)) (fun _ h9 => h9) rfl dX0_cut_150 ?_
      refine lv_iload_n hx hb dX0_cut_153 rfl (lv_at hl 4 rfl) ?_
      refine lv_dup2_11 hx hb dX0_cut_154 rfl rfl ?_
      refine nv_iald hx hb hK hP 2 0 g_at2 rfl (by omega) (by omega) dX0_cut_155 ?_
      refine lv_iconst (v := nI 1) hx hb dX0_cut_156 (by decide) ?_
      refine lv_iadd hx hb dX0_cut_157 ?_
      refine nv_iast hx hb hK hP hD hS 2 0 g_at2 rfl (by omega) (by omega) dX0_cut_158 (fun H locs hP hD hS => ?_)
      rw [g_set2] at hP hD
      obtain ⟨F_16, eF_16⟩ : ∃ z, z = va_up F_15 2 (upd (F_15 2) j ((F_15 2 j) + (nI 1))) := ⟨_, rfl⟩
      rw [← eF_16] at hP hD
      refine lv_aload_n hx hb dX0_cut_159 rfl (lv_at hl 3 rfl) ?_
      refine lv_dup hx hb dX0_cut_160 rfl ?_
      refine va_get (D := D) (ci := 0) (v := .int (nI np)) (C := RX0) (T := TX0) (N := 16) hx hb hts hiw hown hK hP 0 g_at0 rfl 4 (by decide) (hts (.fieldLink RX0 107 "GloveCutters" "pieces" "I") (by decide +kernel)) (fun _ h9 => h9) rfl dX0_cut_161 ?_
      refine lv_iconst (v := nI 1) hx hb dX0_cut_164 (by decide) ?_
      refine nv_iadd hx hb dX0_cut_165 ?_
      refine va_put (D := D) (ci := 0) (v := .int (nI (np + 1))) (ty := .int) (C := RX0) (T := TX0) (N := 16) hx hb hts hiw tyX0 tyX0_ok nmX0 hown hK hP hD hS 0 g_at0 rfl 4 (by decide) (hts (.fieldLink RX0 107 "GloveCutters" "pieces" "I") (by decide +kernel)) (fun _ h9 => h9) rfl (by decide +kernel) rfl rfl (Nat.le_of_ble_eq_true rfl) dX0_cut_166 (fun H locs hP hD hS => ?_)
      have hP : va_P D vwCl (wG cI cZ cO ad n (np + 1) nq F_16) H := hP
      have hD : va_D (inA ad 23) (wG cI cZ cO ad n (np + 1) nq F_16) := hD
      refine lv_aload_n hx hb dX0_cut_169 rfl (lv_at hl 3 rfl) ?_
      refine va_get (D := D) (ci := 0) (v := .int (nI (np + 1))) (C := RX0) (T := TX0) (N := 16) hx hb hts hiw hown hK hP 0 g_at0 rfl 4 (by decide) (hts (.fieldLink RX0 107 "GloveCutters" "pieces" "I") (by decide +kernel)) (fun _ h9 => h9) rfl dX0_cut_170 ?_
      refine lv_iconst (v := nI 1) hx hb dX0_cut_173 (by decide) ?_
      refine nv_isub hx hb (by omega) dX0_cut_174 ?_
      rw [← hQ]
      refine vx_ret ?_
      refine W.widen (k := 5) (n := 30) (by omega) (by omega) ?_
      exact W.iret (v := nI ((np + 1) - 1)) hx hb hr (fun t ht hW => ⟨⟨nI ((np + 1) - 1), (), rfl, (by show spCut n np F (nI j) (nI k9) tb (nI x9) (nI y9) = (0, nI (np + 1 - 1)); rw [show np + 1 - 1 = np by omega, spCut_1 hn hj hx9 hy9 hk9, c_5, decide_eq_true c_6]; rfl), (by show va_P D vwCl (wG cI cZ cO ad n (np + 1) nq (stCut F np (nI j) (nI k9) tb (nI x9) (nI y9))) t.heap; rw [ht, stCut_n (by omega) hx9 hy9 hk9]; have e9 : F_16 = cutF F np j k9 tb (12 * y9 + x9) := (by rw [eF_16, eR3]; subst eF_15 eF_13 eF_11 eF_10 eF_9; rfl); rw [← e9]; exact hP)⟩, hS.F ht⟩) hS.2.2 dX0_cut_175
    · obtain ⟨sa9, hsa9⟩ := hV0.2.2.2.2.2.1.2.2.2.2.2.2.2.2.2.2.1
      rw [← hQ]
      exact vx_throwS (names := ["java/lang/RuntimeException", "java/lang/Exception"]) hx hb hst hown (by decide +kernel) (by decide +kernel) (hts (.classLink RX0 60 "java/lang/IllegalStateException") (by decide +kernel)) (hts (.initialized "java/lang/IllegalStateException") (by decide +kernel)) hsa9 (at_S (fun w h9 => hts w ((fun _ h => List.mem_cons_of_mem _ (List.mem_append_left _ (List.mem_append_left _ (List.mem_append_right _ h)))) w h9)) hV0.2.2.2.2.2.2) gd_S hV0.2.2.2.2.1.1 hV0.2.2.2.2.1.2 hS (hl.1.trans hml.symm) dX0_cut_58 dX0_cut_61 dX0_cut_62 dX0_cut_64 dX0_cut_67 (fun x hx9 => (htab x hx9).elim) (Nat.lt_of_lt_of_le (Nat.le_of_ble_eq_true rfl) hRf) (Nat.le_trans (Nat.le_of_ble_eq_true rfl) hRl) (Nat.le_trans (Nat.le_of_ble_eq_true rfl) hRc) (Nat.le_trans (Nat.le_of_ble_eq_true rfl) hRs) hlocks (fun t9 _ hs9 hq9 => x_thr hS trivial (Or.inr (Or.inr ⟨rfl, by rw [spCut_1 hn hj hx9 hy9 hk9, decide_eq_false (show ¬ np < 150 by omega), Bool.and_false]; rfl⟩)) hs9 hq9) (fun z hz => (hS.2.2 z hz).elim) (by omega) (by omega)
  · obtain ⟨sa9, hsa9⟩ := hV0.2.2.2.2.2.1.2.2.2.2.2.2.2.2.2.1
    rw [← hQ]
    exact vx_throwS (names := ["java/lang/RuntimeException", "java/lang/Exception"]) hx hb hst hown (by decide +kernel) (by decide +kernel) (hts (.classLink RX0 60 "java/lang/IllegalStateException") (by decide +kernel)) (hts (.initialized "java/lang/IllegalStateException") (by decide +kernel)) hsa9 (at_S (fun w h9 => hts w ((fun _ h => List.mem_cons_of_mem _ (List.mem_append_left _ (List.mem_append_left _ (List.mem_append_right _ h)))) w h9)) hV0.2.2.2.2.2.2) gd_S hV0.2.2.2.2.1.1 hV0.2.2.2.2.1.2 hS (hl.1.trans hml.symm) dX0_cut_38 dX0_cut_41 dX0_cut_42 dX0_cut_44 dX0_cut_47 (fun x hx9 => (htab x hx9).elim) (Nat.lt_of_lt_of_le (Nat.le_of_ble_eq_true rfl) hRf) (Nat.le_trans (Nat.le_of_ble_eq_true rfl) hRl) (Nat.le_trans (Nat.le_of_ble_eq_true rfl) hRc) (Nat.le_trans (Nat.le_of_ble_eq_true rfl) hRs) hlocks (fun t9 _ hs9 hq9 => x_thr hS trivial (Or.inr (Or.inr ⟨rfl, by rw [spCut_1 hn hj hx9 hy9 hk9, c_5]; rfl⟩)) hs9 hq9) (fun z hz => (hS.2.2 z hz).elim) (by omega) (by omega)
set_option maxHeartbeats 4000000 in
set_option maxRecDepth 100000 in
/-- rip -/
theorem c_X0_rip (l : Launch) (hst : l.stackTraces = false) (D : va_G) (cI cZ cO : ClassId) (ad : Nat → Nat) (n np nq : Nat) (F : Nat → Nat → Int32) (q0 : Int32) (hinj : inj ad 23) (hnp : np ≤ 150) (hnq : nq ≤ 20) : vx_Met l yX0_rip wsX0_rip ({ frames := 7, cells := 2, slots := 12, locals := 103 } : Room) (va_Pc [.ref (ad 0), .int q0] (Pr D (gT cI cZ cO) (wG cI cZ cO ad n np nq F) (EnvG (inA ad 23)))) (va_Qi (S := Unit) (fun (r : Int32) (_ : Unit) => spRip np nq F q0 = (0, r)) (fun (_ : Unit) (t : State) => va_P D vwCl (wG cI cZ cO ad n np nq (ripF F np (cl q0))) t.heap) (inA ad 23)) (vx_X (S := Unit) (fun _ => True) (fun E (_ : Unit) (_ : State) => (E = nX ∧ spRip np nq F q0 = (1, 0)) ∨ (E = nS ∧ spRip np nq F q0 = (2, 0))) (fun _ => False)) 2 12 (inA ad 23) := by
  refine vx_ofW (cc := cX0_rip) (maxL := 5) (ret := (some .int)) (by decide) rfl ?_
  intro p e s m args below meth c s₁ B hml htab hv
  obtain ⟨hargs, hP, hK, hV⟩ := hv
  have hx := B.exec
  have hb := B.bytes
  have hr := B.returns
  have hts := atoms_spec (ws := wsX0_rip) B.pre
  have hown : s.vm.findClass RX0 = some m.cls := findClass_of_methodNamed B.named
  have hlocks := B.notSynchronized
  have hS : va_S (fun _ => False) s.heap s.heap [] := va_S.rf
  have hV0 : EnvG (fun _ => False) s := EnvG.nar hV sub_no
  have hiw : ∀ w ∈ wsX00, w ∈ wsX0_rip := (fun _ h => List.mem_cons_of_mem _ (List.mem_append_left _ (List.mem_append_left _ (List.mem_append_right _ h))))
  have hRf : 7 ≤ (headSpec wsX0_rip ({ frames := 7, cells := 2, slots := 12, locals := 103 } : Room)).room.frames := Nat.le_refl _
  have hRl : 103 ≤ (headSpec wsX0_rip ({ frames := 7, cells := 2, slots := 12, locals := 103 } : Room)).room.locals := Nat.le_refl _
  have hRc : 2 ≤ (headSpec wsX0_rip ({ frames := 7, cells := 2, slots := 12, locals := 103 } : Room)).room.cells := Nat.le_refl _
  have hRs : 12 ≤ (headSpec wsX0_rip ({ frames := 7, cells := 2, slots := 12, locals := 103 } : Room)).room.slots := Nat.le_refl _
  generalize (headSpec wsX0_rip ({ frames := 7, cells := 2, slots := 12, locals := 103 } : Room)).room = R at hRf hRl hRc hRs ⊢
  have hl := lv_entry [.ref (ad 0), .int q0] (n := 5) (Nat.le_of_ble_eq_true rfl)
  refine W.eq (show entryFrame m args 5 = _ from by rw [hargs, lg_entry_eq]) ?_
  generalize (lg_sl [.ref (ad 0), .int q0] ++ List.replicate (5 - (lg_sl [.ref (ad 0), .int q0]).length) Slot.unset).toArray = ls at hl ⊢
  have hl : lv_has ls 5 [(0, .ref (ad 0)), (1, .int q0)] := hl
  have hD : va_D (inA ad 23) (wG cI cZ cO ad n np nq F) := g_D hinj
  generalize hQ : vx_MQ _ _ _ _ _ _ _ _ = Q
  refine lv_aload_n hx hb dX0_rip_0 rfl (lv_at hl 0 rfl) ?_
  refine lv_iload_n hx hb dX0_rip_1 rfl (lv_at hl 1 rfl) ?_
  refine vx_callv (vx_runV (As := [.int q0]) (rest := []) ⟨hx, hb, hml, hown, hts⟩ (c_X0_needPair l hst D cI cZ cO ad n np nq F q0 (by omega)) (cwV 1 hts gX0_rip_X0_needPair rfl rfl rfl (by decide +kernel) ⟨Nat.le_trans (Nat.le_of_ble_eq_true rfl) hRf, Nat.le_trans (Nat.le_of_ble_eq_true rfl) hRl⟩) (pr_V hP (ci := 0) (q0 := 0) rfl g_at0 rfl hP hK [0, 1, 2] rfl (hV0.at hS sub_id sub_id) EnvG_c) rfl rfl hl.1 rfl (lv_room (Nat.le_of_ble_eq_true rfl)) dX0_rip_2 ⟨Nat.le_trans (Nat.le_of_ble_eq_true rfl) hRc, Nat.le_trans (Nat.le_of_ble_eq_true rfl) hRs⟩) hS (fun _ _ h => h.elim) (fun _ h => h.elim) (fun _ _ h => h.elim) (fun E ce q9 _ t H1 locs ht hvm hpx hbx _ hk hS hce hcv hcl => ?_) (fun _ t H1 locs ht hvm hw_1 hB hz hk hS => ?_)
  · rw [← hQ]
    exact vx_out (fun x hx9 => (htab x hx9).elim) hlocks hce hcv hcl (fun t ht hal => ⟨(), trivial, Or.inl ⟨hbx.1, by unfold spRip; rw [hbx.2]; rfl⟩, hS.F ht⟩) (fun z hz => (hS.2.2 z hz).elim) (by omega) (by omega)
  have hP := P_kept hP hk
  obtain ⟨j, hj, rfl⟩ := inR_t (by omega) hw_1
  refine lv_aload_n hx hb dX0_rip_5 rfl (lv_at hl 0 rfl) ?_
  refine va_get (D := D) (ci := 0) (v := .ref (ad 12)) (C := RX0) (T := TX0) (N := 16) hx hb hts hiw hown hK hP 0 g_at0 rfl 14 (by decide) (hts (.fieldLink RX0 45 "GloveCutters" "pairRipped" "[Z") (by decide +kernel)) (fun _ h9 => h9) rfl dX0_rip_6 ?_
  refine lv_iload_n hx hb dX0_rip_9 rfl (lv_at hl 1 rfl) ?_
  refine nv_zald hx hb hK hP 12 1 g_at12 rfl (by omega) (by decide) dX0_rip_10 ?_
  refine lv_if_eq (tgt := 24) hx hb dX0_rip_11 (by decide) (fun c_2 => ?_) (fun c_2 => ?_)
  · refine lv_aload_n hx hb dX0_rip_24 rfl (lv_at hl 0 rfl) ?_
    refine va_get (D := D) (ci := 0) (v := .ref (ad 12)) (C := RX0) (T := TX0) (N := 16) hx hb hts hiw hown hK hP 0 g_at0 rfl 14 (by decide) (hts (.fieldLink RX0 45 "GloveCutters" "pairRipped" "[Z") (by decide +kernel)) (fun _ h9 => h9) rfl dX0_rip_25 ?_
    refine lv_iload_n hx hb dX0_rip_28 rfl (lv_at hl 1 rfl) ?_
    refine lv_iconst (v := nI 1) hx hb dX0_rip_29 (by decide) ?_
    have hS : va_S (inA ad 23) s.heap _ _ := S_mono hS
    refine nv_zast hx hb hK hP hD hS 12 1 g_at12 rfl (by omega) (by decide) (by decide) dX0_rip_30 (fun H locs hP hD hS => ?_)
    rw [g_set12] at hP hD
    obtain ⟨F_3, eF_3⟩ : ∃ z, z = va_up F 12 (upd (F 12) j (nI 1)) := ⟨_, rfl⟩
    rw [← eF_3] at hP hD
    have eF_b := eF_3
    refine lv_iconst (v := nI 0) hx hb dX0_rip_31 (by decide) ?_
    refine lv_istore_n (lv' := [(2, .int (nI 0)), (0, .ref (ad 0)), (1, .int (nI j))]) hx hb dX0_rip_32 rfl hl (by decide) rfl (fun ls hl => ?_)
    refine lv_iconst (v := nI 0) hx hb dX0_rip_33 (by decide) ?_
    refine lv_istore_n (lv' := [(3, .int (nI 0)), (2, .int (nI 0)), (0, .ref (ad 0)), (1, .int (nI j))]) hx hb dX0_rip_34 rfl hl (by decide) rfl (fun ls hl => ?_)
    have L35 : ∀ (fu : Nat) (k : Nat) (i : Nat) (G : Nat → Nat → Int32) (H : Heap) (locs : List Loc) (ls : Array Slot), np - i < fu → (i ≤ np) → (k = rpc (F 5) (nI j) (F 6) i) → (k ≤ i) → (G = va_up (va_up F 12 (upd (F 12) j (nI 1))) 6 (rp (F 5) (nI j) (F 6) i)) → va_P D vwCl (wG cI cZ cO ad n np nq G) H → va_D (inA ad 23) (wG cI cZ cO ad n np nq G) → va_S (inA ad 23) s.heap H locs → lv_has ls 5 [(0, .ref (ad 0)), (1, .int (nI j)), (2, .int (nI k)), (3, .int (nI i))] → W p l e R s m args below meth c H locs 1 6 Q (F0 m 35 ls []) := by
      intro fu
      induction fu with
      | zero => intro _ _ _ _ _ _ h; exact absurd h (Nat.not_lt_zero _)
      | succ fu ih35 =>
        intro k i G H locs ls hm35 h1 h2 h3 hG hP hD hS hl
        refine lv_iload_n hx hb dX0_rip_35 rfl (lv_at hl 3 rfl) ?_
        refine lv_aload_n hx hb dX0_rip_36 rfl (lv_at hl 0 rfl) ?_
        refine va_get (D := D) (ci := 0) (v := .int (nI np)) (C := RX0) (T := TX0) (N := 16) hx hb hts hiw hown hK hP 0 g_at0 rfl 4 (by decide) (hts (.fieldLink RX0 107 "GloveCutters" "pieces" "I") (by decide +kernel)) (fun _ h9 => h9) rfl dX0_rip_37 ?_
        refine nv_icmp_ge (tgt := 106) hx hb (by omega) (by omega) dX0_rip_40 (by decide) (fun c_4 => ?_) (fun c_4 => ?_)
        · refine lv_iload_n hx hb dX0_rip_106 rfl (lv_at hl 2 rfl) ?_
          rw [← hQ]
          refine vx_ret ?_
          refine W.widen (k := 2) (n := 12) (by omega) (by omega) ?_
          exact W.iret (v := nI k) hx hb hr (fun t ht hW => ⟨⟨nI k, (), rfl, (by show spRip np nq F (nI j) = _; rw [spRip_1 hnq hj, beq_t c_2, h2, show i = np by omega]; rfl), (by show va_P D vwCl (wG cI cZ cO ad n np nq (ripF F np (cl (nI j)))) t.heap; rw [ht, cl_n (by omega)]; have e9 : G = ripF F np j := (by rw [hG, show i = np by omega]; rfl); rw [← e9]; exact hP)⟩, hS.F ht⟩) hS.2.2 dX0_rip_107
        · refine lv_aload_n hx hb dX0_rip_43 rfl (lv_at hl 0 rfl) ?_
          refine va_get (D := D) (ci := 0) (v := .ref (ad 6)) (C := RX0) (T := TX0) (N := 16) hx hb hts hiw hown hK hP 0 g_at0 rfl 7 (by decide) (hts (.fieldLink RX0 27 "GloveCutters" "pieceWhere" "[I") (by decide +kernel)) (fun _ h9 => h9) rfl dX0_rip_44 ?_
          refine lv_iload_n hx hb dX0_rip_47 rfl (lv_at hl 3 rfl) ?_
          refine nv_iald hx hb hK hP 6 0 g_at6 rfl (by omega) (by omega) dX0_rip_48 ?_
          refine lv_iload_n hx hb dX0_rip_49 rfl (lv_at hl 1 rfl) ?_
          refine lv_icmp_ne (tgt := 100) hx hb dX0_rip_50 (by decide) (fun c_5 => ?_) (fun c_5 => ?_)
          · refine lv_iinc (k := 3) (v := nI (i + 1)) (lv' := [(3, .int (nI (i + 1))), (0, .ref (ad 0)), (1, .int (nI j)), (2, .int (nI k))]) hx hb dX0_rip_100 hl rfl (nI_add i 1) (by decide) rfl (fun ls hl => ?_)
            refine lv_goto (tgt := 35) hx hb dX0_rip_103 (by decide) ?_
            exact ih35 k (i + 1) G _ _ _ (by omega) (by omega) (by rw [(rp_n (fun q9 => c_5 (by rw [hG, va_up_self]; exact q9))).2]; exact h2) (by omega) (by rw [(rp_n (fun q9 => c_5 (by rw [hG, va_up_self]; exact q9))).1]; exact hG) hP hD hS (lv_sub hl [1, 2, 3, 0] rfl)
          · refine lv_aload_n hx hb dX0_rip_53 rfl (lv_at hl 0 rfl) ?_
            refine va_get (D := D) (ci := 0) (v := .ref (ad 5)) (C := RX0) (T := TX0) (N := 16) hx hb hts hiw hown hK hP 0 g_at0 rfl 6 (by decide) (hts (.fieldLink RX0 24 "GloveCutters" "pieceKind" "[I") (by decide +kernel)) (fun _ h9 => h9) rfl dX0_rip_54 ?_
            refine lv_iload_n hx hb dX0_rip_57 rfl (lv_at hl 3 rfl) ?_
            refine nv_iald hx hb hK hP 5 0 g_at5 rfl (by omega) (by omega) dX0_rip_58 ?_
            refine lv_iconst (v := nI 2) hx hb dX0_rip_59 (by decide) ?_
            refine lv_icmp_ne (tgt := 67) hx hb dX0_rip_60 (by decide) (fun c_6 => ?_) (fun c_6 => ?_)
            · refine lv_iconst (v := nI 0) hx hb dX0_rip_67 (by decide) ?_
              refine lv_istore (lv' := [(4, .int (nI 0)), (0, .ref (ad 0)), (1, .int (nI j)), (2, .int (nI k)), (3, .int (nI i))]) hx hb dX0_rip_68 hl (by decide) rfl (fun ls hl => ?_)
              refine lv_aload_n hx hb dX0_rip_70 rfl (lv_at hl 1 rfl) ?_
              refine va_get (D := D) (ci := 0) (v := .ref (ad 6)) (C := RX0) (T := TX0) (N := 16) hx hb hts hiw hown hK hP 0 g_at0 rfl 7 (by decide) (hts (.fieldLink RX0 27 "GloveCutters" "pieceWhere" "[I") (by decide +kernel)) (fun _ h9 => h9) rfl dX0_rip_71 ?_
              refine lv_iload_n hx hb dX0_rip_74 rfl (lv_at hl 4 rfl) ?_
              refine lv_iload hx hb dX0_rip_75 (lv_at hl 0 rfl) ?_
              refine nv_if_eq (tgt := 85) hx hb (by omega) dX0_rip_77 (by decide) (fun _ => ?_) (fun h9 => absurd h9 (by decide))
              refine lv_iconst (v := -1) hx hb dX0_rip_85 (by decide) ?_
              refine nv_iast hx hb hK hP hD hS 6 0 g_at6 rfl (by omega) (by omega) dX0_rip_86 (fun H locs hP hD hS => ?_)
              rw [g_set6] at hP hD
              obtain ⟨F_8, eF_8⟩ : ∃ z, z = va_up G 6 (upd (G 6) i (-1)) := ⟨_, rfl⟩
              rw [← eF_8] at hP hD
              refine lv_iload_n hx hb dX0_rip_87 rfl (lv_at hl 3 rfl) ?_
              refine lv_iload hx hb dX0_rip_88 (lv_at hl 0 rfl) ?_
              refine nv_if_eq (tgt := 97) hx hb (by omega) dX0_rip_90 (by decide) (fun _ => ?_) (fun h9 => absurd h9 (by decide))
              refine lv_iconst (v := nI 1) hx hb dX0_rip_97 (by decide) ?_
              refine nv_iadd hx hb dX0_rip_98 ?_
              refine lv_istore_n (lv' := [(2, .int (nI (k + 1))), (4, .int (nI 0)), (0, .ref (ad 0)), (1, .int (nI j)), (3, .int (nI i))]) hx hb dX0_rip_99 rfl hl (by decide) rfl (fun ls hl => ?_)
              refine lv_iinc (k := 4) (v := nI (i + 1)) (lv' := [(3, .int (nI (i + 1))), (2, .int (nI (k + 1))), (4, .int (nI 0)), (0, .ref (ad 0)), (1, .int (nI j))]) hx hb dX0_rip_100 hl rfl (nI_add i 1) (by decide) rfl (fun ls hl => ?_)
              refine lv_goto (tgt := 35) hx hb dX0_rip_103 (by decide) ?_
              exact ih35 (k + 1) (i + 1) F_8 _ _ _ (by omega) (by omega) (by rw [(rp_f (show rp (F 5) (nI j) (F 6) i i = nI j by have q9 := c_5; rw [hG, va_up_self] at q9; exact q9) (fun q9 => c_6 ((show G 5 i = F 5 i by rw [hG]; rfl).trans q9))).2, ← h2]) (by omega) (by rw [(rp_f (show rp (F 5) (nI j) (F 6) i i = nI j by have q9 := c_5; rw [hG, va_up_self] at q9; exact q9) (fun q9 => c_6 ((show G 5 i = F 5 i by rw [hG]; rfl).trans q9))).1, eF_8, hG, uu, va_up_self]) hP hD hS (lv_sub hl [3, 4, 1, 0] rfl)
            · refine lv_iconst (v := nI 1) hx hb dX0_rip_63 (by decide) ?_
              refine lv_goto (tgt := 68) hx hb dX0_rip_64 (by decide) ?_
              refine lv_istore (lv' := [(4, .int (nI 1)), (0, .ref (ad 0)), (1, .int (nI j)), (2, .int (nI k)), (3, .int (nI i))]) hx hb dX0_rip_68 hl (by decide) rfl (fun ls hl => ?_)
              refine lv_aload_n hx hb dX0_rip_70 rfl (lv_at hl 1 rfl) ?_
              refine va_get (D := D) (ci := 0) (v := .ref (ad 6)) (C := RX0) (T := TX0) (N := 16) hx hb hts hiw hown hK hP 0 g_at0 rfl 7 (by decide) (hts (.fieldLink RX0 27 "GloveCutters" "pieceWhere" "[I") (by decide +kernel)) (fun _ h9 => h9) rfl dX0_rip_71 ?_
              refine lv_iload_n hx hb dX0_rip_74 rfl (lv_at hl 4 rfl) ?_
              refine lv_iload hx hb dX0_rip_75 (lv_at hl 0 rfl) ?_
              refine nv_if_eq (tgt := 85) hx hb (by omega) dX0_rip_77 (by decide) (fun h9 => absurd h9 (by decide)) (fun _ => ?_)
              refine lv_bipush (v := -2) hx hb dX0_rip_80 (by decide) ?_
              refine lv_goto (tgt := 86) hx hb dX0_rip_82 (by decide) ?_
              refine nv_iast hx hb hK hP hD hS 6 0 g_at6 rfl (by omega) (by omega) dX0_rip_86 (fun H locs hP hD hS => ?_)
              rw [g_set6] at hP hD
              obtain ⟨F_11, eF_11⟩ : ∃ z, z = va_up G 6 (upd (G 6) i (-2)) := ⟨_, rfl⟩
              rw [← eF_11] at hP hD
              refine lv_iload_n hx hb dX0_rip_87 rfl (lv_at hl 3 rfl) ?_
              refine lv_iload hx hb dX0_rip_88 (lv_at hl 0 rfl) ?_
              refine nv_if_eq (tgt := 97) hx hb (by omega) dX0_rip_90 (by decide) (fun h9 => absurd h9 (by decide)) (fun _ => ?_)
              refine lv_iconst (v := nI 0) hx hb dX0_rip_93 (by decide) ?_
              refine lv_goto (tgt := 98) hx hb dX0_rip_94 (by decide) ?_
              refine nv_iadd hx hb dX0_rip_98 ?_
              refine lv_istore_n (lv' := [(2, .int (nI (k + 0))), (4, .int (nI 1)), (0, .ref (ad 0)), (1, .int (nI j)), (3, .int (nI i))]) hx hb dX0_rip_99 rfl hl (by decide) rfl (fun ls hl => ?_)
              refine lv_iinc (k := 4) (v := nI (i + 1)) (lv' := [(3, .int (nI (i + 1))), (2, .int (nI (k + 0))), (4, .int (nI 1)), (0, .ref (ad 0)), (1, .int (nI j))]) hx hb dX0_rip_100 hl rfl (nI_add i 1) (by decide) rfl (fun ls hl => ?_)
              refine lv_goto (tgt := 35) hx hb dX0_rip_103 (by decide) ?_
              exact ih35 (k + 0) (i + 1) F_11 _ _ _ (by omega) (by omega) (by rw [(rp_l (show rp (F 5) (nI j) (F 6) i i = nI j by have q9 := c_5; rw [hG, va_up_self] at q9; exact q9) ((show G 5 i = F 5 i by rw [hG]; rfl).symm.trans c_6)).2]; exact h2) (by omega) (by rw [(rp_l (show rp (F 5) (nI j) (F 6) i i = nI j by have q9 := c_5; rw [hG, va_up_self] at q9; exact q9) ((show G 5 i = F 5 i by rw [hG]; rfl).symm.trans c_6)).1, eF_11, hG, uu, va_up_self]) hP hD hS (lv_sub hl [3, 4, 1, 0] rfl)
    exact L35 _ 0 0 F_3 _ _ _ (Nat.lt_succ_self _) (by omega) rfl (by omega) (by rw [eF_3]; exact (va_up_id _ 6).symm) hP hD hS (lv_sub hl [2, 3, 1, 0] rfl)
  · obtain ⟨sa9, hsa9⟩ := hV0.2.2.2.2.2.1.2.2.2.2.2.2.2.2.2.2.2.2.2.2.2
    rw [← hQ]
    exact vx_throwS (names := ["java/lang/RuntimeException", "java/lang/Exception"]) hx hb hst hown (by decide +kernel) (by decide +kernel) (hts (.classLink RX0 60 "java/lang/IllegalStateException") (by decide +kernel)) (hts (.initialized "java/lang/IllegalStateException") (by decide +kernel)) hsa9 (at_S (fun w h9 => hts w ((fun _ h => List.mem_cons_of_mem _ (List.mem_append_left _ (List.mem_append_right _ h))) w h9)) hV0.2.2.2.2.2.2) gd_S hV0.2.2.2.2.1.1 hV0.2.2.2.2.1.2 hS (hl.1.trans hml.symm) dX0_rip_14 dX0_rip_17 dX0_rip_18 dX0_rip_20 dX0_rip_23 (fun x hx9 => (htab x hx9).elim) (Nat.lt_of_lt_of_le (Nat.le_of_ble_eq_true rfl) hRf) (Nat.le_trans (Nat.le_of_ble_eq_true rfl) hRl) (Nat.le_trans (Nat.le_of_ble_eq_true rfl) hRc) (Nat.le_trans (Nat.le_of_ble_eq_true rfl) hRs) hlocks (fun t9 _ hs9 hq9 => x_thr hS trivial (Or.inr ⟨rfl, by rw [spRip_1 hnq hj, beq_f c_2]; rfl⟩) hs9 hq9) (fun z hz => (hS.2.2 z hz).elim) (by omega) (by omega)
