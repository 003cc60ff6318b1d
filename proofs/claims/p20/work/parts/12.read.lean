set_option maxHeartbeats 4000000 in
set_option maxRecDepth 100000 in
/-- tallySkin -/
theorem c_X0_tallySkin (l : Launch) (D : va_G) (cI cZ cO : ClassId) (ad : Nat → Nat) (n np nq : Nat) (F : Nat → Nat → Int32) (s0 : Nat) (v : Int32) (hs : s0 < 10) : Met l yX0_tallySkin wsX0_tallySkin ({ frames := 1, cells := 0, slots := 0, locals := 28 } : Room) (va_Pc [.ref (ad 0), .int (nI s0), .int v] (Pr D (gT cI cZ cO) (wG cI cZ cO ad n np nq F) V0)) (va_Qi (S := Unit) (fun (r : Int32) (_ : Unit) => r = nI (tS F s0 v)) (fun _ _ => True) (fun _ => False)) 0 0 (fun _ => False) := by
  refine Met.ofW (cc := cX0_tallySkin) (maxL := 3) (ret := (some .int)) (by decide) rfl ?_
  intro p e s m args below meth c s₁ B hml hv
  obtain ⟨hargs, hP, hK, hV⟩ := hv
  have hx := B.exec
  have hb := B.bytes
  have hr := B.returns
  have hts := atoms_spec (ws := wsX0_tallySkin) B.pre
  have hown : s.vm.findClass RX0 = some m.cls := findClass_of_methodNamed B.named
  have hlocks := B.notSynchronized
  have hS : va_S (fun _ => False) s.heap s.heap [] := va_S.rf
  have hiw : ∀ w ∈ wsX00, w ∈ wsX0_tallySkin := (fun _ h => List.mem_cons_of_mem _ (List.mem_append_right _ h))
  have hRf : 1 ≤ (headSpec wsX0_tallySkin ({ frames := 1, cells := 0, slots := 0, locals := 28 } : Room)).room.frames := Nat.le_refl _
  have hRl : 28 ≤ (headSpec wsX0_tallySkin ({ frames := 1, cells := 0, slots := 0, locals := 28 } : Room)).room.locals := Nat.le_refl _
  have hRc : 0 ≤ (headSpec wsX0_tallySkin ({ frames := 1, cells := 0, slots := 0, locals := 28 } : Room)).room.cells := Nat.le_refl _
  have hRs : 0 ≤ (headSpec wsX0_tallySkin ({ frames := 1, cells := 0, slots := 0, locals := 28 } : Room)).room.slots := Nat.le_refl _
  generalize (headSpec wsX0_tallySkin ({ frames := 1, cells := 0, slots := 0, locals := 28 } : Room)).room = R at hRf hRl hRc hRs ⊢
  have hl := lv_entry [.ref (ad 0), .int (nI s0), .int v] (n := 3) (Nat.le_of_ble_eq_true rfl)
  refine W.eq (show entryFrame m args 3 = _ from by rw [hargs, lg_entry_eq]) ?_
  generalize (lg_sl [.ref (ad 0), .int (nI s0), .int v] ++ List.replicate (3 - (lg_sl [.ref (ad 0), .int (nI s0), .int v]).length) Slot.unset).toArray = ls at hl ⊢
  have hl : lv_has ls 3 [(0, .ref (ad 0)), (1, .int (nI s0)), (2, .int v)] := hl
  generalize hQ : MQ _ _ _ _ _ _ _ = Q
  refine lv_aload_n hx hb dX0_tallySkin_0 rfl (lv_at hl 0 rfl) ?_
  refine va_get (D := D) (ci := 0) (v := .ref (ad 3)) (C := RX0) (T := TX0) (N := 16) hx hb hts hiw hown hK hP 0 g_at0 rfl 3 (by decide) (hts (.fieldLink RX0 18 "GloveCutters" "skinCells" "[[I") (by decide +kernel)) (fun _ h9 => h9) rfl dX0_tallySkin_1 ?_
  refine lv_iload_n hx hb dX0_tallySkin_4 rfl (lv_at hl 1 rfl) ?_
  refine nv_aald hx hb hK hP 3 2 g_at3 rfl (by omega) (by decide) (if_pos (by omega)) dX0_tallySkin_5 ?_
  refine lv_iconst (v := nI 0) hx hb dX0_tallySkin_6 (by decide) ?_
  refine lv_iconst (v := nI 0) hx hb dX0_tallySkin_7 (by decide) ?_
  refine lv_bipush (v := nI 12) hx hb dX0_tallySkin_8 (by decide) ?_
  refine lv_bipush (v := nI 8) hx hb dX0_tallySkin_10 (by decide) ?_
  refine lv_iload_n hx hb dX0_tallySkin_12 rfl (lv_at hl 2 rfl) ?_
  refine va_calli (va_runS (As := [.ref (ad (14 + s0)), .int (nI 0), .int (nI 0), .int (nI 12), .int (nI 8), .int v]) (rest := []) ⟨hx, hb, hml, hown, hts⟩ (c_X0_tally l D cI (ad (14 + s0)) 96 (F (14 + s0)) 0 0 12 8 v (by omega) (by omega) (by omega)) (va_cwS 6 hts gX0_tallySkin_X0_tally rfl rfl rfl (by decide +kernel) ⟨Nat.le_trans (Nat.le_of_ble_eq_true rfl) hRf, Nat.le_trans (Nat.le_of_ble_eq_true rfl) hRl⟩) (pr_S (P_pick hP (k := (14 + s0)) (g_atr (k := s0) (by omega))) hK [0] rfl V0_at V0_c) rfl rfl hl.1 rfl (lv_room (Nat.le_of_ble_eq_true rfl)) dX0_tallySkin_13 ⟨Nat.le_trans (Nat.zero_le _) hRc, Nat.le_trans (Nat.zero_le _) hRs⟩) hS (fun _ _ h => h.elim) (fun _ h => h.elim) (fun r_1 _ t H1 locs ht hvm hw_1 hB hz hk hS => ?_)
  have hP := P_kept hP hk
  obtain rfl := hw_1
  rw [← hQ]
  exact W.iret (v := nI (ct (F (14 + s0)) (12 * 0 + 0) 12 v (12 * 8))) hx hb hr (fun t ht hW => ⟨⟨nI (ct (F (14 + s0)) (12 * 0 + 0) 12 v (12 * 8)), (), rfl, rfl, trivial⟩, hS.F ht⟩) hS.2.2 dX0_tallySkin_16
set_option maxHeartbeats 4000000 in
set_option maxRecDepth 100000 in
/-- tellSkin -/
theorem c_X0_tellSkin (l : Launch) (D : va_G) (cI cZ cO : ClassId) (ad : Nat → Nat) (n np nq : Nat) (F : Nat → Nat → Int32) (s0 w : Nat) (hs : s0 < 10) (hw : w < 6) : Met l yX0_tellSkin wsX0_tellSkin ({ frames := 2, cells := 0, slots := 0, locals := 50 } : Room) (va_Pc [.ref (ad 0), .int (nI s0), .int (nI w)] (Pr D (gT cI cZ cO) (wG cI cZ cO ad n np nq F) V0)) (va_Qi (S := Unit) (fun (r : Int32) (_ : Unit) => r = skT F s0 w) (fun _ _ => True) (fun _ => False)) 0 0 (fun _ => False) := by
  refine Met.ofW (cc := cX0_tellSkin) (maxL := 3) (ret := (some .int)) (by decide) rfl ?_
  intro p e s m args below meth c s₁ B hml hv
  obtain ⟨hargs, hP, hK, hV⟩ := hv
  have hx := B.exec
  have hb := B.bytes
  have hr := B.returns
  have hts := atoms_spec (ws := wsX0_tellSkin) B.pre
  have hown : s.vm.findClass RX0 = some m.cls := findClass_of_methodNamed B.named
  have hlocks := B.notSynchronized
  have hS : va_S (fun _ => False) s.heap s.heap [] := va_S.rf
  have hiw : ∀ w ∈ wsX00, w ∈ wsX0_tellSkin := (fun _ h => List.mem_cons_of_mem _ (List.mem_append_right _ h))
  have hRf : 2 ≤ (headSpec wsX0_tellSkin ({ frames := 2, cells := 0, slots := 0, locals := 50 } : Room)).room.frames := Nat.le_refl _
  have hRl : 50 ≤ (headSpec wsX0_tellSkin ({ frames := 2, cells := 0, slots := 0, locals := 50 } : Room)).room.locals := Nat.le_refl _
  have hRc : 0 ≤ (headSpec wsX0_tellSkin ({ frames := 2, cells := 0, slots := 0, locals := 50 } : Room)).room.cells := Nat.le_refl _
  have hRs : 0 ≤ (headSpec wsX0_tellSkin ({ frames := 2, cells := 0, slots := 0, locals := 50 } : Room)).room.slots := Nat.le_refl _
  generalize (headSpec wsX0_tellSkin ({ frames := 2, cells := 0, slots := 0, locals := 50 } : Room)).room = R at hRf hRl hRc hRs ⊢
  have hl := lv_entry [.ref (ad 0), .int (nI s0), .int (nI w)] (n := 3) (Nat.le_of_ble_eq_true rfl)
  refine W.eq (show entryFrame m args 3 = _ from by rw [hargs, lg_entry_eq]) ?_
  generalize (lg_sl [.ref (ad 0), .int (nI s0), .int (nI w)] ++ List.replicate (3 - (lg_sl [.ref (ad 0), .int (nI s0), .int (nI w)]).length) Slot.unset).toArray = ls at hl ⊢
  have hl : lv_has ls 3 [(0, .ref (ad 0)), (1, .int (nI s0)), (2, .int (nI w))] := hl
  generalize hQ : MQ _ _ _ _ _ _ _ = Q
  refine lv_iload_n hx hb dX0_tellSkin_0 rfl (lv_at hl 2 rfl) ?_
  rcases (show w = 0 ∨ w = 1 ∨ w = 2 ∨ w = 3 ∨ w = 4 ∨ w = 5 by omega) with rfl | rfl | rfl | rfl | rfl | rfl
  · refine lv_tableIn (off := 35) (tgt := 36) hx hb dX0_tellSkin_1 (by decide) (by decide) (by decide) (by decide) ?_
    refine lv_aload_n hx hb dX0_tellSkin_36 rfl (lv_at hl 0 rfl) ?_
    refine va_get (D := D) (ci := 0) (v := .ref (ad 1)) (C := RX0) (T := TX0) (N := 16) hx hb hts hiw hown hK hP 0 g_at0 rfl 1 (by decide) (hts (.fieldLink RX0 9 "GloveCutters" "skinColour" "[I") (by decide +kernel)) (fun _ h9 => h9) rfl dX0_tellSkin_37 ?_
    refine lv_iload_n hx hb dX0_tellSkin_40 rfl (lv_at hl 1 rfl) ?_
    refine nv_iald hx hb hK hP 1 0 g_at1 rfl (by omega) (by omega) dX0_tellSkin_41 ?_
    rw [← hQ]
    exact W.iret (v := F 1 s0) hx hb hr (fun t ht hW => ⟨⟨F 1 s0, (), rfl, rfl, trivial⟩, hS.F ht⟩) hS.2.2 dX0_tellSkin_42
  · refine lv_tableIn (off := 42) (tgt := 43) hx hb dX0_tellSkin_1 (by decide) (by decide) (by decide) (by decide) ?_
    refine lv_aload_n hx hb dX0_tellSkin_43 rfl (lv_at hl 0 rfl) ?_
    refine lv_iload_n hx hb dX0_tellSkin_44 rfl (lv_at hl 1 rfl) ?_
    refine lv_iconst (v := nI 0) hx hb dX0_tellSkin_45 (by decide) ?_
    refine va_calli (va_runV (As := [.int (nI s0), .int (nI 0)]) (rest := []) ⟨hx, hb, hml, hown, hts⟩ (c_X0_tallySkin l D cI cZ cO ad n np nq F s0 (nI 0) hs) (cwV 2 hts gX0_tellSkin_X0_tallySkin rfl rfl rfl (by decide +kernel) ⟨Nat.le_trans (Nat.le_of_ble_eq_true rfl) hRf, Nat.le_trans (Nat.le_of_ble_eq_true rfl) hRl⟩) (pr_V hP (ci := 0) (q0 := 0) rfl g_at0 rfl hP hK [0, 1, 2] rfl V0_at V0_c) rfl rfl hl.1 rfl (lv_room (Nat.le_of_ble_eq_true rfl)) dX0_tellSkin_46 ⟨Nat.le_trans (Nat.zero_le _) hRc, Nat.le_trans (Nat.zero_le _) hRs⟩) hS (fun _ _ h => h.elim) (fun _ h => h.elim) (fun r_1 _ t H1 locs ht hvm hw_1 hB hz hk hS => ?_)
    have hP := P_kept hP hk
    obtain rfl := hw_1
    rw [← hQ]
    exact W.iret (v := nI (tS F s0 (nI 0))) hx hb hr (fun t ht hW => ⟨⟨nI (tS F s0 (nI 0)), (), rfl, rfl, trivial⟩, hS.F ht⟩) hS.2.2 dX0_tellSkin_49
  · refine lv_tableIn (off := 49) (tgt := 50) hx hb dX0_tellSkin_1 (by decide) (by decide) (by decide) (by decide) ?_
    refine lv_aload_n hx hb dX0_tellSkin_50 rfl (lv_at hl 0 rfl) ?_
    refine lv_iload_n hx hb dX0_tellSkin_51 rfl (lv_at hl 1 rfl) ?_
    refine lv_iconst (v := nI 1) hx hb dX0_tellSkin_52 (by decide) ?_
    refine va_calli (va_runV (As := [.int (nI s0), .int (nI 1)]) (rest := []) ⟨hx, hb, hml, hown, hts⟩ (c_X0_tallySkin l D cI cZ cO ad n np nq F s0 (nI 1) hs) (cwV 2 hts gX0_tellSkin_X0_tallySkin rfl rfl rfl (by decide +kernel) ⟨Nat.le_trans (Nat.le_of_ble_eq_true rfl) hRf, Nat.le_trans (Nat.le_of_ble_eq_true rfl) hRl⟩) (pr_V hP (ci := 0) (q0 := 0) rfl g_at0 rfl hP hK [0, 1, 2] rfl V0_at V0_c) rfl rfl hl.1 rfl (lv_room (Nat.le_of_ble_eq_true rfl)) dX0_tellSkin_53 ⟨Nat.le_trans (Nat.zero_le _) hRc, Nat.le_trans (Nat.zero_le _) hRs⟩) hS (fun _ _ h => h.elim) (fun _ h => h.elim) (fun r_2 _ t H1 locs ht hvm hw_2 hB hz hk hS => ?_)
    have hP := P_kept hP hk
    obtain rfl := hw_2
    rw [← hQ]
    exact W.iret (v := nI (tS F s0 (nI 1))) hx hb hr (fun t ht hW => ⟨⟨nI (tS F s0 (nI 1)), (), rfl, rfl, trivial⟩, hS.F ht⟩) hS.2.2 dX0_tellSkin_56
  · refine lv_tableIn (off := 56) (tgt := 57) hx hb dX0_tellSkin_1 (by decide) (by decide) (by decide) (by decide) ?_
    refine lv_aload_n hx hb dX0_tellSkin_57 rfl (lv_at hl 0 rfl) ?_
    refine lv_iload_n hx hb dX0_tellSkin_58 rfl (lv_at hl 1 rfl) ?_
    refine lv_iconst (v := nI 2) hx hb dX0_tellSkin_59 (by decide) ?_
    refine va_calli (va_runV (As := [.int (nI s0), .int (nI 2)]) (rest := []) ⟨hx, hb, hml, hown, hts⟩ (c_X0_tallySkin l D cI cZ cO ad n np nq F s0 (nI 2) hs) (cwV 2 hts gX0_tellSkin_X0_tallySkin rfl rfl rfl (by decide +kernel) ⟨Nat.le_trans (Nat.le_of_ble_eq_true rfl) hRf, Nat.le_trans (Nat.le_of_ble_eq_true rfl) hRl⟩) (pr_V hP (ci := 0) (q0 := 0) rfl g_at0 rfl hP hK [0, 1, 2] rfl V0_at V0_c) rfl rfl hl.1 rfl (lv_room (Nat.le_of_ble_eq_true rfl)) dX0_tellSkin_60 ⟨Nat.le_trans (Nat.zero_le _) hRc, Nat.le_trans (Nat.zero_le _) hRs⟩) hS (fun _ _ h => h.elim) (fun _ h => h.elim) (fun r_3 _ t H1 locs ht hvm hw_3 hB hz hk hS => ?_)
    have hP := P_kept hP hk
    obtain rfl := hw_3
    rw [← hQ]
    exact W.iret (v := nI (tS F s0 (nI 2))) hx hb hr (fun t ht hW => ⟨⟨nI (tS F s0 (nI 2)), (), rfl, rfl, trivial⟩, hS.F ht⟩) hS.2.2 dX0_tellSkin_63
  · refine lv_tableIn (off := 63) (tgt := 64) hx hb dX0_tellSkin_1 (by decide) (by decide) (by decide) (by decide) ?_
    refine lv_aload_n hx hb dX0_tellSkin_64 rfl (lv_at hl 0 rfl) ?_
    refine lv_iload_n hx hb dX0_tellSkin_65 rfl (lv_at hl 1 rfl) ?_
    refine lv_iconst (v := nI 3) hx hb dX0_tellSkin_66 (by decide) ?_
    refine va_calli (va_runV (As := [.int (nI s0), .int (nI 3)]) (rest := []) ⟨hx, hb, hml, hown, hts⟩ (c_X0_tallySkin l D cI cZ cO ad n np nq F s0 (nI 3) hs) (cwV 2 hts gX0_tellSkin_X0_tallySkin rfl rfl rfl (by decide +kernel) ⟨Nat.le_trans (Nat.le_of_ble_eq_true rfl) hRf, Nat.le_trans (Nat.le_of_ble_eq_true rfl) hRl⟩) (pr_V hP (ci := 0) (q0 := 0) rfl g_at0 rfl hP hK [0, 1, 2] rfl V0_at V0_c) rfl rfl hl.1 rfl (lv_room (Nat.le_of_ble_eq_true rfl)) dX0_tellSkin_67 ⟨Nat.le_trans (Nat.zero_le _) hRc, Nat.le_trans (Nat.zero_le _) hRs⟩) hS (fun _ _ h => h.elim) (fun _ h => h.elim) (fun r_4 _ t H1 locs ht hvm hw_4 hB hz hk hS => ?_)
    have hP := P_kept hP hk
    obtain rfl := hw_4
    rw [← hQ]
    exact W.iret (v := nI (tS F s0 (nI 3))) hx hb hr (fun t ht hW => ⟨⟨nI (tS F s0 (nI 3)), (), rfl, rfl, trivial⟩, hS.F ht⟩) hS.2.2 dX0_tellSkin_70
  · refine lv_tableOut (tgt := 71) hx hb dX0_tellSkin_1 (by decide) (by decide) ?_
    refine lv_aload_n hx hb dX0_tellSkin_71 rfl (lv_at hl 0 rfl) ?_
    refine va_get (D := D) (ci := 0) (v := .ref (ad 2)) (C := RX0) (T := TX0) (N := 16) hx hb hts hiw hown hK hP 0 g_at0 rfl 2 (by decide) (hts (.fieldLink RX0 13 "GloveCutters" "skinPieces" "[I") (by decide +kernel)) (fun _ h9 => h9) rfl dX0_tellSkin_72 ?_
    refine lv_iload_n hx hb dX0_tellSkin_75 rfl (lv_at hl 1 rfl) ?_
    refine nv_iald hx hb hK hP 2 0 g_at2 rfl (by omega) (by omega) dX0_tellSkin_76 ?_
    rw [← hQ]
    exact W.iret (v := F 2 s0) hx hb hr (fun t ht hW => ⟨⟨F 2 s0, (), rfl, rfl, trivial⟩, hS.F ht⟩) hS.2.2 dX0_tellSkin_77
set_option maxHeartbeats 4000000 in
set_option maxRecDepth 100000 in
/-- tellPiece -/
theorem c_X0_tellPiece (l : Launch) (D : va_G) (cI cZ cO : ClassId) (ad : Nat → Nat) (n np nq : Nat) (F : Nat → Nat → Int32) (p0 w : Nat) (hs : p0 < np) (hnp : np ≤ 150) (hw : w < 4) : Met l yX0_tellPiece wsX0_tellPiece ({ frames := 0, cells := 0, slots := 0, locals := 0 } : Room) (va_Pc [.ref (ad 0), .int (nI p0), .int (nI w)] (Pr D (gT cI cZ cO) (wG cI cZ cO ad n np nq F) V0)) (va_Qi (S := Unit) (fun (r : Int32) (_ : Unit) => r = pcT F p0 w) (fun _ _ => True) (fun _ => False)) 0 0 (fun _ => False) := by
  refine Met.ofW (cc := cX0_tellPiece) (maxL := 3) (ret := (some .int)) (by decide) rfl ?_
  intro p e s m args below meth c s₁ B hml hv
  obtain ⟨hargs, hP, hK, hV⟩ := hv
  have hx := B.exec
  have hb := B.bytes
  have hr := B.returns
  have hts := atoms_spec (ws := wsX0_tellPiece) B.pre
  have hown : s.vm.findClass RX0 = some m.cls := findClass_of_methodNamed B.named
  have hlocks := B.notSynchronized
  have hS : va_S (fun _ => False) s.heap s.heap [] := va_S.rf
  have hiw : ∀ w ∈ wsX00, w ∈ wsX0_tellPiece := (fun _ h => List.mem_cons_of_mem _ (List.mem_append_right _ h))
  have hRf : 0 ≤ (headSpec wsX0_tellPiece ({ frames := 0, cells := 0, slots := 0, locals := 0 } : Room)).room.frames := Nat.le_refl _
  have hRl : 0 ≤ (headSpec wsX0_tellPiece ({ frames := 0, cells := 0, slots := 0, locals := 0 } : Room)).room.locals := Nat.le_refl _
  have hRc : 0 ≤ (headSpec wsX0_tellPiece ({ frames := 0, cells := 0, slots := 0, locals := 0 } : Room)).room.cells := Nat.le_refl _
  have hRs : 0 ≤ (headSpec wsX0_tellPiece ({ frames := 0, cells := 0, slots := 0, locals := 0 } : Room)).room.slots := Nat.le_refl _
  generalize (headSpec wsX0_tellPiece ({ frames := 0, cells := 0, slots := 0, locals := 0 } : Room)).room = R at hRf hRl hRc hRs ⊢
  have hl := lv_entry [.ref (ad 0), .int (nI p0), .int (nI w)] (n := 3) (Nat.le_of_ble_eq_true rfl)
  refine W.eq (show entryFrame m args 3 = _ from by rw [hargs, lg_entry_eq]) ?_
  generalize (lg_sl [.ref (ad 0), .int (nI p0), .int (nI w)] ++ List.replicate (3 - (lg_sl [.ref (ad 0), .int (nI p0), .int (nI w)]).length) Slot.unset).toArray = ls at hl ⊢
  have hl : lv_has ls 3 [(0, .ref (ad 0)), (1, .int (nI p0)), (2, .int (nI w))] := hl
  generalize hQ : MQ _ _ _ _ _ _ _ = Q
  refine lv_iload_n hx hb dX0_tellPiece_0 rfl (lv_at hl 2 rfl) ?_
  rcases (show w = 0 ∨ w = 1 ∨ w = 2 ∨ w = 3 by omega) with rfl | rfl | rfl | rfl
  · refine lv_tableIn (off := 27) (tgt := 28) hx hb dX0_tellPiece_1 (by decide) (by decide) (by decide) (by decide) ?_
    refine lv_aload_n hx hb dX0_tellPiece_28 rfl (lv_at hl 0 rfl) ?_
    refine va_get (D := D) (ci := 0) (v := .ref (ad 4)) (C := RX0) (T := TX0) (N := 16) hx hb hts hiw hown hK hP 0 g_at0 rfl 5 (by decide) (hts (.fieldLink RX0 21 "GloveCutters" "pieceSkin" "[I") (by decide +kernel)) (fun _ h9 => h9) rfl dX0_tellPiece_29 ?_
    refine lv_iload_n hx hb dX0_tellPiece_32 rfl (lv_at hl 1 rfl) ?_
    refine nv_iald hx hb hK hP 4 0 g_at4 rfl (by omega) (by omega) dX0_tellPiece_33 ?_
    rw [← hQ]
    exact W.iret (v := F 4 p0) hx hb hr (fun t ht hW => ⟨⟨F 4 p0, (), rfl, rfl, trivial⟩, hS.F ht⟩) hS.2.2 dX0_tellPiece_34
  · refine lv_tableIn (off := 34) (tgt := 35) hx hb dX0_tellPiece_1 (by decide) (by decide) (by decide) (by decide) ?_
    refine lv_aload_n hx hb dX0_tellPiece_35 rfl (lv_at hl 0 rfl) ?_
    refine va_get (D := D) (ci := 0) (v := .ref (ad 5)) (C := RX0) (T := TX0) (N := 16) hx hb hts hiw hown hK hP 0 g_at0 rfl 6 (by decide) (hts (.fieldLink RX0 24 "GloveCutters" "pieceKind" "[I") (by decide +kernel)) (fun _ h9 => h9) rfl dX0_tellPiece_36 ?_
    refine lv_iload_n hx hb dX0_tellPiece_39 rfl (lv_at hl 1 rfl) ?_
    refine nv_iald hx hb hK hP 5 0 g_at5 rfl (by omega) (by omega) dX0_tellPiece_40 ?_
    rw [← hQ]
    exact W.iret (v := F 5 p0) hx hb hr (fun t ht hW => ⟨⟨F 5 p0, (), rfl, rfl, trivial⟩, hS.F ht⟩) hS.2.2 dX0_tellPiece_41
  · refine lv_tableIn (off := 41) (tgt := 42) hx hb dX0_tellPiece_1 (by decide) (by decide) (by decide) (by decide) ?_
    refine lv_aload_n hx hb dX0_tellPiece_42 rfl (lv_at hl 0 rfl) ?_
    refine va_get (D := D) (ci := 0) (v := .ref (ad 6)) (C := RX0) (T := TX0) (N := 16) hx hb hts hiw hown hK hP 0 g_at0 rfl 7 (by decide) (hts (.fieldLink RX0 27 "GloveCutters" "pieceWhere" "[I") (by decide +kernel)) (fun _ h9 => h9) rfl dX0_tellPiece_43 ?_
    refine lv_iload_n hx hb dX0_tellPiece_46 rfl (lv_at hl 1 rfl) ?_
    refine nv_iald hx hb hK hP 6 0 g_at6 rfl (by omega) (by omega) dX0_tellPiece_47 ?_
    rw [← hQ]
    exact W.iret (v := F 6 p0) hx hb hr (fun t ht hW => ⟨⟨F 6 p0, (), rfl, rfl, trivial⟩, hS.F ht⟩) hS.2.2 dX0_tellPiece_48
  · refine lv_tableOut (tgt := 49) hx hb dX0_tellPiece_1 (by decide) (by decide) ?_
    refine lv_aload_n hx hb dX0_tellPiece_49 rfl (lv_at hl 0 rfl) ?_
    refine va_get (D := D) (ci := 0) (v := .ref (ad 7)) (C := RX0) (T := TX0) (N := 16) hx hb hts hiw hown hK hP 0 g_at0 rfl 8 (by decide) (hts (.fieldLink RX0 30 "GloveCutters" "pieceThin" "[I") (by decide +kernel)) (fun _ h9 => h9) rfl dX0_tellPiece_50 ?_
    refine lv_iload_n hx hb dX0_tellPiece_53 rfl (lv_at hl 1 rfl) ?_
    refine nv_iald hx hb hK hP 7 0 g_at7 rfl (by omega) (by omega) dX0_tellPiece_54 ?_
    rw [← hQ]
    exact W.iret (v := F 7 p0) hx hb hr (fun t ht hW => ⟨⟨F 7 p0, (), rfl, rfl, trivial⟩, hS.F ht⟩) hS.2.2 dX0_tellPiece_55
set_option maxHeartbeats 4000000 in
set_option maxRecDepth 100000 in
/-- tellPair -/
theorem c_X0_tellPair (l : Launch) (D : va_G) (cI cZ cO : ClassId) (ad : Nat → Nat) (n np nq : Nat) (F : Nat → Nat → Int32) (p0 w : Nat) (hs : p0 < nq) (hnq : nq ≤ 20) (hw : w < 5) (hrip : ∀ q, q < nq → F 12 q = 0 ∨ F 12 q = 1) : Met l yX0_tellPair wsX0_tellPair ({ frames := 0, cells := 0, slots := 0, locals := 0 } : Room) (va_Pc [.ref (ad 0), .int (nI p0), .int (nI w)] (Pr D (gT cI cZ cO) (wG cI cZ cO ad n np nq F) V0)) (va_Qi (S := Unit) (fun (r : Int32) (_ : Unit) => r = prT F p0 w) (fun _ _ => True) (fun _ => False)) 0 0 (fun _ => False) := by
  refine Met.ofW (cc := cX0_tellPair) (maxL := 3) (ret := (some .int)) (by decide) rfl ?_
  intro p e s m args below meth c s₁ B hml hv
  obtain ⟨hargs, hP, hK, hV⟩ := hv
  have hx := B.exec
  have hb := B.bytes
  have hr := B.returns
  have hts := atoms_spec (ws := wsX0_tellPair) B.pre
  have hown : s.vm.findClass RX0 = some m.cls := findClass_of_methodNamed B.named
  have hlocks := B.notSynchronized
  have hS : va_S (fun _ => False) s.heap s.heap [] := va_S.rf
  have hiw : ∀ w ∈ wsX00, w ∈ wsX0_tellPair := (fun _ h => List.mem_cons_of_mem _ (List.mem_append_right _ h))
  have hRf : 0 ≤ (headSpec wsX0_tellPair ({ frames := 0, cells := 0, slots := 0, locals := 0 } : Room)).room.frames := Nat.le_refl _
  have hRl : 0 ≤ (headSpec wsX0_tellPair ({ frames := 0, cells := 0, slots := 0, locals := 0 } : Room)).room.locals := Nat.le_refl _
  have hRc : 0 ≤ (headSpec wsX0_tellPair ({ frames := 0, cells := 0, slots := 0, locals := 0 } : Room)).room.cells := Nat.le_refl _
  have hRs : 0 ≤ (headSpec wsX0_tellPair ({ frames := 0, cells := 0, slots := 0, locals := 0 } : Room)).room.slots := Nat.le_refl _
  generalize (headSpec wsX0_tellPair ({ frames := 0, cells := 0, slots := 0, locals := 0 } : Room)).room = R at hRf hRl hRc hRs ⊢
  have hl := lv_entry [.ref (ad 0), .int (nI p0), .int (nI w)] (n := 3) (Nat.le_of_ble_eq_true rfl)
  refine W.eq (show entryFrame m args 3 = _ from by rw [hargs, lg_entry_eq]) ?_
  generalize (lg_sl [.ref (ad 0), .int (nI p0), .int (nI w)] ++ List.replicate (3 - (lg_sl [.ref (ad 0), .int (nI p0), .int (nI w)]).length) Slot.unset).toArray = ls at hl ⊢
  have hl : lv_has ls 3 [(0, .ref (ad 0)), (1, .int (nI p0)), (2, .int (nI w))] := hl
  generalize hQ : MQ _ _ _ _ _ _ _ = Q
  refine lv_iload_n hx hb dX0_tellPair_0 rfl (lv_at hl 2 rfl) ?_
  rcases (show w = 0 ∨ w = 1 ∨ w = 2 ∨ w = 3 ∨ w = 4 by omega) with rfl | rfl | rfl | rfl | rfl
  · refine lv_tableIn (off := 31) (tgt := 32) hx hb dX0_tellPair_1 (by decide) (by decide) (by decide) (by decide) ?_
    refine lv_aload_n hx hb dX0_tellPair_32 rfl (lv_at hl 0 rfl) ?_
    refine va_get (D := D) (ci := 0) (v := .ref (ad 8)) (C := RX0) (T := TX0) (N := 16) hx hb hts hiw hown hK hP 0 g_at0 rfl 10 (by decide) (hts (.fieldLink RX0 33 "GloveCutters" "pairColour" "[I") (by decide +kernel)) (fun _ h9 => h9) rfl dX0_tellPair_33 ?_
    refine lv_iload_n hx hb dX0_tellPair_36 rfl (lv_at hl 1 rfl) ?_
    refine nv_iald hx hb hK hP 8 0 g_at8 rfl (by omega) (by omega) dX0_tellPair_37 ?_
    rw [← hQ]
    exact W.iret (v := F 8 p0) hx hb hr (fun t ht hW => ⟨⟨F 8 p0, (), rfl, rfl, trivial⟩, hS.F ht⟩) hS.2.2 dX0_tellPair_38
  · refine lv_tableIn (off := 38) (tgt := 39) hx hb dX0_tellPair_1 (by decide) (by decide) (by decide) (by decide) ?_
    refine lv_aload_n hx hb dX0_tellPair_39 rfl (lv_at hl 0 rfl) ?_
    refine va_get (D := D) (ci := 0) (v := .ref (ad 9)) (C := RX0) (T := TX0) (N := 16) hx hb hts hiw hown hK hP 0 g_at0 rfl 11 (by decide) (hts (.fieldLink RX0 36 "GloveCutters" "pairTrankSkin" "[I") (by decide +kernel)) (fun _ h9 => h9) rfl dX0_tellPair_40 ?_
    refine lv_iload_n hx hb dX0_tellPair_43 rfl (lv_at hl 1 rfl) ?_
    refine nv_iald hx hb hK hP 9 0 g_at9 rfl (by omega) (by omega) dX0_tellPair_44 ?_
    rw [← hQ]
    exact W.iret (v := F 9 p0) hx hb hr (fun t ht hW => ⟨⟨F 9 p0, (), rfl, rfl, trivial⟩, hS.F ht⟩) hS.2.2 dX0_tellPair_45
  · refine lv_tableIn (off := 45) (tgt := 46) hx hb dX0_tellPair_1 (by decide) (by decide) (by decide) (by decide) ?_
    refine lv_aload_n hx hb dX0_tellPair_46 rfl (lv_at hl 0 rfl) ?_
    refine va_get (D := D) (ci := 0) (v := .ref (ad 10)) (C := RX0) (T := TX0) (N := 16) hx hb hts hiw hown hK hP 0 g_at0 rfl 12 (by decide) (hts (.fieldLink RX0 39 "GloveCutters" "pairSkins" "[I") (by decide +kernel)) (fun _ h9 => h9) rfl dX0_tellPair_47 ?_
    refine lv_iload_n hx hb dX0_tellPair_50 rfl (lv_at hl 1 rfl) ?_
    refine nv_iald hx hb hK hP 10 0 g_at10 rfl (by omega) (by omega) dX0_tellPair_51 ?_
    rw [← hQ]
    exact W.iret (v := F 10 p0) hx hb hr (fun t ht hW => ⟨⟨F 10 p0, (), rfl, rfl, trivial⟩, hS.F ht⟩) hS.2.2 dX0_tellPair_52
  · refine lv_tableIn (off := 52) (tgt := 53) hx hb dX0_tellPair_1 (by decide) (by decide) (by decide) (by decide) ?_
    refine lv_aload_n hx hb dX0_tellPair_53 rfl (lv_at hl 0 rfl) ?_
    refine va_get (D := D) (ci := 0) (v := .ref (ad 11)) (C := RX0) (T := TX0) (N := 16) hx hb hts hiw hown hK hP 0 g_at0 rfl 13 (by decide) (hts (.fieldLink RX0 42 "GloveCutters" "pairThin" "[I") (by decide +kernel)) (fun _ h9 => h9) rfl dX0_tellPair_54 ?_
    refine lv_iload_n hx hb dX0_tellPair_57 rfl (lv_at hl 1 rfl) ?_
    refine nv_iald hx hb hK hP 11 0 g_at11 rfl (by omega) (by omega) dX0_tellPair_58 ?_
    rw [← hQ]
    exact W.iret (v := F 11 p0) hx hb hr (fun t ht hW => ⟨⟨F 11 p0, (), rfl, rfl, trivial⟩, hS.F ht⟩) hS.2.2 dX0_tellPair_59
  · refine lv_tableOut (tgt := 60) hx hb dX0_tellPair_1 (by decide) (by decide) ?_
    refine lv_aload_n hx hb dX0_tellPair_60 rfl (lv_at hl 0 rfl) ?_
    refine va_get (D := D) (ci := 0) (v := .ref (ad 12)) (C := RX0) (T := TX0) (N := 16) hx hb hts hiw hown hK hP 0 g_at0 rfl 14 (by decide) (hts (.fieldLink RX0 45 "GloveCutters" "pairRipped" "[Z") (by decide +kernel)) (fun _ h9 => h9) rfl dX0_tellPair_61 ?_
    refine lv_iload_n hx hb dX0_tellPair_64 rfl (lv_at hl 1 rfl) ?_
    refine nv_zald hx hb hK hP 12 1 g_at12 rfl (by omega) (by decide) dX0_tellPair_65 ?_
    refine lv_if_eq (tgt := 73) hx hb dX0_tellPair_66 (by decide) (fun c_1 => ?_) (fun c_1 => ?_)
    · refine lv_iconst (v := nI 0) hx hb dX0_tellPair_73 (by decide) ?_
      rw [← hQ]
      exact W.iret (v := nI 0) hx hb hr (fun t ht hW => ⟨⟨nI 0, (), rfl, (by show nI 0 = F 12 p0; rw [c_1]; rfl), trivial⟩, hS.F ht⟩) hS.2.2 dX0_tellPair_74
    · refine lv_iconst (v := nI 1) hx hb dX0_tellPair_69 (by decide) ?_
      refine lv_goto (tgt := 74) hx hb dX0_tellPair_70 (by decide) ?_
      rw [← hQ]
      exact W.iret (v := nI 1) hx hb hr (fun t ht hW => ⟨⟨nI 1, (), rfl, (by show nI 1 = F 12 p0; rcases hrip p0 hs with q9 | q9; exact absurd q9 c_1; rw [q9]; rfl), trivial⟩, hS.F ht⟩) hS.2.2 dX0_tellPair_74
set_option maxHeartbeats 4000000 in
set_option maxRecDepth 100000 in
/-- piecesAt -/
theorem c_X0_piecesAt (l : Launch) (D : va_G) (cI cZ cO : ClassId) (ad : Nat → Nat) (n np nq : Nat) (F : Nat → Nat → Int32) (v : Int32) (hnp : np ≤ 150) : Met l yX0_piecesAt wsX0_piecesAt ({ frames := 0, cells := 0, slots := 0, locals := 0 } : Room) (va_Pc [.ref (ad 0), .int v] (Pr D (gT cI cZ cO) (wG cI cZ cO ad n np nq F) V0)) (va_Qi (S := Unit) (fun (r : Int32) (_ : Unit) => r = nI (pAt F np v)) (fun _ _ => True) (fun _ => False)) 0 0 (fun _ => False) := by
  refine Met.ofW (cc := cX0_piecesAt) (maxL := 4) (ret := (some .int)) (by decide) rfl ?_
  intro p e s m args below meth c s₁ B hml hv
  obtain ⟨hargs, hP, hK, hV⟩ := hv
  have hx := B.exec
  have hb := B.bytes
  have hr := B.returns
  have hts := atoms_spec (ws := wsX0_piecesAt) B.pre
  have hown : s.vm.findClass RX0 = some m.cls := findClass_of_methodNamed B.named
  have hlocks := B.notSynchronized
  have hS : va_S (fun _ => False) s.heap s.heap [] := va_S.rf
  have hiw : ∀ w ∈ wsX00, w ∈ wsX0_piecesAt := (fun _ h => List.mem_cons_of_mem _ (List.mem_append_right _ h))
  have hRf : 0 ≤ (headSpec wsX0_piecesAt ({ frames := 0, cells := 0, slots := 0, locals := 0 } : Room)).room.frames := Nat.le_refl _
  have hRl : 0 ≤ (headSpec wsX0_piecesAt ({ frames := 0, cells := 0, slots := 0, locals := 0 } : Room)).room.locals := Nat.le_refl _
  have hRc : 0 ≤ (headSpec wsX0_piecesAt ({ frames := 0, cells := 0, slots := 0, locals := 0 } : Room)).room.cells := Nat.le_refl _
  have hRs : 0 ≤ (headSpec wsX0_piecesAt ({ frames := 0, cells := 0, slots := 0, locals := 0 } : Room)).room.slots := Nat.le_refl _
  generalize (headSpec wsX0_piecesAt ({ frames := 0, cells := 0, slots := 0, locals := 0 } : Room)).room = R at hRf hRl hRc hRs ⊢
  have hl := lv_entry [.ref (ad 0), .int v] (n := 4) (Nat.le_of_ble_eq_true rfl)
  refine W.eq (show entryFrame m args 4 = _ from by rw [hargs, lg_entry_eq]) ?_
  generalize (lg_sl [.ref (ad 0), .int v] ++ List.replicate (4 - (lg_sl [.ref (ad 0), .int v]).length) Slot.unset).toArray = ls at hl ⊢
  have hl : lv_has ls 4 [(0, .ref (ad 0)), (1, .int v)] := hl
  generalize hQ : MQ _ _ _ _ _ _ _ = Q
  refine lv_iconst (v := nI 0) hx hb dX0_piecesAt_0 (by decide) ?_
  refine lv_istore_n (lv' := [(2, .int (nI 0)), (0, .ref (ad 0)), (1, .int v)]) hx hb dX0_piecesAt_1 rfl hl (by decide) rfl (fun ls hl => ?_)
  refine lv_iconst (v := nI 0) hx hb dX0_piecesAt_2 (by decide) ?_
  refine lv_istore_n (lv' := [(3, .int (nI 0)), (2, .int (nI 0)), (0, .ref (ad 0)), (1, .int v)]) hx hb dX0_piecesAt_3 rfl hl (by decide) rfl (fun ls hl => ?_)
  have L4 : ∀ (fu : Nat) (k : Nat) (i : Nat) (H : Heap) (locs : List Loc) (ls : Array Slot), np - i < fu → (i ≤ np) → (k = cn (fun p => F 6 p == v) i) → (k ≤ i) → va_P D vwCl (wG cI cZ cO ad n np nq F) H → va_S (fun _ => False) s.heap H locs → lv_has ls 4 [(0, .ref (ad 0)), (1, .int v), (2, .int (nI k)), (3, .int (nI i))] → W p l e R s m args below meth c H locs 0 0 Q (F0 m 4 ls []) := by
    intro fu
    induction fu with
    | zero => intro _ _ _ _ _ h; exact absurd h (Nat.not_lt_zero _)
    | succ fu ih4 =>
      intro k i H locs ls hm4 h1 h2 h3 hP  hS hl
      refine lv_iload_n hx hb dX0_piecesAt_4 rfl (lv_at hl 3 rfl) ?_
      refine lv_aload_n hx hb dX0_piecesAt_5 rfl (lv_at hl 0 rfl) ?_
      refine va_get (D := D) (ci := 0) (v := .int (nI np)) (C := RX0) (T := TX0) (N := 16) hx hb hts hiw hown hK hP 0 g_at0 rfl 4 (by decide) (hts (.fieldLink RX0 107 "GloveCutters" "pieces" "I") (by decide +kernel)) (fun _ h9 => h9) rfl dX0_piecesAt_6 ?_
      refine nv_icmp_ge (tgt := 31) hx hb (by omega) (by omega) dX0_piecesAt_9 (by decide) (fun c_1 => ?_) (fun c_1 => ?_)
      · refine lv_iload_n hx hb dX0_piecesAt_31 rfl (lv_at hl 2 rfl) ?_
        rw [← hQ]
        exact W.iret (v := nI k) hx hb hr (fun t ht hW => ⟨⟨nI k, (), rfl, (by rw [h2, show i = np by omega]; rfl), trivial⟩, hS.F ht⟩) hS.2.2 dX0_piecesAt_32
      · refine lv_aload_n hx hb dX0_piecesAt_12 rfl (lv_at hl 0 rfl) ?_
        refine va_get (D := D) (ci := 0) (v := .ref (ad 6)) (C := RX0) (T := TX0) (N := 16) hx hb hts hiw hown hK hP 0 g_at0 rfl 7 (by decide) (hts (.fieldLink RX0 27 "GloveCutters" "pieceWhere" "[I") (by decide +kernel)) (fun _ h9 => h9) rfl dX0_piecesAt_13 ?_
        refine lv_iload_n hx hb dX0_piecesAt_16 rfl (lv_at hl 3 rfl) ?_
        refine nv_iald hx hb hK hP 6 0 g_at6 rfl (by omega) (by omega) dX0_piecesAt_17 ?_
        refine lv_iload_n hx hb dX0_piecesAt_18 rfl (lv_at hl 1 rfl) ?_
        refine lv_icmp_ne (tgt := 25) hx hb dX0_piecesAt_19 (by decide) (fun c_2 => ?_) (fun c_2 => ?_)
        · refine lv_iinc (k := 3) (v := nI (i + 1)) (lv' := [(3, .int (nI (i + 1))), (0, .ref (ad 0)), (1, .int v), (2, .int (nI k))]) hx hb dX0_piecesAt_25 hl rfl (nI_add i 1) (by decide) rfl (fun ls hl => ?_)
          refine lv_goto (tgt := 4) hx hb dX0_piecesAt_28 (by decide) ?_
          exact ih4 k (i + 1) _ _ _ (by omega) (by omega) (by rw [h2]; exact (cn_f (beq_f c_2)).symm) (by omega) hP hS (lv_sub hl [1, 2, 3, 0] rfl)
        · refine lv_iinc (k := 2) (v := nI (k + 1)) (lv' := [(2, .int (nI (k + 1))), (0, .ref (ad 0)), (1, .int v), (3, .int (nI i))]) hx hb dX0_piecesAt_22 hl rfl (nI_add k 1) (by decide) rfl (fun ls hl => ?_)
          refine lv_iinc (k := 3) (v := nI (i + 1)) (lv' := [(3, .int (nI (i + 1))), (2, .int (nI (k + 1))), (0, .ref (ad 0)), (1, .int v)]) hx hb dX0_piecesAt_25 hl rfl (nI_add i 1) (by decide) rfl (fun ls hl => ?_)
          refine lv_goto (tgt := 4) hx hb dX0_piecesAt_28 (by decide) ?_
          exact ih4 (k + 1) (i + 1) _ _ _ (by omega) (by omega) (by rw [h2]; exact (cn_t (beq_t c_2)).symm) (by omega) hP hS (lv_sub hl [2, 3, 1, 0] rfl)
  exact L4 _ 0 0 _ _ _ (Nat.lt_succ_self _) (by omega) rfl (by omega) hP hS (lv_sub hl [2, 3, 1, 0] rfl)
set_option maxHeartbeats 4000000 in
set_option maxRecDepth 100000 in
/-- pairsInUse -/
theorem c_X0_pairsInUse (l : Launch) (D : va_G) (cI cZ cO : ClassId) (ad : Nat → Nat) (n np nq : Nat) (F : Nat → Nat → Int32) (hnq : nq ≤ 20) : Met l yX0_pairsInUse wsX0_pairsInUse ({ frames := 0, cells := 0, slots := 0, locals := 0 } : Room) (va_Pc [.ref (ad 0)] (Pr D (gT cI cZ cO) (wG cI cZ cO ad n np nq F) V0)) (va_Qi (S := Unit) (fun (r : Int32) (_ : Unit) => r = nI (pUse F nq)) (fun _ _ => True) (fun _ => False)) 0 0 (fun _ => False) := by
  refine Met.ofW (cc := cX0_pairsInUse) (maxL := 3) (ret := (some .int)) (by decide) rfl ?_
  intro p e s m args below meth c s₁ B hml hv
  obtain ⟨hargs, hP, hK, hV⟩ := hv
  have hx := B.exec
  have hb := B.bytes
  have hr := B.returns
  have hts := atoms_spec (ws := wsX0_pairsInUse) B.pre
  have hown : s.vm.findClass RX0 = some m.cls := findClass_of_methodNamed B.named
  have hlocks := B.notSynchronized
  have hS : va_S (fun _ => False) s.heap s.heap [] := va_S.rf
  have hiw : ∀ w ∈ wsX00, w ∈ wsX0_pairsInUse := (fun _ h => List.mem_cons_of_mem _ (List.mem_append_right _ h))
  have hRf : 0 ≤ (headSpec wsX0_pairsInUse ({ frames := 0, cells := 0, slots := 0, locals := 0 } : Room)).room.frames := Nat.le_refl _
  have hRl : 0 ≤ (headSpec wsX0_pairsInUse ({ frames := 0, cells := 0, slots := 0, locals := 0 } : Room)).room.locals := Nat.le_refl _
  have hRc : 0 ≤ (headSpec wsX0_pairsInUse ({ frames := 0, cells := 0, slots := 0, locals := 0 } : Room)).room.cells := Nat.le_refl _
  have hRs : 0 ≤ (headSpec wsX0_pairsInUse ({ frames := 0, cells := 0, slots := 0, locals := 0 } : Room)).room.slots := Nat.le_refl _
  generalize (headSpec wsX0_pairsInUse ({ frames := 0, cells := 0, slots := 0, locals := 0 } : Room)).room = R at hRf hRl hRc hRs ⊢
  have hl := lv_entry [.ref (ad 0)] (n := 3) (Nat.le_of_ble_eq_true rfl)
  refine W.eq (show entryFrame m args 3 = _ from by rw [hargs, lg_entry_eq]) ?_
  generalize (lg_sl [.ref (ad 0)] ++ List.replicate (3 - (lg_sl [.ref (ad 0)]).length) Slot.unset).toArray = ls at hl ⊢
  have hl : lv_has ls 3 [(0, .ref (ad 0))] := hl
  generalize hQ : MQ _ _ _ _ _ _ _ = Q
  refine lv_iconst (v := nI 0) hx hb dX0_pairsInUse_0 (by decide) ?_
  refine lv_istore_n (lv' := [(1, .int (nI 0)), (0, .ref (ad 0))]) hx hb dX0_pairsInUse_1 rfl hl (by decide) rfl (fun ls hl => ?_)
  refine lv_iconst (v := nI 0) hx hb dX0_pairsInUse_2 (by decide) ?_
  refine lv_istore_n (lv' := [(2, .int (nI 0)), (1, .int (nI 0)), (0, .ref (ad 0))]) hx hb dX0_pairsInUse_3 rfl hl (by decide) rfl (fun ls hl => ?_)
  have L4 : ∀ (fu : Nat) (k : Nat) (i : Nat) (H : Heap) (locs : List Loc) (ls : Array Slot), nq - i < fu → (i ≤ nq) → (k = cn (fun q => F 12 q == 0) i) → (k ≤ i) → va_P D vwCl (wG cI cZ cO ad n np nq F) H → va_S (fun _ => False) s.heap H locs → lv_has ls 3 [(0, .ref (ad 0)), (1, .int (nI k)), (2, .int (nI i))] → W p l e R s m args below meth c H locs 0 0 Q (F0 m 4 ls []) := by
    intro fu
    induction fu with
    | zero => intro _ _ _ _ _ h; exact absurd h (Nat.not_lt_zero _)
    | succ fu ih4 =>
      intro k i H locs ls hm4 h1 h2 h3 hP  hS hl
      refine lv_iload_n hx hb dX0_pairsInUse_4 rfl (lv_at hl 2 rfl) ?_
      refine lv_aload_n hx hb dX0_pairsInUse_5 rfl (lv_at hl 0 rfl) ?_
      refine va_get (D := D) (ci := 0) (v := .int (nI nq)) (C := RX0) (T := TX0) (N := 16) hx hb hts hiw hown hK hP 0 g_at0 rfl 9 (by decide) (hts (.fieldLink RX0 136 "GloveCutters" "sewn" "I") (by decide +kernel)) (fun _ h9 => h9) rfl dX0_pairsInUse_6 ?_
      refine nv_icmp_ge (tgt := 30) hx hb (by omega) (by omega) dX0_pairsInUse_9 (by decide) (fun c_1 => ?_) (fun c_1 => ?_)
      · refine lv_iload_n hx hb dX0_pairsInUse_30 rfl (lv_at hl 1 rfl) ?_
        rw [← hQ]
        exact W.iret (v := nI k) hx hb hr (fun t ht hW => ⟨⟨nI k, (), rfl, (by rw [h2, show i = nq by omega]; rfl), trivial⟩, hS.F ht⟩) hS.2.2 dX0_pairsInUse_31
      · refine lv_aload_n hx hb dX0_pairsInUse_12 rfl (lv_at hl 0 rfl) ?_
        refine va_get (D := D) (ci := 0) (v := .ref (ad 12)) (C := RX0) (T := TX0) (N := 16) hx hb hts hiw hown hK hP 0 g_at0 rfl 14 (by decide) (hts (.fieldLink RX0 45 "GloveCutters" "pairRipped" "[Z") (by decide +kernel)) (fun _ h9 => h9) rfl dX0_pairsInUse_13 ?_
        refine lv_iload_n hx hb dX0_pairsInUse_16 rfl (lv_at hl 2 rfl) ?_
        refine nv_zald hx hb hK hP 12 1 g_at12 rfl (by omega) (by decide) dX0_pairsInUse_17 ?_
        refine lv_if_ne (tgt := 24) hx hb dX0_pairsInUse_18 (by decide) (fun c_2 => ?_) (fun c_2 => ?_)
        · refine lv_iinc (k := 2) (v := nI (i + 1)) (lv' := [(2, .int (nI (i + 1))), (0, .ref (ad 0)), (1, .int (nI k))]) hx hb dX0_pairsInUse_24 hl rfl (nI_add i 1) (by decide) rfl (fun ls hl => ?_)
          refine lv_goto (tgt := 4) hx hb dX0_pairsInUse_27 (by decide) ?_
          exact ih4 k (i + 1) _ _ _ (by omega) (by omega) (by rw [h2]; exact (cn_f (beq_f c_2)).symm) (by omega) hP hS (lv_sub hl [1, 2, 0] rfl)
        · refine lv_iinc (k := 1) (v := nI (k + 1)) (lv' := [(1, .int (nI (k + 1))), (0, .ref (ad 0)), (2, .int (nI i))]) hx hb dX0_pairsInUse_21 hl rfl (nI_add k 1) (by decide) rfl (fun ls hl => ?_)
          refine lv_iinc (k := 2) (v := nI (i + 1)) (lv' := [(2, .int (nI (i + 1))), (1, .int (nI (k + 1))), (0, .ref (ad 0))]) hx hb dX0_pairsInUse_24 hl rfl (nI_add i 1) (by decide) rfl (fun ls hl => ?_)
          refine lv_goto (tgt := 4) hx hb dX0_pairsInUse_27 (by decide) ?_
          exact ih4 (k + 1) (i + 1) _ _ _ (by omega) (by omega) (by rw [h2]; exact (cn_t (beq_t c_2)).symm) (by omega) hP hS (lv_sub hl [2, 1, 0] rfl)
  exact L4 _ 0 0 _ _ _ (Nat.lt_succ_self _) (by omega) rfl (by omega) hP hS (lv_sub hl [2, 1, 0] rfl)
set_option maxHeartbeats 4000000 in
set_option maxRecDepth 100000 in
/-- tellCount -/
theorem c_X0_tellCount (l : Launch) (D : va_G) (cI cZ cO : ClassId) (ad : Nat → Nat) (n np nq : Nat) (F : Nat → Nat → Int32) (w : Nat) (hnp : np ≤ 150) (hnq : nq ≤ 20) (hw : w < 7) : Met l yX0_tellCount wsX0_tellCount ({ frames := 1, cells := 0, slots := 0, locals := 23 } : Room) (va_Pc [.ref (ad 0), .int (nI w)] (Pr D (gT cI cZ cO) (wG cI cZ cO ad n np nq F) V0)) (va_Qi (S := Unit) (fun (r : Int32) (_ : Unit) => r = cnT n np nq F w) (fun _ _ => True) (fun _ => False)) 0 0 (fun _ => False) := by
  refine Met.ofW (cc := cX0_tellCount) (maxL := 2) (ret := (some .int)) (by decide) rfl ?_
  intro p e s m args below meth c s₁ B hml hv
  obtain ⟨hargs, hP, hK, hV⟩ := hv
  have hx := B.exec
  have hb := B.bytes
  have hr := B.returns
  have hts := atoms_spec (ws := wsX0_tellCount) B.pre
  have hown : s.vm.findClass RX0 = some m.cls := findClass_of_methodNamed B.named
  have hlocks := B.notSynchronized
  have hS : va_S (fun _ => False) s.heap s.heap [] := va_S.rf
  have hiw : ∀ w ∈ wsX00, w ∈ wsX0_tellCount := (fun _ h => List.mem_cons_of_mem _ (List.mem_append_right _ h))
  have hRf : 1 ≤ (headSpec wsX0_tellCount ({ frames := 1, cells := 0, slots := 0, locals := 23 } : Room)).room.frames := Nat.le_refl _
  have hRl : 23 ≤ (headSpec wsX0_tellCount ({ frames := 1, cells := 0, slots := 0, locals := 23 } : Room)).room.locals := Nat.le_refl _
  have hRc : 0 ≤ (headSpec wsX0_tellCount ({ frames := 1, cells := 0, slots := 0, locals := 23 } : Room)).room.cells := Nat.le_refl _
  have hRs : 0 ≤ (headSpec wsX0_tellCount ({ frames := 1, cells := 0, slots := 0, locals := 23 } : Room)).room.slots := Nat.le_refl _
  generalize (headSpec wsX0_tellCount ({ frames := 1, cells := 0, slots := 0, locals := 23 } : Room)).room = R at hRf hRl hRc hRs ⊢
  have hl := lv_entry [.ref (ad 0), .int (nI w)] (n := 2) (Nat.le_of_ble_eq_true rfl)
  refine W.eq (show entryFrame m args 2 = _ from by rw [hargs, lg_entry_eq]) ?_
  generalize (lg_sl [.ref (ad 0), .int (nI w)] ++ List.replicate (2 - (lg_sl [.ref (ad 0), .int (nI w)]).length) Slot.unset).toArray = ls at hl ⊢
  have hl : lv_has ls 2 [(0, .ref (ad 0)), (1, .int (nI w))] := hl
  generalize hQ : MQ _ _ _ _ _ _ _ = Q
  have hp2 := pAt_2 F np
  refine lv_iload_n hx hb dX0_tellCount_0 rfl (lv_at hl 1 rfl) ?_
  rcases (show w = 0 ∨ w = 1 ∨ w = 2 ∨ w = 3 ∨ w = 4 ∨ w = 5 ∨ w = 6 by omega) with rfl | rfl | rfl | rfl | rfl | rfl | rfl
  · refine lv_tableIn (off := 39) (tgt := 40) hx hb dX0_tellCount_1 (by decide) (by decide) (by decide) (by decide) ?_
    refine lv_aload_n hx hb dX0_tellCount_40 rfl (lv_at hl 0 rfl) ?_
    refine va_get (D := D) (ci := 0) (v := .int (nI n)) (C := RX0) (T := TX0) (N := 16) hx hb hts hiw hown hK hP 0 g_at0 rfl 0 (by decide) (hts (.fieldLink RX0 56 "GloveCutters" "skins" "I") (by decide +kernel)) (fun _ h9 => h9) rfl dX0_tellCount_41 ?_
    rw [← hQ]
    exact W.iret (v := nI n) hx hb hr (fun t ht hW => ⟨⟨nI n, (), rfl, rfl, trivial⟩, hS.F ht⟩) hS.2.2 dX0_tellCount_44
  · refine lv_tableIn (off := 44) (tgt := 45) hx hb dX0_tellCount_1 (by decide) (by decide) (by decide) (by decide) ?_
    refine lv_aload_n hx hb dX0_tellCount_45 rfl (lv_at hl 0 rfl) ?_
    refine va_get (D := D) (ci := 0) (v := .int (nI np)) (C := RX0) (T := TX0) (N := 16) hx hb hts hiw hown hK hP 0 g_at0 rfl 4 (by decide) (hts (.fieldLink RX0 107 "GloveCutters" "pieces" "I") (by decide +kernel)) (fun _ h9 => h9) rfl dX0_tellCount_46 ?_
    rw [← hQ]
    exact W.iret (v := nI np) hx hb hr (fun t ht hW => ⟨⟨nI np, (), rfl, rfl, trivial⟩, hS.F ht⟩) hS.2.2 dX0_tellCount_49
  · refine lv_tableIn (off := 49) (tgt := 50) hx hb dX0_tellCount_1 (by decide) (by decide) (by decide) (by decide) ?_
    refine lv_aload_n hx hb dX0_tellCount_50 rfl (lv_at hl 0 rfl) ?_
    refine lv_iconst (v := -1) hx hb dX0_tellCount_51 (by decide) ?_
    refine va_calli (va_runV (As := [.int (-1)]) (rest := []) ⟨hx, hb, hml, hown, hts⟩ (c_X0_piecesAt l D cI cZ cO ad n np nq F (-1) hnp) (cwV 1 hts gX0_tellCount_X0_piecesAt rfl rfl rfl (by decide +kernel) ⟨Nat.le_trans (Nat.le_of_ble_eq_true rfl) hRf, Nat.le_trans (Nat.le_of_ble_eq_true rfl) hRl⟩) (pr_V hP (ci := 0) (q0 := 0) rfl g_at0 rfl hP hK [0, 1, 2] rfl V0_at V0_c) rfl rfl hl.1 rfl (lv_room (Nat.le_of_ble_eq_true rfl)) dX0_tellCount_52 ⟨Nat.le_trans (Nat.zero_le _) hRc, Nat.le_trans (Nat.zero_le _) hRs⟩) hS (fun _ _ h => h.elim) (fun _ h => h.elim) (fun r_1 _ t H1 locs ht hvm hw_1 hB hz hk hS => ?_)
    have hP := P_kept hP hk
    obtain rfl := hw_1
    rw [← hQ]
    exact W.iret (v := nI (pAt F np (-1))) hx hb hr (fun t ht hW => ⟨⟨nI (pAt F np (-1)), (), rfl, rfl, trivial⟩, hS.F ht⟩) hS.2.2 dX0_tellCount_55
  · refine lv_tableIn (off := 55) (tgt := 56) hx hb dX0_tellCount_1 (by decide) (by decide) (by decide) (by decide) ?_
    refine lv_aload_n hx hb dX0_tellCount_56 rfl (lv_at hl 0 rfl) ?_
    refine va_get (D := D) (ci := 0) (v := .int (nI np)) (C := RX0) (T := TX0) (N := 16) hx hb hts hiw hown hK hP 0 g_at0 rfl 4 (by decide) (hts (.fieldLink RX0 107 "GloveCutters" "pieces" "I") (by decide +kernel)) (fun _ h9 => h9) rfl dX0_tellCount_57 ?_
    refine lv_aload_n hx hb dX0_tellCount_60 rfl (lv_at hl 0 rfl) ?_
    refine lv_iconst (v := -1) hx hb dX0_tellCount_61 (by decide) ?_
    refine va_calli (va_runV (As := [.int (-1)]) (rest := [.int (nI np)]) ⟨hx, hb, hml, hown, hts⟩ (c_X0_piecesAt l D cI cZ cO ad n np nq F (-1) hnp) (cwV 1 hts gX0_tellCount_X0_piecesAt rfl rfl rfl (by decide +kernel) ⟨Nat.le_trans (Nat.le_of_ble_eq_true rfl) hRf, Nat.le_trans (Nat.le_of_ble_eq_true rfl) hRl⟩) (pr_V hP (ci := 0) (q0 := 0) rfl g_at0 rfl hP hK [0, 1, 2] rfl V0_at V0_c) rfl rfl hl.1 rfl (lv_room (Nat.le_of_ble_eq_true rfl)) dX0_tellCount_62 ⟨Nat.le_trans (Nat.zero_le _) hRc, Nat.le_trans (Nat.zero_le _) hRs⟩) hS (fun _ _ h => h.elim) (fun _ h => h.elim) (fun r_2 _ t H1 locs ht hvm hw_2 hB hz hk hS => ?_)
    have hP := P_kept hP hk
    obtain rfl := hw_2
    refine nv_isub hx hb (by omega) dX0_tellCount_65 ?_
    refine lv_aload_n hx hb dX0_tellCount_66 rfl (lv_at hl 0 rfl) ?_
    refine lv_bipush (v := -2) hx hb dX0_tellCount_67 (by decide) ?_
    refine va_calli (va_runV (As := [.int (-2)]) (rest := [.int (nI (np - (pAt F np (-1))))]) ⟨hx, hb, hml, hown, hts⟩ (c_X0_piecesAt l D cI cZ cO ad n np nq F (-2) hnp) (cwV 1 hts gX0_tellCount_X0_piecesAt rfl rfl rfl (by decide +kernel) ⟨Nat.le_trans (Nat.le_of_ble_eq_true rfl) hRf, Nat.le_trans (Nat.le_of_ble_eq_true rfl) hRl⟩) (pr_V hP (ci := 0) (q0 := 0) rfl g_at0 rfl hP hK [0, 1, 2] rfl V0_at V0_c) rfl rfl hl.1 rfl (lv_room (Nat.le_of_ble_eq_true rfl)) dX0_tellCount_69 ⟨Nat.le_trans (Nat.zero_le _) hRc, Nat.le_trans (Nat.zero_le _) hRs⟩) hS (fun _ _ h => h.elim) (fun _ h => h.elim) (fun r_3 _ t H1 locs ht hvm hw_3 hB hz hk hS => ?_)
    have hP := P_kept hP hk
    obtain rfl := hw_3
    refine nv_isub hx hb (by omega) dX0_tellCount_72 ?_
    rw [← hQ]
    exact W.iret (v := nI ((np - (pAt F np (-1))) - (pAt F np (-2)))) hx hb hr (fun t ht hW => ⟨⟨nI ((np - (pAt F np (-1))) - (pAt F np (-2))), (), rfl, rfl, trivial⟩, hS.F ht⟩) hS.2.2 dX0_tellCount_73
  · refine lv_tableIn (off := 73) (tgt := 74) hx hb dX0_tellCount_1 (by decide) (by decide) (by decide) (by decide) ?_
    refine lv_aload_n hx hb dX0_tellCount_74 rfl (lv_at hl 0 rfl) ?_
    refine lv_bipush (v := -2) hx hb dX0_tellCount_75 (by decide) ?_
    refine va_calli (va_runV (As := [.int (-2)]) (rest := []) ⟨hx, hb, hml, hown, hts⟩ (c_X0_piecesAt l D cI cZ cO ad n np nq F (-2) hnp) (cwV 1 hts gX0_tellCount_X0_piecesAt rfl rfl rfl (by decide +kernel) ⟨Nat.le_trans (Nat.le_of_ble_eq_true rfl) hRf, Nat.le_trans (Nat.le_of_ble_eq_true rfl) hRl⟩) (pr_V hP (ci := 0) (q0 := 0) rfl g_at0 rfl hP hK [0, 1, 2] rfl V0_at V0_c) rfl rfl hl.1 rfl (lv_room (Nat.le_of_ble_eq_true rfl)) dX0_tellCount_77 ⟨Nat.le_trans (Nat.zero_le _) hRc, Nat.le_trans (Nat.zero_le _) hRs⟩) hS (fun _ _ h => h.elim) (fun _ h => h.elim) (fun r_4 _ t H1 locs ht hvm hw_4 hB hz hk hS => ?_)
    have hP := P_kept hP hk
    obtain rfl := hw_4
    rw [← hQ]
    exact W.iret (v := nI (pAt F np (-2))) hx hb hr (fun t ht hW => ⟨⟨nI (pAt F np (-2)), (), rfl, rfl, trivial⟩, hS.F ht⟩) hS.2.2 dX0_tellCount_80
  · refine lv_tableIn (off := 80) (tgt := 81) hx hb dX0_tellCount_1 (by decide) (by decide) (by decide) (by decide) ?_
    refine lv_aload_n hx hb dX0_tellCount_81 rfl (lv_at hl 0 rfl) ?_
    refine va_get (D := D) (ci := 0) (v := .int (nI nq)) (C := RX0) (T := TX0) (N := 16) hx hb hts hiw hown hK hP 0 g_at0 rfl 9 (by decide) (hts (.fieldLink RX0 136 "GloveCutters" "sewn" "I") (by decide +kernel)) (fun _ h9 => h9) rfl dX0_tellCount_82 ?_
    rw [← hQ]
    exact W.iret (v := nI nq) hx hb hr (fun t ht hW => ⟨⟨nI nq, (), rfl, rfl, trivial⟩, hS.F ht⟩) hS.2.2 dX0_tellCount_85
  · refine lv_tableOut (tgt := 86) hx hb dX0_tellCount_1 (by decide) (by decide) ?_
    refine lv_aload_n hx hb dX0_tellCount_86 rfl (lv_at hl 0 rfl) ?_
    refine va_calli (va_runV (As := []) (rest := []) ⟨hx, hb, hml, hown, hts⟩ (c_X0_pairsInUse l D cI cZ cO ad n np nq F hnq) (cwV 0 hts gX0_tellCount_X0_pairsInUse rfl rfl rfl (by decide +kernel) ⟨Nat.le_trans (Nat.le_of_ble_eq_true rfl) hRf, Nat.le_trans (Nat.le_of_ble_eq_true rfl) hRl⟩) (pr_V hP (ci := 0) (q0 := 0) rfl g_at0 rfl hP hK [0, 1, 2] rfl V0_at V0_c) rfl rfl hl.1 rfl (lv_room (Nat.le_of_ble_eq_true rfl)) dX0_tellCount_87 ⟨Nat.le_trans (Nat.zero_le _) hRc, Nat.le_trans (Nat.zero_le _) hRs⟩) hS (fun _ _ h => h.elim) (fun _ h => h.elim) (fun r_5 _ t H1 locs ht hvm hw_5 hB hz hk hS => ?_)
    have hP := P_kept hP hk
    obtain rfl := hw_5
    rw [← hQ]
    exact W.iret (v := nI (pUse F nq)) hx hb hr (fun t ht hW => ⟨⟨nI (pUse F nq), (), rfl, rfl, trivial⟩, hS.F ht⟩) hS.2.2 dX0_tellCount_90
set_option maxHeartbeats 4000000 in
set_option maxRecDepth 100000 in
/-- wideOf -/
theorem c_X0_wideOf (l : Launch) (D : va_G) (kd : Nat) (tb : Bool) (hkd : kd < 4) : Met l yX0_wideOf wsX0_wideOf ({ frames := 0, cells := 0, slots := 0, locals := 0 } : Room) (va_Pc [.int (nI kd), .int (bI tb)] (Pr D [] [] (EnvG (fun _ => False)))) (va_Qi (S := Unit) (fun (r : Int32) (_ : Unit) => r = nI (wd kd tb)) (fun _ _ => True) (fun _ => False)) 0 0 (fun _ => False) := by
  refine Met.ofW (cc := cX0_wideOf) (maxL := 2) (ret := (some .int)) (by decide) rfl ?_
  intro p e s m args below meth c s₁ B hml hv
  obtain ⟨hargs, hP, hK, hV⟩ := hv
  have hx := B.exec
  have hb := B.bytes
  have hr := B.returns
  have hts := atoms_spec (ws := wsX0_wideOf) B.pre
  have hown : s.vm.findClass RX0 = some m.cls := findClass_of_methodNamed B.named
  have hlocks := B.notSynchronized
  have hS : va_S (fun _ => False) s.heap s.heap [] := va_S.rf
  have hV0 : EnvG (fun _ => False) s := EnvG.nar hV sub_no
  have hRf : 0 ≤ (headSpec wsX0_wideOf ({ frames := 0, cells := 0, slots := 0, locals := 0 } : Room)).room.frames := Nat.le_refl _
  have hRl : 0 ≤ (headSpec wsX0_wideOf ({ frames := 0, cells := 0, slots := 0, locals := 0 } : Room)).room.locals := Nat.le_refl _
  have hRc : 0 ≤ (headSpec wsX0_wideOf ({ frames := 0, cells := 0, slots := 0, locals := 0 } : Room)).room.cells := Nat.le_refl _
  have hRs : 0 ≤ (headSpec wsX0_wideOf ({ frames := 0, cells := 0, slots := 0, locals := 0 } : Room)).room.slots := Nat.le_refl _
  generalize (headSpec wsX0_wideOf ({ frames := 0, cells := 0, slots := 0, locals := 0 } : Room)).room = R at hRf hRl hRc hRs ⊢
  have hl := lv_entry [.int (nI kd), .int (bI tb)] (n := 2) (Nat.le_of_ble_eq_true rfl)
  refine W.eq (show entryFrame m args 2 = _ from by rw [hargs, lg_entry_eq]) ?_
  generalize (lg_sl [.int (nI kd), .int (bI tb)] ++ List.replicate (2 - (lg_sl [.int (nI kd), .int (bI tb)]).length) Slot.unset).toArray = ls at hl ⊢
  have hl : lv_has ls 2 [(0, .int (nI kd)), (1, .int (bI tb))] := hl
  generalize hQ : MQ _ _ _ _ _ _ _ = Q
  refine lv_iload_n hx hb dX0_wideOf_0 rfl (lv_at hl 1 rfl) ?_
  refine nb_if_eq (tgt := 12) hx hb dX0_wideOf_1 (by decide) (fun c_1 => ?_) (fun c_1 => ?_)
  · obtain ⟨tb_KIND_WIDE, hKIND_WIDEZ, hKIND_WIDET⟩ := hV0.1
    refine va_gets hx hb hKIND_WIDEZ hS hown (hts (.fieldLink RX0 207 "GloveCutters" "KIND_WIDE" "[I") (by decide +kernel)) (fun _ h9 => h9) dX0_wideOf_12 ?_
    refine lv_iload_n hx hb dX0_wideOf_15 rfl (lv_at hl 0 rfl) ?_
    refine nv_tab hx hb hKIND_WIDET hS (by omega) dX0_wideOf_16 ?_
    rw [← hQ]
    exact W.iret (v := nI (kW kd)) hx hb hr (fun t ht hW => ⟨⟨nI (kW kd), (), rfl, (by rw [c_1]; rfl), trivial⟩, hS.F ht⟩) hS.2.2 dX0_wideOf_17
  · obtain ⟨tb_KIND_HIGH, hKIND_HIGHZ, hKIND_HIGHT⟩ := hV0.2.1
    refine va_gets hx hb hKIND_HIGHZ hS hown (hts (.fieldLink RX0 204 "GloveCutters" "KIND_HIGH" "[I") (by decide +kernel)) (fun _ h9 => h9) dX0_wideOf_4 ?_
    refine lv_iload_n hx hb dX0_wideOf_7 rfl (lv_at hl 0 rfl) ?_
    refine nv_tab hx hb hKIND_HIGHT hS (by omega) dX0_wideOf_8 ?_
    refine lv_goto (tgt := 17) hx hb dX0_wideOf_9 (by decide) ?_
    rw [← hQ]
    exact W.iret (v := nI (kH kd)) hx hb hr (fun t ht hW => ⟨⟨nI (kH kd), (), rfl, (by rw [c_1]; rfl), trivial⟩, hS.F ht⟩) hS.2.2 dX0_wideOf_17
set_option maxHeartbeats 4000000 in
set_option maxRecDepth 100000 in
/-- highOf -/
theorem c_X0_highOf (l : Launch) (D : va_G) (kd : Nat) (tb : Bool) (hkd : kd < 4) : Met l yX0_highOf wsX0_highOf ({ frames := 0, cells := 0, slots := 0, locals := 0 } : Room) (va_Pc [.int (nI kd), .int (bI tb)] (Pr D [] [] (EnvG (fun _ => False)))) (va_Qi (S := Unit) (fun (r : Int32) (_ : Unit) => r = nI (hg kd tb)) (fun _ _ => True) (fun _ => False)) 0 0 (fun _ => False) := by
  refine Met.ofW (cc := cX0_highOf) (maxL := 2) (ret := (some .int)) (by decide) rfl ?_
  intro p e s m args below meth c s₁ B hml hv
  obtain ⟨hargs, hP, hK, hV⟩ := hv
  have hx := B.exec
  have hb := B.bytes
  have hr := B.returns
  have hts := atoms_spec (ws := wsX0_highOf) B.pre
  have hown : s.vm.findClass RX0 = some m.cls := findClass_of_methodNamed B.named
  have hlocks := B.notSynchronized
  have hS : va_S (fun _ => False) s.heap s.heap [] := va_S.rf
  have hV0 : EnvG (fun _ => False) s := EnvG.nar hV sub_no
  have hRf : 0 ≤ (headSpec wsX0_highOf ({ frames := 0, cells := 0, slots := 0, locals := 0 } : Room)).room.frames := Nat.le_refl _
  have hRl : 0 ≤ (headSpec wsX0_highOf ({ frames := 0, cells := 0, slots := 0, locals := 0 } : Room)).room.locals := Nat.le_refl _
  have hRc : 0 ≤ (headSpec wsX0_highOf ({ frames := 0, cells := 0, slots := 0, locals := 0 } : Room)).room.cells := Nat.le_refl _
  have hRs : 0 ≤ (headSpec wsX0_highOf ({ frames := 0, cells := 0, slots := 0, locals := 0 } : Room)).room.slots := Nat.le_refl _
  generalize (headSpec wsX0_highOf ({ frames := 0, cells := 0, slots := 0, locals := 0 } : Room)).room = R at hRf hRl hRc hRs ⊢
  have hl := lv_entry [.int (nI kd), .int (bI tb)] (n := 2) (Nat.le_of_ble_eq_true rfl)
  refine W.eq (show entryFrame m args 2 = _ from by rw [hargs, lg_entry_eq]) ?_
  generalize (lg_sl [.int (nI kd), .int (bI tb)] ++ List.replicate (2 - (lg_sl [.int (nI kd), .int (bI tb)]).length) Slot.unset).toArray = ls at hl ⊢
  have hl : lv_has ls 2 [(0, .int (nI kd)), (1, .int (bI tb))] := hl
  generalize hQ : MQ _ _ _ _ _ _ _ = Q
  refine lv_iload_n hx hb dX0_highOf_0 rfl (lv_at hl 1 rfl) ?_
  refine nb_if_eq (tgt := 12) hx hb dX0_highOf_1 (by decide) (fun c_1 => ?_) (fun c_1 => ?_)
  · obtain ⟨tb_KIND_HIGH, hKIND_HIGHZ, hKIND_HIGHT⟩ := hV0.2.1
    refine va_gets hx hb hKIND_HIGHZ hS hown (hts (.fieldLink RX0 204 "GloveCutters" "KIND_HIGH" "[I") (by decide +kernel)) (fun _ h9 => h9) dX0_highOf_12 ?_
    refine lv_iload_n hx hb dX0_highOf_15 rfl (lv_at hl 0 rfl) ?_
    refine nv_tab hx hb hKIND_HIGHT hS (by omega) dX0_highOf_16 ?_
    rw [← hQ]
    exact W.iret (v := nI (kH kd)) hx hb hr (fun t ht hW => ⟨⟨nI (kH kd), (), rfl, (by rw [c_1]; rfl), trivial⟩, hS.F ht⟩) hS.2.2 dX0_highOf_17
  · obtain ⟨tb_KIND_WIDE, hKIND_WIDEZ, hKIND_WIDET⟩ := hV0.1
    refine va_gets hx hb hKIND_WIDEZ hS hown (hts (.fieldLink RX0 207 "GloveCutters" "KIND_WIDE" "[I") (by decide +kernel)) (fun _ h9 => h9) dX0_highOf_4 ?_
    refine lv_iload_n hx hb dX0_highOf_7 rfl (lv_at hl 0 rfl) ?_
    refine nv_tab hx hb hKIND_WIDET hS (by omega) dX0_highOf_8 ?_
    refine lv_goto (tgt := 17) hx hb dX0_highOf_9 (by decide) ?_
    rw [← hQ]
    exact W.iret (v := nI (kW kd)) hx hb hr (fun t ht hW => ⟨⟨nI (kW kd), (), rfl, (by rw [c_1]; rfl), trivial⟩, hS.F ht⟩) hS.2.2 dX0_highOf_17
set_option maxHeartbeats 4000000 in
set_option maxRecDepth 100000 in
/-- fits -/
theorem c_X0_fits (l : Launch) (D : va_G) (cI : ClassId) (a n : Nat) (f : Nat → Int32) (kd : Nat) (tb : Bool) (x y : Nat) (hkd : kd < 4) (hx9 : x < 12) (hy9 : y < 8) (hn9 : n = 96) : Met l yX0_fits wsX0_fits ({ frames := 1, cells := 0, slots := 0, locals := 28 } : Room) (va_Pc [.ref a, .int (nI kd), .int (bI tb), .int (nI x), .int (nI y)] (Pr D [(cI, .int)] [(a, .inl (cI, n, .inl f))] (EnvG (fun _ => False)))) (va_Qi (S := Unit) (fun (r : Int32) (_ : Unit) => r = bI (fitB f kd tb x y)) (fun _ _ => True) (fun _ => False)) 0 0 (fun _ => False) := by
  refine Met.ofW (cc := cX0_fits) (maxL := 7) (ret := (some .boolean)) (by decide) rfl ?_
  intro p e s m args below meth c s₁ B hml hv
  obtain ⟨hargs, hP, hK, hV⟩ := hv
  have hx := B.exec
  have hb := B.bytes
  have hr := B.returns
  have hts := atoms_spec (ws := wsX0_fits) B.pre
  have hown : s.vm.findClass RX0 = some m.cls := findClass_of_methodNamed B.named
  have hlocks := B.notSynchronized
  have hS : va_S (fun _ => False) s.heap s.heap [] := va_S.rf
  have hV0 : EnvG (fun _ => False) s := EnvG.nar hV sub_no
  have hRf : 1 ≤ (headSpec wsX0_fits ({ frames := 1, cells := 0, slots := 0, locals := 28 } : Room)).room.frames := Nat.le_refl _
  have hRl : 28 ≤ (headSpec wsX0_fits ({ frames := 1, cells := 0, slots := 0, locals := 28 } : Room)).room.locals := Nat.le_refl _
  have hRc : 0 ≤ (headSpec wsX0_fits ({ frames := 1, cells := 0, slots := 0, locals := 28 } : Room)).room.cells := Nat.le_refl _
  have hRs : 0 ≤ (headSpec wsX0_fits ({ frames := 1, cells := 0, slots := 0, locals := 28 } : Room)).room.slots := Nat.le_refl _
  generalize (headSpec wsX0_fits ({ frames := 1, cells := 0, slots := 0, locals := 28 } : Room)).room = R at hRf hRl hRc hRs ⊢
  have hl := lv_entry [.ref a, .int (nI kd), .int (bI tb), .int (nI x), .int (nI y)] (n := 7) (Nat.le_of_ble_eq_true rfl)
  refine W.eq (show entryFrame m args 7 = _ from by rw [hargs, lg_entry_eq]) ?_
  generalize (lg_sl [.ref a, .int (nI kd), .int (bI tb), .int (nI x), .int (nI y)] ++ List.replicate (7 - (lg_sl [.ref a, .int (nI kd), .int (bI tb), .int (nI x), .int (nI y)]).length) Slot.unset).toArray = ls at hl ⊢
  have hl : lv_has ls 7 [(0, .ref a), (1, .int (nI kd)), (2, .int (bI tb)), (3, .int (nI x)), (4, .int (nI y))] := hl
  generalize hQ : MQ _ _ _ _ _ _ _ = Q
  have hw9 := wd_le kd tb
  have hh9 := hg_le kd tb
  have hm9 := fun v : Int32 => Nat.le_trans (ct_le f (12 * y + x) (wd kd tb) v (wd kd tb * hg kd tb)) (Nat.mul_le_mul hw9.1 hh9.1)
  have hm92 := hm9 (nI 2)
  have hm93 := hm9 (nI 3)
  have hm91 := hm9 (nI 1)
  have hkT := kT_le kd
  refine lv_iload_n hx hb dX0_fits_0 rfl (lv_at hl 1 rfl) ?_
  refine lv_iload_n hx hb dX0_fits_1 rfl (lv_at hl 2 rfl) ?_
  refine va_calli (va_runS (As := [.int (nI kd), .int (bI tb)]) (rest := []) ⟨hx, hb, hml, hown, hts⟩ (c_X0_wideOf l D kd tb hkd) (va_cwS 2 hts gX0_fits_X0_wideOf rfl rfl rfl (by decide +kernel) ⟨Nat.le_trans (Nat.le_of_ble_eq_true rfl) hRf, Nat.le_trans (Nat.le_of_ble_eq_true rfl) hRl⟩) (pr_S (P_nil) hK [] rfl (hV0.at hS sub_id sub_id) EnvG_c) rfl rfl hl.1 rfl (lv_room (Nat.le_of_ble_eq_true rfl)) dX0_fits_2 ⟨Nat.le_trans (Nat.zero_le _) hRc, Nat.le_trans (Nat.zero_le _) hRs⟩) hS (fun _ _ h => h.elim) (fun _ h => h.elim) (fun r_1 _ t H1 locs ht hvm hw_1 hB hz hk hS => ?_)
  have hP := P_kept hP hk
  obtain rfl := hw_1
  refine lv_istore (lv' := [(5, .int (nI (wd kd tb))), (0, .ref a), (1, .int (nI kd)), (2, .int (bI tb)), (3, .int (nI x)), (4, .int (nI y))]) hx hb dX0_fits_5 hl (by decide) rfl (fun ls hl => ?_)
  refine lv_iload_n hx hb dX0_fits_7 rfl (lv_at hl 2 rfl) ?_
  refine lv_iload_n hx hb dX0_fits_8 rfl (lv_at hl 3 rfl) ?_
  refine va_calli (va_runS (As := [.int (nI kd), .int (bI tb)]) (rest := []) ⟨hx, hb, hml, hown, hts⟩ (c_X0_highOf l D kd tb hkd) (va_cwS 2 hts gX0_fits_X0_highOf rfl rfl rfl (by decide +kernel) ⟨Nat.le_trans (Nat.le_of_ble_eq_true rfl) hRf, Nat.le_trans (Nat.le_of_ble_eq_true rfl) hRl⟩) (pr_S (P_nil) hK [] rfl (hV0.at hS sub_id sub_id) EnvG_c) rfl rfl hl.1 rfl (lv_room (Nat.le_of_ble_eq_true rfl)) dX0_fits_9 ⟨Nat.le_trans (Nat.zero_le _) hRc, Nat.le_trans (Nat.zero_le _) hRs⟩) hS (fun _ _ h => h.elim) (fun _ h => h.elim) (fun r_2 _ t H1 locs ht hvm hw_2 hB hz hk hS => ?_)
  have hP := P_kept hP hk
  obtain rfl := hw_2
  refine lv_istore (lv' := [(6, .int (nI (hg kd tb))), (5, .int (nI (wd kd tb))), (0, .ref a), (1, .int (nI kd)), (2, .int (bI tb)), (3, .int (nI x)), (4, .int (nI y))]) hx hb dX0_fits_12 hl (by decide) rfl (fun ls hl => ?_)
  refine lv_iload hx hb dX0_fits_14 (lv_at hl 1 rfl) ?_
  refine lv_bipush (v := nI 12) hx hb dX0_fits_16 (by decide) ?_
  refine lv_iload_n hx hb dX0_fits_18 rfl (lv_at hl 5 rfl) ?_
  refine nv_isub hx hb (by omega) dX0_fits_19 ?_
  refine nv_icmp_gt (tgt := 87) hx hb (by omega) (by omega) dX0_fits_20 (by decide) (fun c_3 => ?_) (fun c_3 => ?_)
  · refine lv_iconst (v := nI 0) hx hb dX0_fits_87 (by decide) ?_
    rw [← hQ]
    exact W.zret (v := nI 0) hx hb hr rfl (fun t ht hW => ⟨⟨nI 0, (), rfl, (by rw [show fitB f kd tb x y = false from by unfold fitB; simp only [Bool.and_eq_false_iff, decide_eq_false_iff_not]; omega]; rfl), trivial⟩, hS.F ht⟩) hS.2.2 dX0_fits_88
  · refine lv_iload hx hb dX0_fits_23 (lv_at hl 0 rfl) ?_
    refine lv_bipush (v := nI 8) hx hb dX0_fits_25 (by decide) ?_
    refine lv_iload hx hb dX0_fits_27 (lv_at hl 6 rfl) ?_
    refine nv_isub hx hb (by omega) dX0_fits_29 ?_
    refine nv_icmp_gt (tgt := 87) hx hb (by omega) (by omega) dX0_fits_30 (by decide) (fun c_4 => ?_) (fun c_4 => ?_)
    · refine lv_iconst (v := nI 0) hx hb dX0_fits_87 (by decide) ?_
      rw [← hQ]
      exact W.zret (v := nI 0) hx hb hr rfl (fun t ht hW => ⟨⟨nI 0, (), rfl, (by rw [show fitB f kd tb x y = false from by unfold fitB; simp only [Bool.and_eq_false_iff, decide_eq_false_iff_not]; omega]; rfl), trivial⟩, hS.F ht⟩) hS.2.2 dX0_fits_88
    · refine lv_aload_n hx hb dX0_fits_33 rfl (lv_at hl 2 rfl) ?_
      refine lv_iload_n hx hb dX0_fits_34 rfl (lv_at hl 5 rfl) ?_
      refine lv_iload hx hb dX0_fits_35 (lv_at hl 6 rfl) ?_
      refine lv_iload hx hb dX0_fits_37 (lv_at hl 1 rfl) ?_
      refine lv_iload hx hb dX0_fits_39 (lv_at hl 0 rfl) ?_
      refine lv_iconst (v := nI 2) hx hb dX0_fits_41 (by decide) ?_
      refine va_calli (va_runS (As := [.ref a, .int (nI x), .int (nI y), .int (nI (wd kd tb)), .int (nI (hg kd tb)), .int (nI 2)]) (rest := []) ⟨hx, hb, hml, hown, hts⟩ (c_X0_tally l D cI a n f x y (wd kd tb) (hg kd tb) (nI 2) (by omega) (by omega) (by omega)) (va_cwS 6 hts gX0_fits_X0_tally rfl rfl rfl (by decide +kernel) ⟨Nat.le_trans (Nat.le_of_ble_eq_true rfl) hRf, Nat.le_trans (Nat.le_of_ble_eq_true rfl) hRl⟩) (pr_S (P_pick hP (k := 0) rfl) hK [0] rfl V0_at V0_c) rfl rfl hl.1 rfl (lv_room (Nat.le_of_ble_eq_true rfl)) dX0_fits_42 ⟨Nat.le_trans (Nat.zero_le _) hRc, Nat.le_trans (Nat.zero_le _) hRs⟩) hS (fun _ _ h => h.elim) (fun _ h => h.elim) (fun r_5 _ t H1 locs ht hvm hw_5 hB hz hk hS => ?_)
      have hP := P_kept hP hk
      obtain rfl := hw_5
      refine nv_if_ne (tgt := 87) hx hb (by omega) dX0_fits_45 (by decide) (fun c_6 => ?_) (fun c_6 => ?_)
      · refine lv_iconst (v := nI 0) hx hb dX0_fits_87 (by decide) ?_
        rw [← hQ]
        exact W.zret (v := nI 0) hx hb hr rfl (fun t ht hW => ⟨⟨nI 0, (), rfl, (by rw [show fitB f kd tb x y = false from by unfold fitB; simp only [Bool.and_eq_false_iff, decide_eq_false_iff_not]; omega]; rfl), trivial⟩, hS.F ht⟩) hS.2.2 dX0_fits_88
      · refine lv_aload_n hx hb dX0_fits_48 rfl (lv_at hl 2 rfl) ?_
        refine lv_iload_n hx hb dX0_fits_49 rfl (lv_at hl 5 rfl) ?_
        refine lv_iload hx hb dX0_fits_50 (lv_at hl 6 rfl) ?_
        refine lv_iload hx hb dX0_fits_52 (lv_at hl 1 rfl) ?_
        refine lv_iload hx hb dX0_fits_54 (lv_at hl 0 rfl) ?_
        refine lv_iconst (v := nI 3) hx hb dX0_fits_56 (by decide) ?_
        refine va_calli (va_runS (As := [.ref a, .int (nI x), .int (nI y), .int (nI (wd kd tb)), .int (nI (hg kd tb)), .int (nI 3)]) (rest := []) ⟨hx, hb, hml, hown, hts⟩ (c_X0_tally l D cI a n f x y (wd kd tb) (hg kd tb) (nI 3) (by omega) (by omega) (by omega)) (va_cwS 6 hts gX0_fits_X0_tally rfl rfl rfl (by decide +kernel) ⟨Nat.le_trans (Nat.le_of_ble_eq_true rfl) hRf, Nat.le_trans (Nat.le_of_ble_eq_true rfl) hRl⟩) (pr_S (P_pick hP (k := 0) rfl) hK [0] rfl V0_at V0_c) rfl rfl hl.1 rfl (lv_room (Nat.le_of_ble_eq_true rfl)) dX0_fits_57 ⟨Nat.le_trans (Nat.zero_le _) hRc, Nat.le_trans (Nat.zero_le _) hRs⟩) hS (fun _ _ h => h.elim) (fun _ h => h.elim) (fun r_7 _ t H1 locs ht hvm hw_7 hB hz hk hS => ?_)
        have hP := P_kept hP hk
        obtain rfl := hw_7
        refine nv_if_ne (tgt := 87) hx hb (by omega) dX0_fits_60 (by decide) (fun c_8 => ?_) (fun c_8 => ?_)
        · refine lv_iconst (v := nI 0) hx hb dX0_fits_87 (by decide) ?_
          rw [← hQ]
          exact W.zret (v := nI 0) hx hb hr rfl (fun t ht hW => ⟨⟨nI 0, (), rfl, (by rw [show fitB f kd tb x y = false from by unfold fitB; simp only [Bool.and_eq_false_iff, decide_eq_false_iff_not]; omega]; rfl), trivial⟩, hS.F ht⟩) hS.2.2 dX0_fits_88
        · refine lv_aload_n hx hb dX0_fits_63 rfl (lv_at hl 2 rfl) ?_
          refine lv_iload_n hx hb dX0_fits_64 rfl (lv_at hl 5 rfl) ?_
          refine lv_iload hx hb dX0_fits_65 (lv_at hl 6 rfl) ?_
          refine lv_iload hx hb dX0_fits_67 (lv_at hl 1 rfl) ?_
          refine lv_iload hx hb dX0_fits_69 (lv_at hl 0 rfl) ?_
          refine lv_iconst (v := nI 1) hx hb dX0_fits_71 (by decide) ?_
          refine va_calli (va_runS (As := [.ref a, .int (nI x), .int (nI y), .int (nI (wd kd tb)), .int (nI (hg kd tb)), .int (nI 1)]) (rest := []) ⟨hx, hb, hml, hown, hts⟩ (c_X0_tally l D cI a n f x y (wd kd tb) (hg kd tb) (nI 1) (by omega) (by omega) (by omega)) (va_cwS 6 hts gX0_fits_X0_tally rfl rfl rfl (by decide +kernel) ⟨Nat.le_trans (Nat.le_of_ble_eq_true rfl) hRf, Nat.le_trans (Nat.le_of_ble_eq_true rfl) hRl⟩) (pr_S (P_pick hP (k := 0) rfl) hK [0] rfl V0_at V0_c) rfl rfl hl.1 rfl (lv_room (Nat.le_of_ble_eq_true rfl)) dX0_fits_72 ⟨Nat.le_trans (Nat.zero_le _) hRc, Nat.le_trans (Nat.zero_le _) hRs⟩) hS (fun _ _ h => h.elim) (fun _ h => h.elim) (fun r_9 _ t H1 locs ht hvm hw_9 hB hz hk hS => ?_)
          have hP := P_kept hP hk
          obtain rfl := hw_9
          obtain ⟨tb_KIND_MOST_THIN, hKIND_MOST_THINZ, hKIND_MOST_THINT⟩ := hV0.2.2.1
          refine va_gets hx hb hKIND_MOST_THINZ hS hown (hts (.fieldLink RX0 210 "GloveCutters" "KIND_MOST_THIN" "[I") (by decide +kernel)) (fun _ h9 => h9) dX0_fits_75 ?_
          refine lv_iload_n hx hb dX0_fits_78 rfl (lv_at hl 3 rfl) ?_
          refine nv_tab hx hb hKIND_MOST_THINT hS (by omega) dX0_fits_79 ?_
          refine nv_icmp_gt (tgt := 87) hx hb (by omega) (by omega) dX0_fits_80 (by decide) (fun c_10 => ?_) (fun c_10 => ?_)
          · refine lv_iconst (v := nI 0) hx hb dX0_fits_87 (by decide) ?_
            rw [← hQ]
            exact W.zret (v := nI 0) hx hb hr rfl (fun t ht hW => ⟨⟨nI 0, (), rfl, (by rw [show fitB f kd tb x y = false from by unfold fitB; simp only [Bool.and_eq_false_iff, decide_eq_false_iff_not]; omega]; rfl), trivial⟩, hS.F ht⟩) hS.2.2 dX0_fits_88
          · refine lv_iconst (v := nI 1) hx hb dX0_fits_83 (by decide) ?_
            refine lv_goto (tgt := 88) hx hb dX0_fits_84 (by decide) ?_
            rw [← hQ]
            exact W.zret (v := nI 1) hx hb hr rfl (fun t ht hW => ⟨⟨nI 1, (), rfl, (by rw [show fitB f kd tb x y = true from by unfold fitB; simp only [Bool.and_eq_true, decide_eq_true_eq]; omega]; rfl), trivial⟩, hS.F ht⟩) hS.2.2 dX0_fits_88
set_option maxHeartbeats 4000000 in
set_option maxRecDepth 100000 in
/-- firstFit -/
theorem c_X0_firstFit (l : Launch) (D : va_G) (cI : ClassId) (a n : Nat) (f : Nat → Int32) (kd : Nat) (tb : Bool) (fr : Nat) (hkd : kd < 4) (hf9 : fr ≤ 96) (hn9 : n = 96) : Met l yX0_firstFit wsX0_firstFit ({ frames := 2, cells := 0, slots := 0, locals := 54 } : Room) (va_Pc [.ref a, .int (nI kd), .int (bI tb), .int (nI fr)] (Pr D [(cI, .int)] [(a, .inl (cI, n, .inl f))] (EnvG (fun _ => False)))) (va_Qi (S := Unit) (fun (r : Int32) (_ : Unit) => r = fI (fitA f kd tb) fr (96 - fr)) (fun _ _ => True) (fun _ => False)) 0 0 (fun _ => False) := by
  refine Met.ofW (cc := cX0_firstFit) (maxL := 5) (ret := (some .int)) (by decide) rfl ?_
  intro p e s m args below meth c s₁ B hml hv
  obtain ⟨hargs, hP, hK, hV⟩ := hv
  have hx := B.exec
  have hb := B.bytes
  have hr := B.returns
  have hts := atoms_spec (ws := wsX0_firstFit) B.pre
  have hown : s.vm.findClass RX0 = some m.cls := findClass_of_methodNamed B.named
  have hlocks := B.notSynchronized
  have hS : va_S (fun _ => False) s.heap s.heap [] := va_S.rf
  have hV0 : EnvG (fun _ => False) s := EnvG.nar hV sub_no
  have hRf : 2 ≤ (headSpec wsX0_firstFit ({ frames := 2, cells := 0, slots := 0, locals := 54 } : Room)).room.frames := Nat.le_refl _
  have hRl : 54 ≤ (headSpec wsX0_firstFit ({ frames := 2, cells := 0, slots := 0, locals := 54 } : Room)).room.locals := Nat.le_refl _
  have hRc : 0 ≤ (headSpec wsX0_firstFit ({ frames := 2, cells := 0, slots := 0, locals := 54 } : Room)).room.cells := Nat.le_refl _
  have hRs : 0 ≤ (headSpec wsX0_firstFit ({ frames := 2, cells := 0, slots := 0, locals := 54 } : Room)).room.slots := Nat.le_refl _
  generalize (headSpec wsX0_firstFit ({ frames := 2, cells := 0, slots := 0, locals := 54 } : Room)).room = R at hRf hRl hRc hRs ⊢
  have hl := lv_entry [.ref a, .int (nI kd), .int (bI tb), .int (nI fr)] (n := 5) (Nat.le_of_ble_eq_true rfl)
  refine W.eq (show entryFrame m args 5 = _ from by rw [hargs, lg_entry_eq]) ?_
  generalize (lg_sl [.ref a, .int (nI kd), .int (bI tb), .int (nI fr)] ++ List.replicate (5 - (lg_sl [.ref a, .int (nI kd), .int (bI tb), .int (nI fr)]).length) Slot.unset).toArray = ls at hl ⊢
  have hl : lv_has ls 5 [(0, .ref a), (1, .int (nI kd)), (2, .int (bI tb)), (3, .int (nI fr))] := hl
  generalize hQ : MQ _ _ _ _ _ _ _ = Q
  refine lv_iload_n hx hb dX0_firstFit_0 rfl (lv_at hl 3 rfl) ?_
  refine lv_istore (lv' := [(4, .int (nI fr)), (0, .ref a), (1, .int (nI kd)), (2, .int (bI tb)), (3, .int (nI fr))]) hx hb dX0_firstFit_1 hl (by decide) rfl (fun ls hl => ?_)
  have L3 : ∀ (fu : Nat) (i : Nat) (H : Heap) (locs : List Loc) (ls : Array Slot), 96 - i < fu → (i ≤ 96) → (fI (fitA f kd tb) fr (96 - fr) = fI (fitA f kd tb) i (96 - i)) → va_P D vwCl [(a, .inl (cI, n, .inl f))] H → va_S (fun _ => False) s.heap H locs → lv_has ls 5 [(0, .ref a), (1, .int (nI kd)), (2, .int (bI tb)), (3, .int (nI fr)), (4, .int (nI i))] → W p l e R s m args below meth c H locs 0 0 Q (F0 m 3 ls []) := by
    intro fu
    induction fu with
    | zero => intro _ _ _ _ h; exact absurd h (Nat.not_lt_zero _)
    | succ fu ih3 =>
      intro i H locs ls hm3 h1 h2 hP  hS hl
      refine lv_iload hx hb dX0_firstFit_3 (lv_at hl 4 rfl) ?_
      refine lv_bipush (v := nI 96) hx hb dX0_firstFit_5 (by decide) ?_
      refine nv_icmp_ge (tgt := 38) hx hb (by omega) (by omega) dX0_firstFit_7 (by decide) (fun c_1 => ?_) (fun c_1 => ?_)
      · refine lv_iconst (v := -1) hx hb dX0_firstFit_38 (by decide) ?_
        rw [← hQ]
        exact W.iret (v := (-1)) hx hb hr (fun t ht hW => ⟨⟨(-1), (), rfl, (h2.trans (fI_e (by omega))).symm, trivial⟩, hS.F ht⟩) hS.2.2 dX0_firstFit_39
      · refine lv_aload_n hx hb dX0_firstFit_10 rfl (lv_at hl 0 rfl) ?_
        refine lv_iload_n hx hb dX0_firstFit_11 rfl (lv_at hl 1 rfl) ?_
        refine lv_iload_n hx hb dX0_firstFit_12 rfl (lv_at hl 2 rfl) ?_
        refine lv_iload hx hb dX0_firstFit_13 (lv_at hl 4 rfl) ?_
        refine lv_bipush (v := nI 12) hx hb dX0_firstFit_15 (by decide) ?_
        refine nv_irem hx hb (by omega) (by omega) (by omega) dX0_firstFit_17 ?_
        refine lv_iload hx hb dX0_firstFit_18 (lv_at hl 4 rfl) ?_
        refine lv_bipush (v := nI 12) hx hb dX0_firstFit_20 (by decide) ?_
        refine nv_idiv hx hb (by omega) (by omega) (by omega) dX0_firstFit_22 ?_
        refine va_calli (va_runS (As := [.ref a, .int (nI kd), .int (bI tb), .int (nI (i % 12)), .int (nI (i / 12))]) (rest := []) ⟨hx, hb, hml, hown, hts⟩ (c_X0_fits l D cI a n f kd tb (i % 12) (i / 12) hkd (by omega) (by omega) hn9) (va_cwS 5 hts gX0_firstFit_X0_fits rfl rfl rfl (by decide +kernel) ⟨Nat.le_trans (Nat.le_of_ble_eq_true rfl) hRf, Nat.le_trans (Nat.le_of_ble_eq_true rfl) hRl⟩) (pr_S (P_pick hP (k := 0) rfl) hK [0] rfl (hV0.at hS sub_id sub_id) EnvG_c) rfl rfl hl.1 rfl (lv_room (Nat.le_of_ble_eq_true rfl)) dX0_firstFit_23 ⟨Nat.le_trans (Nat.zero_le _) hRc, Nat.le_trans (Nat.zero_le _) hRs⟩) hS (fun _ _ h => h.elim) (fun _ h => h.elim) (fun r_2 _ t H1 locs ht hvm hw_2 hB hz hk hS => ?_)
        have hP := P_kept hP hk
        obtain rfl := hw_2
        refine nb_if_eq (tgt := 32) hx hb dX0_firstFit_26 (by decide) (fun c_3 => ?_) (fun c_3 => ?_)
        · refine lv_iinc (k := 4) (v := nI (i + 1)) (lv' := [(4, .int (nI (i + 1))), (0, .ref a), (1, .int (nI kd)), (2, .int (bI tb)), (3, .int (nI fr))]) hx hb dX0_firstFit_32 hl rfl (nI_add i 1) (by decide) rfl (fun ls hl => ?_)
          refine lv_goto (tgt := 3) hx hb dX0_firstFit_35 (by decide) ?_
          exact ih3 (i + 1) _ _ _ (by omega) (by omega) (h2.trans (fI_n (by omega) c_3)) hP hS (lv_sub hl [1, 2, 3, 4, 0] rfl)
        · refine lv_iload hx hb dX0_firstFit_29 (lv_at hl 4 rfl) ?_
          rw [← hQ]
          exact W.iret (v := nI i) hx hb hr (fun t ht hW => ⟨⟨nI i, (), rfl, (h2.trans (fI_y (by omega) c_3)).symm, trivial⟩, hS.F ht⟩) hS.2.2 dX0_firstFit_31
  exact L3 _ fr _ _ _ (Nat.lt_succ_self _) (by omega) rfl hP hS (lv_sub hl [1, 2, 3, 4, 0] rfl)
set_option maxHeartbeats 4000000 in
set_option maxRecDepth 100000 in
/-- isFreeOfColour -/
theorem c_X0_isFreeOfColour (l : Launch) (D : va_G) (cI cZ cO : ClassId) (ad : Nat → Nat) (n np nq : Nat) (F : Nat → Nat → Int32) (p0 : Nat) (c0 kd : Int32) (hn : n ≤ 10) (hnp : np ≤ 150) (hsk : ∀ p, p < np → ∃ k, k < n ∧ F 4 p = nI k) (hp0 : p0 < np) : Met l yX0_isFreeOfColour wsX0_isFreeOfColour ({ frames := 0, cells := 0, slots := 0, locals := 0 } : Room) (va_Pc [.ref (ad 0), .int (nI p0), .int c0, .int kd] (Pr D (gT cI cZ cO) (wG cI cZ cO ad n np nq F) V0)) (va_Qi (S := Unit) (fun (r : Int32) (_ : Unit) => r = bI (isF F c0 kd p0)) (fun _ _ => True) (fun _ => False)) 0 0 (fun _ => False) := by
  refine Met.ofW (cc := cX0_isFreeOfColour) (maxL := 4) (ret := (some .boolean)) (by decide) rfl ?_
  intro p e s m args below meth c s₁ B hml hv
  obtain ⟨hargs, hP, hK, hV⟩ := hv
  have hx := B.exec
  have hb := B.bytes
  have hr := B.returns
  have hts := atoms_spec (ws := wsX0_isFreeOfColour) B.pre
  have hown : s.vm.findClass RX0 = some m.cls := findClass_of_methodNamed B.named
  have hlocks := B.notSynchronized
  have hS : va_S (fun _ => False) s.heap s.heap [] := va_S.rf
  have hiw : ∀ w ∈ wsX00, w ∈ wsX0_isFreeOfColour := (fun _ h => List.mem_cons_of_mem _ (List.mem_append_right _ h))
  have hRf : 0 ≤ (headSpec wsX0_isFreeOfColour ({ frames := 0, cells := 0, slots := 0, locals := 0 } : Room)).room.frames := Nat.le_refl _
  have hRl : 0 ≤ (headSpec wsX0_isFreeOfColour ({ frames := 0, cells := 0, slots := 0, locals := 0 } : Room)).room.locals := Nat.le_refl _
  have hRc : 0 ≤ (headSpec wsX0_isFreeOfColour ({ frames := 0, cells := 0, slots := 0, locals := 0 } : Room)).room.cells := Nat.le_refl _
  have hRs : 0 ≤ (headSpec wsX0_isFreeOfColour ({ frames := 0, cells := 0, slots := 0, locals := 0 } : Room)).room.slots := Nat.le_refl _
  generalize (headSpec wsX0_isFreeOfColour ({ frames := 0, cells := 0, slots := 0, locals := 0 } : Room)).room = R at hRf hRl hRc hRs ⊢
  have hl := lv_entry [.ref (ad 0), .int (nI p0), .int c0, .int kd] (n := 4) (Nat.le_of_ble_eq_true rfl)
  refine W.eq (show entryFrame m args 4 = _ from by rw [hargs, lg_entry_eq]) ?_
  generalize (lg_sl [.ref (ad 0), .int (nI p0), .int c0, .int kd] ++ List.replicate (4 - (lg_sl [.ref (ad 0), .int (nI p0), .int c0, .int kd]).length) Slot.unset).toArray = ls at hl ⊢
  have hl : lv_has ls 4 [(0, .ref (ad 0)), (1, .int (nI p0)), (2, .int c0), (3, .int kd)] := hl
  generalize hQ : MQ _ _ _ _ _ _ _ = Q
  refine lv_aload_n hx hb dX0_isFreeOfColour_0 rfl (lv_at hl 0 rfl) ?_
  refine va_get (D := D) (ci := 0) (v := .ref (ad 6)) (C := RX0) (T := TX0) (N := 16) hx hb hts hiw hown hK hP 0 g_at0 rfl 7 (by decide) (hts (.fieldLink RX0 27 "GloveCutters" "pieceWhere" "[I") (by decide +kernel)) (fun _ h9 => h9) rfl dX0_isFreeOfColour_1 ?_
  refine lv_iload_n hx hb dX0_isFreeOfColour_4 rfl (lv_at hl 1 rfl) ?_
  refine nv_iald hx hb hK hP 6 0 g_at6 rfl (by omega) (by omega) dX0_isFreeOfColour_5 ?_
  refine lv_iconst (v := -1) hx hb dX0_isFreeOfColour_6 (by decide) ?_
  refine lv_icmp_ne (tgt := 39) hx hb dX0_isFreeOfColour_7 (by decide) (fun c_1 => ?_) (fun c_1 => ?_)
  · refine lv_iconst (v := nI 0) hx hb dX0_isFreeOfColour_39 (by decide) ?_
    rw [← hQ]
    exact W.zret (v := nI 0) hx hb hr rfl (fun t ht hW => ⟨⟨nI 0, (), rfl, (by rw [isF_1 c_1]; rfl), trivial⟩, hS.F ht⟩) hS.2.2 dX0_isFreeOfColour_40
  · refine lv_aload_n hx hb dX0_isFreeOfColour_10 rfl (lv_at hl 0 rfl) ?_
    refine va_get (D := D) (ci := 0) (v := .ref (ad 5)) (C := RX0) (T := TX0) (N := 16) hx hb hts hiw hown hK hP 0 g_at0 rfl 6 (by decide) (hts (.fieldLink RX0 24 "GloveCutters" "pieceKind" "[I") (by decide +kernel)) (fun _ h9 => h9) rfl dX0_isFreeOfColour_11 ?_
    refine lv_iload_n hx hb dX0_isFreeOfColour_14 rfl (lv_at hl 1 rfl) ?_
    refine nv_iald hx hb hK hP 5 0 g_at5 rfl (by omega) (by omega) dX0_isFreeOfColour_15 ?_
    refine lv_iload_n hx hb dX0_isFreeOfColour_16 rfl (lv_at hl 3 rfl) ?_
    refine lv_icmp_ne (tgt := 39) hx hb dX0_isFreeOfColour_17 (by decide) (fun c_2 => ?_) (fun c_2 => ?_)
    · refine lv_iconst (v := nI 0) hx hb dX0_isFreeOfColour_39 (by decide) ?_
      rw [← hQ]
      exact W.zret (v := nI 0) hx hb hr rfl (fun t ht hW => ⟨⟨nI 0, (), rfl, (by rw [isF_2 c_2]; rfl), trivial⟩, hS.F ht⟩) hS.2.2 dX0_isFreeOfColour_40
    · refine lv_aload_n hx hb dX0_isFreeOfColour_20 rfl (lv_at hl 0 rfl) ?_
      refine va_get (D := D) (ci := 0) (v := .ref (ad 1)) (C := RX0) (T := TX0) (N := 16) hx hb hts hiw hown hK hP 0 g_at0 rfl 1 (by decide) (hts (.fieldLink RX0 9 "GloveCutters" "skinColour" "[I") (by decide +kernel)) (fun _ h9 => h9) rfl dX0_isFreeOfColour_21 ?_
      refine lv_aload_n hx hb dX0_isFreeOfColour_24 rfl (lv_at hl 0 rfl) ?_
      refine va_get (D := D) (ci := 0) (v := .ref (ad 4)) (C := RX0) (T := TX0) (N := 16) hx hb hts hiw hown hK hP 0 g_at0 rfl 5 (by decide) (hts (.fieldLink RX0 21 "GloveCutters" "pieceSkin" "[I") (by decide +kernel)) (fun _ h9 => h9) rfl dX0_isFreeOfColour_25 ?_
      refine lv_iload_n hx hb dX0_isFreeOfColour_28 rfl (lv_at hl 1 rfl) ?_
      refine nv_iald hx hb hK hP 4 0 g_at4 rfl (by omega) (by omega) dX0_isFreeOfColour_29 ?_
      obtain ⟨k9, hk9, ek9⟩ := hsk p0 hp0
      rw [ek9]
      refine nv_iald hx hb hK hP 1 0 g_at1 rfl (by omega) (by omega) dX0_isFreeOfColour_30 ?_
      refine lv_iload_n hx hb dX0_isFreeOfColour_31 rfl (lv_at hl 2 rfl) ?_
      refine lv_icmp_ne (tgt := 39) hx hb dX0_isFreeOfColour_32 (by decide) (fun c_3 => ?_) (fun c_3 => ?_)
      · refine lv_iconst (v := nI 0) hx hb dX0_isFreeOfColour_39 (by decide) ?_
        rw [← hQ]
        exact W.zret (v := nI 0) hx hb hr rfl (fun t ht hW => ⟨⟨nI 0, (), rfl, (by rw [isF_3 ek9 (by omega) c_3]; rfl), trivial⟩, hS.F ht⟩) hS.2.2 dX0_isFreeOfColour_40
      · refine lv_iconst (v := nI 1) hx hb dX0_isFreeOfColour_35 (by decide) ?_
        refine lv_goto (tgt := 40) hx hb dX0_isFreeOfColour_36 (by decide) ?_
        rw [← hQ]
        exact W.zret (v := nI 1) hx hb hr rfl (fun t ht hW => ⟨⟨nI 1, (), rfl, (by rw [isF_t c_1 c_2 ek9 (by omega) c_3]; rfl), trivial⟩, hS.F ht⟩) hS.2.2 dX0_isFreeOfColour_40
set_option maxHeartbeats 4000000 in
set_option maxRecDepth 100000 in
/-- freeOfColour -/
theorem c_X0_freeOfColour (l : Launch) (D : va_G) (cI cZ cO : ClassId) (ad : Nat → Nat) (n np nq : Nat) (F : Nat → Nat → Int32) (c0 kd : Int32) (hn : n ≤ 10) (hnp : np ≤ 150) (hsk : ∀ p, p < np → ∃ k, k < n ∧ F 4 p = nI k) : Met l yX0_freeOfColour wsX0_freeOfColour ({ frames := 1, cells := 0, slots := 0, locals := 23 } : Room) (va_Pc [.ref (ad 0), .int c0, .int kd] (Pr D (gT cI cZ cO) (wG cI cZ cO ad n np nq F) V0)) (va_Qi (S := Unit) (fun (r : Int32) (_ : Unit) => r = nI (fC F np c0 kd)) (fun _ _ => True) (fun _ => False)) 0 0 (fun _ => False) := by
  refine Met.ofW (cc := cX0_freeOfColour) (maxL := 5) (ret := (some .int)) (by decide) rfl ?_
  intro p e s m args below meth c s₁ B hml hv
  obtain ⟨hargs, hP, hK, hV⟩ := hv
  have hx := B.exec
  have hb := B.bytes
  have hr := B.returns
  have hts := atoms_spec (ws := wsX0_freeOfColour) B.pre
  have hown : s.vm.findClass RX0 = some m.cls := findClass_of_methodNamed B.named
  have hlocks := B.notSynchronized
  have hS : va_S (fun _ => False) s.heap s.heap [] := va_S.rf
  have hiw : ∀ w ∈ wsX00, w ∈ wsX0_freeOfColour := (fun _ h => List.mem_cons_of_mem _ (List.mem_append_right _ h))
  have hRf : 1 ≤ (headSpec wsX0_freeOfColour ({ frames := 1, cells := 0, slots := 0, locals := 23 } : Room)).room.frames := Nat.le_refl _
  have hRl : 23 ≤ (headSpec wsX0_freeOfColour ({ frames := 1, cells := 0, slots := 0, locals := 23 } : Room)).room.locals := Nat.le_refl _
  have hRc : 0 ≤ (headSpec wsX0_freeOfColour ({ frames := 1, cells := 0, slots := 0, locals := 23 } : Room)).room.cells := Nat.le_refl _
  have hRs : 0 ≤ (headSpec wsX0_freeOfColour ({ frames := 1, cells := 0, slots := 0, locals := 23 } : Room)).room.slots := Nat.le_refl _
  generalize (headSpec wsX0_freeOfColour ({ frames := 1, cells := 0, slots := 0, locals := 23 } : Room)).room = R at hRf hRl hRc hRs ⊢
  have hl := lv_entry [.ref (ad 0), .int c0, .int kd] (n := 5) (Nat.le_of_ble_eq_true rfl)
  refine W.eq (show entryFrame m args 5 = _ from by rw [hargs, lg_entry_eq]) ?_
  generalize (lg_sl [.ref (ad 0), .int c0, .int kd] ++ List.replicate (5 - (lg_sl [.ref (ad 0), .int c0, .int kd]).length) Slot.unset).toArray = ls at hl ⊢
  have hl : lv_has ls 5 [(0, .ref (ad 0)), (1, .int c0), (2, .int kd)] := hl
  generalize hQ : MQ _ _ _ _ _ _ _ = Q
  refine lv_iconst (v := nI 0) hx hb dX0_freeOfColour_0 (by decide) ?_
  refine lv_istore_n (lv' := [(3, .int (nI 0)), (0, .ref (ad 0)), (1, .int c0), (2, .int kd)]) hx hb dX0_freeOfColour_1 rfl hl (by decide) rfl (fun ls hl => ?_)
  refine lv_iconst (v := nI 0) hx hb dX0_freeOfColour_2 (by decide) ?_
  refine lv_istore (lv' := [(4, .int (nI 0)), (3, .int (nI 0)), (0, .ref (ad 0)), (1, .int c0), (2, .int kd)]) hx hb dX0_freeOfColour_3 hl (by decide) rfl (fun ls hl => ?_)
  have L5 : ∀ (fu : Nat) (k : Nat) (i : Nat) (H : Heap) (locs : List Loc) (ls : Array Slot), np - i < fu → (i ≤ np) → (k = cn (isF F c0 kd) i) → (k ≤ i) → va_P D vwCl (wG cI cZ cO ad n np nq F) H → va_S (fun _ => False) s.heap H locs → lv_has ls 5 [(0, .ref (ad 0)), (1, .int c0), (2, .int kd), (3, .int (nI k)), (4, .int (nI i))] → W p l e R s m args below meth c H locs 0 0 Q (F0 m 5 ls []) := by
    intro fu
    induction fu with
    | zero => intro _ _ _ _ _ h; exact absurd h (Nat.not_lt_zero _)
    | succ fu ih5 =>
      intro k i H locs ls hm5 h1 h2 h3 hP  hS hl
      refine lv_iload hx hb dX0_freeOfColour_5 (lv_at hl 4 rfl) ?_
      refine lv_aload_n hx hb dX0_freeOfColour_7 rfl (lv_at hl 0 rfl) ?_
      refine va_get (D := D) (ci := 0) (v := .int (nI np)) (C := RX0) (T := TX0) (N := 16) hx hb hts hiw hown hK hP 0 g_at0 rfl 4 (by decide) (hts (.fieldLink RX0 107 "GloveCutters" "pieces" "I") (by decide +kernel)) (fun _ h9 => h9) rfl dX0_freeOfColour_8 ?_
      refine nv_icmp_ge (tgt := 34) hx hb (by omega) (by omega) dX0_freeOfColour_11 (by decide) (fun c_1 => ?_) (fun c_1 => ?_)
      · refine lv_iload_n hx hb dX0_freeOfColour_34 rfl (lv_at hl 3 rfl) ?_
        rw [← hQ]
        exact W.iret (v := nI k) hx hb hr (fun t ht hW => ⟨⟨nI k, (), rfl, (by rw [h2, show i = np by omega]; rfl), trivial⟩, hS.F ht⟩) hS.2.2 dX0_freeOfColour_35
      · refine lv_aload_n hx hb dX0_freeOfColour_14 rfl (lv_at hl 0 rfl) ?_
        refine lv_iload hx hb dX0_freeOfColour_15 (lv_at hl 4 rfl) ?_
        refine lv_iload_n hx hb dX0_freeOfColour_17 rfl (lv_at hl 1 rfl) ?_
        refine lv_iload_n hx hb dX0_freeOfColour_18 rfl (lv_at hl 2 rfl) ?_
        refine va_calli (va_runV (As := [.int (nI i), .int c0, .int kd]) (rest := []) ⟨hx, hb, hml, hown, hts⟩ (c_X0_isFreeOfColour l D cI cZ cO ad n np nq F i c0 kd hn hnp hsk (by omega)) (cwV 3 hts gX0_freeOfColour_X0_isFreeOfColour rfl rfl rfl (by decide +kernel) ⟨Nat.le_trans (Nat.le_of_ble_eq_true rfl) hRf, Nat.le_trans (Nat.le_of_ble_eq_true rfl) hRl⟩) (pr_V hP (ci := 0) (q0 := 0) rfl g_at0 rfl hP hK [0, 1, 2] rfl V0_at V0_c) rfl rfl hl.1 rfl (lv_room (Nat.le_of_ble_eq_true rfl)) dX0_freeOfColour_19 ⟨Nat.le_trans (Nat.zero_le _) hRc, Nat.le_trans (Nat.zero_le _) hRs⟩) hS (fun _ _ h => h.elim) (fun _ h => h.elim) (fun r_2 _ t H1 locs ht hvm hw_2 hB hz hk hS => ?_)
        have hP := P_kept hP hk
        obtain rfl := hw_2
        refine nb_if_eq (tgt := 28) hx hb dX0_freeOfColour_22 (by decide) (fun c_3 => ?_) (fun c_3 => ?_)
        · refine lv_iinc (k := 4) (v := nI (i + 1)) (lv' := [(4, .int (nI (i + 1))), (0, .ref (ad 0)), (1, .int c0), (2, .int kd), (3, .int (nI k))]) hx hb dX0_freeOfColour_28 hl rfl (nI_add i 1) (by decide) rfl (fun ls hl => ?_)
          refine lv_goto (tgt := 5) hx hb dX0_freeOfColour_31 (by decide) ?_
          exact ih5 k (i + 1) _ _ _ (by omega) (by omega) (by rw [h2]; exact (cn_f c_3).symm) (by omega) hP hS (lv_sub hl [1, 2, 3, 4, 0] rfl)
        · refine lv_iinc (k := 3) (v := nI (k + 1)) (lv' := [(3, .int (nI (k + 1))), (0, .ref (ad 0)), (1, .int c0), (2, .int kd), (4, .int (nI i))]) hx hb dX0_freeOfColour_25 hl rfl (nI_add k 1) (by decide) rfl (fun ls hl => ?_)
          refine lv_iinc (k := 4) (v := nI (i + 1)) (lv' := [(4, .int (nI (i + 1))), (3, .int (nI (k + 1))), (0, .ref (ad 0)), (1, .int c0), (2, .int kd)]) hx hb dX0_freeOfColour_28 hl rfl (nI_add i 1) (by decide) rfl (fun ls hl => ?_)
          refine lv_goto (tgt := 5) hx hb dX0_freeOfColour_31 (by decide) ?_
          exact ih5 (k + 1) (i + 1) _ _ _ (by omega) (by omega) (by rw [h2]; exact (cn_t c_3).symm) (by omega) hP hS (lv_sub hl [2, 3, 4, 1, 0] rfl)
  exact L5 _ 0 0 _ _ _ (Nat.lt_succ_self _) (by omega) rfl (by omega) hP hS (lv_sub hl [2, 3, 4, 1, 0] rfl)
set_option maxHeartbeats 4000000 in
set_option maxRecDepth 100000 in
/-- freeTranks -/
theorem c_X0_freeTranks (l : Launch) (D : va_G) (cI cZ cO : ClassId) (ad : Nat → Nat) (n np nq : Nat) (F : Nat → Nat → Int32) (s0 : Nat) (hnp : np ≤ 150) : Met l yX0_freeTranks wsX0_freeTranks ({ frames := 0, cells := 0, slots := 0, locals := 0 } : Room) (va_Pc [.ref (ad 0), .int (nI s0)] (Pr D (gT cI cZ cO) (wG cI cZ cO ad n np nq F) V0)) (va_Qi (S := Unit) (fun (r : Int32) (_ : Unit) => r = nI (fT F np s0)) (fun _ _ => True) (fun _ => False)) 0 0 (fun _ => False) := by
  refine Met.ofW (cc := cX0_freeTranks) (maxL := 4) (ret := (some .int)) (by decide) rfl ?_
  intro p e s m args below meth c s₁ B hml hv
  obtain ⟨hargs, hP, hK, hV⟩ := hv
  have hx := B.exec
  have hb := B.bytes
  have hr := B.returns
  have hts := atoms_spec (ws := wsX0_freeTranks) B.pre
  have hown : s.vm.findClass RX0 = some m.cls := findClass_of_methodNamed B.named
  have hlocks := B.notSynchronized
  have hS : va_S (fun _ => False) s.heap s.heap [] := va_S.rf
  have hiw : ∀ w ∈ wsX00, w ∈ wsX0_freeTranks := (fun _ h => List.mem_cons_of_mem _ (List.mem_append_right _ h))
  have hRf : 0 ≤ (headSpec wsX0_freeTranks ({ frames := 0, cells := 0, slots := 0, locals := 0 } : Room)).room.frames := Nat.le_refl _
  have hRl : 0 ≤ (headSpec wsX0_freeTranks ({ frames := 0, cells := 0, slots := 0, locals := 0 } : Room)).room.locals := Nat.le_refl _
  have hRc : 0 ≤ (headSpec wsX0_freeTranks ({ frames := 0, cells := 0, slots := 0, locals := 0 } : Room)).room.cells := Nat.le_refl _
  have hRs : 0 ≤ (headSpec wsX0_freeTranks ({ frames := 0, cells := 0, slots := 0, locals := 0 } : Room)).room.slots := Nat.le_refl _
  generalize (headSpec wsX0_freeTranks ({ frames := 0, cells := 0, slots := 0, locals := 0 } : Room)).room = R at hRf hRl hRc hRs ⊢
  have hl := lv_entry [.ref (ad 0), .int (nI s0)] (n := 4) (Nat.le_of_ble_eq_true rfl)
  refine W.eq (show entryFrame m args 4 = _ from by rw [hargs, lg_entry_eq]) ?_
  generalize (lg_sl [.ref (ad 0), .int (nI s0)] ++ List.replicate (4 - (lg_sl [.ref (ad 0), .int (nI s0)]).length) Slot.unset).toArray = ls at hl ⊢
  have hl : lv_has ls 4 [(0, .ref (ad 0)), (1, .int (nI s0))] := hl
  generalize hQ : MQ _ _ _ _ _ _ _ = Q
  refine lv_iconst (v := nI 0) hx hb dX0_freeTranks_0 (by decide) ?_
  refine lv_istore_n (lv' := [(2, .int (nI 0)), (0, .ref (ad 0)), (1, .int (nI s0))]) hx hb dX0_freeTranks_1 rfl hl (by decide) rfl (fun ls hl => ?_)
  refine lv_iconst (v := nI 0) hx hb dX0_freeTranks_2 (by decide) ?_
  refine lv_istore_n (lv' := [(3, .int (nI 0)), (2, .int (nI 0)), (0, .ref (ad 0)), (1, .int (nI s0))]) hx hb dX0_freeTranks_3 rfl hl (by decide) rfl (fun ls hl => ?_)
  have L4 : ∀ (fu : Nat) (k : Nat) (i : Nat) (H : Heap) (locs : List Loc) (ls : Array Slot), np - i < fu → (i ≤ np) → (k = cn (isT F s0) i) → (k ≤ i) → va_P D vwCl (wG cI cZ cO ad n np nq F) H → va_S (fun _ => False) s.heap H locs → lv_has ls 4 [(0, .ref (ad 0)), (1, .int (nI s0)), (2, .int (nI k)), (3, .int (nI i))] → W p l e R s m args below meth c H locs 0 0 Q (F0 m 4 ls []) := by
    intro fu
    induction fu with
    | zero => intro _ _ _ _ _ h; exact absurd h (Nat.not_lt_zero _)
    | succ fu ih4 =>
      intro k i H locs ls hm4 h1 h2 h3 hP  hS hl
      refine lv_iload_n hx hb dX0_freeTranks_4 rfl (lv_at hl 3 rfl) ?_
      refine lv_aload_n hx hb dX0_freeTranks_5 rfl (lv_at hl 0 rfl) ?_
      refine va_get (D := D) (ci := 0) (v := .int (nI np)) (C := RX0) (T := TX0) (N := 16) hx hb hts hiw hown hK hP 0 g_at0 rfl 4 (by decide) (hts (.fieldLink RX0 107 "GloveCutters" "pieces" "I") (by decide +kernel)) (fun _ h9 => h9) rfl dX0_freeTranks_6 ?_
      refine nv_icmp_ge (tgt := 50) hx hb (by omega) (by omega) dX0_freeTranks_9 (by decide) (fun c_1 => ?_) (fun c_1 => ?_)
      · refine lv_iload_n hx hb dX0_freeTranks_50 rfl (lv_at hl 2 rfl) ?_
        rw [← hQ]
        exact W.iret (v := nI k) hx hb hr (fun t ht hW => ⟨⟨nI k, (), rfl, (by rw [h2, show i = np by omega]; rfl), trivial⟩, hS.F ht⟩) hS.2.2 dX0_freeTranks_51
      · refine lv_aload_n hx hb dX0_freeTranks_12 rfl (lv_at hl 0 rfl) ?_
        refine va_get (D := D) (ci := 0) (v := .ref (ad 6)) (C := RX0) (T := TX0) (N := 16) hx hb hts hiw hown hK hP 0 g_at0 rfl 7 (by decide) (hts (.fieldLink RX0 27 "GloveCutters" "pieceWhere" "[I") (by decide +kernel)) (fun _ h9 => h9) rfl dX0_freeTranks_13 ?_
        refine lv_iload_n hx hb dX0_freeTranks_16 rfl (lv_at hl 3 rfl) ?_
        refine nv_iald hx hb hK hP 6 0 g_at6 rfl (by omega) (by omega) dX0_freeTranks_17 ?_
        refine lv_iconst (v := -1) hx hb dX0_freeTranks_18 (by decide) ?_
        refine lv_icmp_ne (tgt := 44) hx hb dX0_freeTranks_19 (by decide) (fun c_2 => ?_) (fun c_2 => ?_)
        · refine lv_iinc (k := 3) (v := nI (i + 1)) (lv' := [(3, .int (nI (i + 1))), (0, .ref (ad 0)), (1, .int (nI s0)), (2, .int (nI k))]) hx hb dX0_freeTranks_44 hl rfl (nI_add i 1) (by decide) rfl (fun ls hl => ?_)
          refine lv_goto (tgt := 4) hx hb dX0_freeTranks_47 (by decide) ?_
          exact ih4 k (i + 1) _ _ _ (by omega) (by omega) (by rw [h2]; exact (cn_f (isT_1 c_2)).symm) (by omega) hP hS (lv_sub hl [1, 2, 3, 0] rfl)
        · refine lv_aload_n hx hb dX0_freeTranks_22 rfl (lv_at hl 0 rfl) ?_
          refine va_get (D := D) (ci := 0) (v := .ref (ad 5)) (C := RX0) (T := TX0) (N := 16) hx hb hts hiw hown hK hP 0 g_at0 rfl 6 (by decide) (hts (.fieldLink RX0 24 "GloveCutters" "pieceKind" "[I") (by decide +kernel)) (fun _ h9 => h9) rfl dX0_freeTranks_23 ?_
          refine lv_iload_n hx hb dX0_freeTranks_26 rfl (lv_at hl 3 rfl) ?_
          refine nv_iald hx hb hK hP 5 0 g_at5 rfl (by omega) (by omega) dX0_freeTranks_27 ?_
          refine lv_if_ne (tgt := 44) hx hb dX0_freeTranks_28 (by decide) (fun c_3 => ?_) (fun c_3 => ?_)
          · refine lv_iinc (k := 3) (v := nI (i + 1)) (lv' := [(3, .int (nI (i + 1))), (0, .ref (ad 0)), (1, .int (nI s0)), (2, .int (nI k))]) hx hb dX0_freeTranks_44 hl rfl (nI_add i 1) (by decide) rfl (fun ls hl => ?_)
            refine lv_goto (tgt := 4) hx hb dX0_freeTranks_47 (by decide) ?_
            exact ih4 k (i + 1) _ _ _ (by omega) (by omega) (by rw [h2]; exact (cn_f (isT_2 c_3)).symm) (by omega) hP hS (lv_sub hl [1, 2, 3, 0] rfl)
          · refine lv_aload_n hx hb dX0_freeTranks_31 rfl (lv_at hl 0 rfl) ?_
            refine va_get (D := D) (ci := 0) (v := .ref (ad 4)) (C := RX0) (T := TX0) (N := 16) hx hb hts hiw hown hK hP 0 g_at0 rfl 5 (by decide) (hts (.fieldLink RX0 21 "GloveCutters" "pieceSkin" "[I") (by decide +kernel)) (fun _ h9 => h9) rfl dX0_freeTranks_32 ?_
            refine lv_iload_n hx hb dX0_freeTranks_35 rfl (lv_at hl 3 rfl) ?_
            refine nv_iald hx hb hK hP 4 0 g_at4 rfl (by omega) (by omega) dX0_freeTranks_36 ?_
            refine lv_iload_n hx hb dX0_freeTranks_37 rfl (lv_at hl 1 rfl) ?_
            refine lv_icmp_ne (tgt := 44) hx hb dX0_freeTranks_38 (by decide) (fun c_4 => ?_) (fun c_4 => ?_)
            · refine lv_iinc (k := 3) (v := nI (i + 1)) (lv' := [(3, .int (nI (i + 1))), (0, .ref (ad 0)), (1, .int (nI s0)), (2, .int (nI k))]) hx hb dX0_freeTranks_44 hl rfl (nI_add i 1) (by decide) rfl (fun ls hl => ?_)
              refine lv_goto (tgt := 4) hx hb dX0_freeTranks_47 (by decide) ?_
              exact ih4 k (i + 1) _ _ _ (by omega) (by omega) (by rw [h2]; exact (cn_f (isT_3 c_4)).symm) (by omega) hP hS (lv_sub hl [1, 2, 3, 0] rfl)
            · refine lv_iinc (k := 2) (v := nI (k + 1)) (lv' := [(2, .int (nI (k + 1))), (0, .ref (ad 0)), (1, .int (nI s0)), (3, .int (nI i))]) hx hb dX0_freeTranks_41 hl rfl (nI_add k 1) (by decide) rfl (fun ls hl => ?_)
              refine lv_iinc (k := 3) (v := nI (i + 1)) (lv' := [(3, .int (nI (i + 1))), (2, .int (nI (k + 1))), (0, .ref (ad 0)), (1, .int (nI s0))]) hx hb dX0_freeTranks_44 hl rfl (nI_add i 1) (by decide) rfl (fun ls hl => ?_)
              refine lv_goto (tgt := 4) hx hb dX0_freeTranks_47 (by decide) ?_
              exact ih4 (k + 1) (i + 1) _ _ _ (by omega) (by omega) (by rw [h2]; exact (cn_t (isT_t c_2 c_3 c_4)).symm) (by omega) hP hS (lv_sub hl [2, 3, 1, 0] rfl)
  exact L4 _ 0 0 _ _ _ (Nat.lt_succ_self _) (by omega) rfl (by omega) hP hS (lv_sub hl [2, 3, 1, 0] rfl)
set_option maxHeartbeats 4000000 in
set_option maxRecDepth 100000 in
/-- mostTranksOfOneSkin -/
theorem c_X0_mostTranksOfOneSkin (l : Launch) (D : va_G) (cI cZ cO : ClassId) (ad : Nat → Nat) (n np nq : Nat) (F : Nat → Nat → Int32) (c0 : Int32) (hn : n ≤ 10) (hnp : np ≤ 150) : Met l yX0_mostTranksOfOneSkin wsX0_mostTranksOfOneSkin ({ frames := 1, cells := 0, slots := 0, locals := 23 } : Room) (va_Pc [.ref (ad 0), .int c0] (Pr D (gT cI cZ cO) (wG cI cZ cO ad n np nq F) V0)) (va_Qi (S := Unit) (fun (r : Int32) (_ : Unit) => r = nI (mxT F np c0 n)) (fun _ _ => True) (fun _ => False)) 0 0 (fun _ => False) := by
  refine Met.ofW (cc := cX0_mostTranksOfOneSkin) (maxL := 4) (ret := (some .int)) (by decide) rfl ?_
  intro p e s m args below meth c s₁ B hml hv
  obtain ⟨hargs, hP, hK, hV⟩ := hv
  have hx := B.exec
  have hb := B.bytes
  have hr := B.returns
  have hts := atoms_spec (ws := wsX0_mostTranksOfOneSkin) B.pre
  have hown : s.vm.findClass RX0 = some m.cls := findClass_of_methodNamed B.named
  have hlocks := B.notSynchronized
  have hS : va_S (fun _ => False) s.heap s.heap [] := va_S.rf
  have hiw : ∀ w ∈ wsX00, w ∈ wsX0_mostTranksOfOneSkin := (fun _ h => List.mem_cons_of_mem _ (List.mem_append_right _ h))
  have hRf : 1 ≤ (headSpec wsX0_mostTranksOfOneSkin ({ frames := 1, cells := 0, slots := 0, locals := 23 } : Room)).room.frames := Nat.le_refl _
  have hRl : 23 ≤ (headSpec wsX0_mostTranksOfOneSkin ({ frames := 1, cells := 0, slots := 0, locals := 23 } : Room)).room.locals := Nat.le_refl _
  have hRc : 0 ≤ (headSpec wsX0_mostTranksOfOneSkin ({ frames := 1, cells := 0, slots := 0, locals := 23 } : Room)).room.cells := Nat.le_refl _
  have hRs : 0 ≤ (headSpec wsX0_mostTranksOfOneSkin ({ frames := 1, cells := 0, slots := 0, locals := 23 } : Room)).room.slots := Nat.le_refl _
  generalize (headSpec wsX0_mostTranksOfOneSkin ({ frames := 1, cells := 0, slots := 0, locals := 23 } : Room)).room = R at hRf hRl hRc hRs ⊢
  have hl := lv_entry [.ref (ad 0), .int c0] (n := 4) (Nat.le_of_ble_eq_true rfl)
  refine W.eq (show entryFrame m args 4 = _ from by rw [hargs, lg_entry_eq]) ?_
  generalize (lg_sl [.ref (ad 0), .int c0] ++ List.replicate (4 - (lg_sl [.ref (ad 0), .int c0]).length) Slot.unset).toArray = ls at hl ⊢
  have hl : lv_has ls 4 [(0, .ref (ad 0)), (1, .int c0)] := hl
  generalize hQ : MQ _ _ _ _ _ _ _ = Q
  refine lv_iconst (v := nI 0) hx hb dX0_mostTranksOfOneSkin_0 (by decide) ?_
  refine lv_istore_n (lv' := [(2, .int (nI 0)), (0, .ref (ad 0)), (1, .int c0)]) hx hb dX0_mostTranksOfOneSkin_1 rfl hl (by decide) rfl (fun ls hl => ?_)
  refine lv_iconst (v := nI 0) hx hb dX0_mostTranksOfOneSkin_2 (by decide) ?_
  refine lv_istore_n (lv' := [(3, .int (nI 0)), (2, .int (nI 0)), (0, .ref (ad 0)), (1, .int c0)]) hx hb dX0_mostTranksOfOneSkin_3 rfl hl (by decide) rfl (fun ls hl => ?_)
  have L4 : ∀ (fu : Nat) (k : Nat) (i : Nat) (H : Heap) (locs : List Loc) (ls : Array Slot), n - i < fu → (i ≤ n) → (k = mxT F np c0 i) → (k ≤ 150) → va_P D vwCl (wG cI cZ cO ad n np nq F) H → va_S (fun _ => False) s.heap H locs → lv_has ls 4 [(0, .ref (ad 0)), (1, .int c0), (2, .int (nI k)), (3, .int (nI i))] → W p l e R s m args below meth c H locs 0 0 Q (F0 m 4 ls []) := by
    intro fu
    induction fu with
    | zero => intro _ _ _ _ _ h; exact absurd h (Nat.not_lt_zero _)
    | succ fu ih4 =>
      intro k i H locs ls hm4 h1 h2 h3 hP  hS hl
      refine lv_iload_n hx hb dX0_mostTranksOfOneSkin_4 rfl (lv_at hl 3 rfl) ?_
      refine lv_aload_n hx hb dX0_mostTranksOfOneSkin_5 rfl (lv_at hl 0 rfl) ?_
      refine va_get (D := D) (ci := 0) (v := .int (nI n)) (C := RX0) (T := TX0) (N := 16) hx hb hts hiw hown hK hP 0 g_at0 rfl 0 (by decide) (hts (.fieldLink RX0 56 "GloveCutters" "skins" "I") (by decide +kernel)) (fun _ h9 => h9) rfl dX0_mostTranksOfOneSkin_6 ?_
      refine nv_icmp_ge (tgt := 38) hx hb (by omega) (by omega) dX0_mostTranksOfOneSkin_9 (by decide) (fun c_1 => ?_) (fun c_1 => ?_)
      · refine lv_iload_n hx hb dX0_mostTranksOfOneSkin_38 rfl (lv_at hl 2 rfl) ?_
        rw [← hQ]
        exact W.iret (v := nI k) hx hb hr (fun t ht hW => ⟨⟨nI k, (), rfl, (by rw [h2, show i = n by omega]), trivial⟩, hS.F ht⟩) hS.2.2 dX0_mostTranksOfOneSkin_39
      · refine lv_aload_n hx hb dX0_mostTranksOfOneSkin_12 rfl (lv_at hl 0 rfl) ?_
        refine va_get (D := D) (ci := 0) (v := .ref (ad 1)) (C := RX0) (T := TX0) (N := 16) hx hb hts hiw hown hK hP 0 g_at0 rfl 1 (by decide) (hts (.fieldLink RX0 9 "GloveCutters" "skinColour" "[I") (by decide +kernel)) (fun _ h9 => h9) rfl dX0_mostTranksOfOneSkin_13 ?_
        refine lv_iload_n hx hb dX0_mostTranksOfOneSkin_16 rfl (lv_at hl 3 rfl) ?_
        refine nv_iald hx hb hK hP 1 0 g_at1 rfl (by omega) (by omega) dX0_mostTranksOfOneSkin_17 ?_
        refine lv_iload_n hx hb dX0_mostTranksOfOneSkin_18 rfl (lv_at hl 1 rfl) ?_
        refine lv_icmp_ne (tgt := 32) hx hb dX0_mostTranksOfOneSkin_19 (by decide) (fun c_2 => ?_) (fun c_2 => ?_)
        · refine lv_iinc (k := 3) (v := nI (i + 1)) (lv' := [(3, .int (nI (i + 1))), (0, .ref (ad 0)), (1, .int c0), (2, .int (nI k))]) hx hb dX0_mostTranksOfOneSkin_32 hl rfl (nI_add i 1) (by decide) rfl (fun ls hl => ?_)
          refine lv_goto (tgt := 4) hx hb dX0_mostTranksOfOneSkin_35 (by decide) ?_
          exact ih4 k (i + 1) _ _ _ (by omega) (by omega) (by rw [mxT_f c_2]; exact h2) h3 hP hS (lv_sub hl [1, 2, 3, 0] rfl)
        · refine lv_iload_n hx hb dX0_mostTranksOfOneSkin_22 rfl (lv_at hl 2 rfl) ?_
          refine lv_aload_n hx hb dX0_mostTranksOfOneSkin_23 rfl (lv_at hl 0 rfl) ?_
          refine lv_iload_n hx hb dX0_mostTranksOfOneSkin_24 rfl (lv_at hl 3 rfl) ?_
          refine va_calli (va_runV (As := [.int (nI i)]) (rest := [.int (nI k)]) ⟨hx, hb, hml, hown, hts⟩ (c_X0_freeTranks l D cI cZ cO ad n np nq F i hnp) (cwV 1 hts gX0_mostTranksOfOneSkin_X0_freeTranks rfl rfl rfl (by decide +kernel) ⟨Nat.le_trans (Nat.le_of_ble_eq_true rfl) hRf, Nat.le_trans (Nat.le_of_ble_eq_true rfl) hRl⟩) (pr_V hP (ci := 0) (q0 := 0) rfl g_at0 rfl hP hK [0, 1, 2] rfl V0_at V0_c) rfl rfl hl.1 rfl (lv_room (Nat.le_of_ble_eq_true rfl)) dX0_mostTranksOfOneSkin_25 ⟨Nat.le_trans (Nat.zero_le _) hRc, Nat.le_trans (Nat.zero_le _) hRs⟩) hS (fun _ _ h => h.elim) (fun _ h => h.elim) (fun r_3 _ t H1 locs ht hvm hw_3 hB hz hk hS => ?_)
          have hP := P_kept hP hk
          obtain rfl := hw_3
          have hb9 := fT_le F np i
          refine va_mmax hx hb (hml.trans hl.1.symm) hown (hts (.methodLink RX0 226 Lib.Math.max.name) (by decide +kernel)) (hts (.static Lib.Math.max.name) (by decide +kernel)) (hts (.initialized "java/lang/Math") (by decide +kernel)) (hts (.code Lib.Math.max.name Lib.Math.max.code 2 (some .int)) (by decide +kernel)) (Nat.le_trans (Nat.le_of_ble_eq_true rfl) hRf) (Nat.le_trans (Nat.le_of_ble_eq_true rfl) hRl) (Nat.zero_le _) (Nat.zero_le _) dX0_mostTranksOfOneSkin_28 ?_
          rw [nI_max (by omega) (by omega)]
          refine lv_istore_n (lv' := [(2, .int (nI (max k (fT F np i)))), (0, .ref (ad 0)), (1, .int c0), (3, .int (nI i))]) hx hb dX0_mostTranksOfOneSkin_31 rfl hl (by decide) rfl (fun ls hl => ?_)
          refine lv_iinc (k := 3) (v := nI (i + 1)) (lv' := [(3, .int (nI (i + 1))), (2, .int (nI (max k (fT F np i)))), (0, .ref (ad 0)), (1, .int c0)]) hx hb dX0_mostTranksOfOneSkin_32 hl rfl (nI_add i 1) (by decide) rfl (fun ls hl => ?_)
          refine lv_goto (tgt := 4) hx hb dX0_mostTranksOfOneSkin_35 (by decide) ?_
          exact ih4 (max k (fT F np i)) (i + 1) _ _ _ (by omega) (by omega) (by rw [mxT_t c_2, ← h2]) (Nat.max_le.mpr ⟨h3, by omega⟩) hP hS (lv_sub hl [2, 3, 1, 0] rfl)
  exact L4 _ 0 0 _ _ _ (Nat.lt_succ_self _) (by omega) rfl (by omega) hP hS (lv_sub hl [2, 3, 1, 0] rfl)
set_option maxHeartbeats 4000000 in
set_option maxRecDepth 100000 in
/-- pairsFrom -/
theorem c_X0_pairsFrom (l : Launch) (D : va_G) (fr kd : Nat) (hkd : kd < 4) (hf9 : fr ≤ 150) : Met l yX0_pairsFrom wsX0_pairsFrom ({ frames := 0, cells := 0, slots := 0, locals := 0 } : Room) (va_Pc [.int (nI fr), .int (nI kd)] (Pr D [] [] (EnvG (fun _ => False)))) (va_Qi (S := Unit) (fun (r : Int32) (_ : Unit) => r = nI (fr / kP kd)) (fun _ _ => True) (fun _ => False)) 0 0 (fun _ => False) := by
  refine Met.ofW (cc := cX0_pairsFrom) (maxL := 3) (ret := (some .int)) (by decide) rfl ?_
  intro p e s m args below meth c s₁ B hml hv
  obtain ⟨hargs, hP, hK, hV⟩ := hv
  have hx := B.exec
  have hb := B.bytes
  have hr := B.returns
  have hts := atoms_spec (ws := wsX0_pairsFrom) B.pre
  have hown : s.vm.findClass RX0 = some m.cls := findClass_of_methodNamed B.named
  have hlocks := B.notSynchronized
  have hS : va_S (fun _ => False) s.heap s.heap [] := va_S.rf
  have hV0 : EnvG (fun _ => False) s := EnvG.nar hV sub_no
  have hRf : 0 ≤ (headSpec wsX0_pairsFrom ({ frames := 0, cells := 0, slots := 0, locals := 0 } : Room)).room.frames := Nat.le_refl _
  have hRl : 0 ≤ (headSpec wsX0_pairsFrom ({ frames := 0, cells := 0, slots := 0, locals := 0 } : Room)).room.locals := Nat.le_refl _
  have hRc : 0 ≤ (headSpec wsX0_pairsFrom ({ frames := 0, cells := 0, slots := 0, locals := 0 } : Room)).room.cells := Nat.le_refl _
  have hRs : 0 ≤ (headSpec wsX0_pairsFrom ({ frames := 0, cells := 0, slots := 0, locals := 0 } : Room)).room.slots := Nat.le_refl _
  generalize (headSpec wsX0_pairsFrom ({ frames := 0, cells := 0, slots := 0, locals := 0 } : Room)).room = R at hRf hRl hRc hRs ⊢
  have hl := lv_entry [.int (nI fr), .int (nI kd)] (n := 3) (Nat.le_of_ble_eq_true rfl)
  refine W.eq (show entryFrame m args 3 = _ from by rw [hargs, lg_entry_eq]) ?_
  generalize (lg_sl [.int (nI fr), .int (nI kd)] ++ List.replicate (3 - (lg_sl [.int (nI fr), .int (nI kd)]).length) Slot.unset).toArray = ls at hl ⊢
  have hl : lv_has ls 3 [(0, .int (nI fr)), (1, .int (nI kd))] := hl
  generalize hQ : MQ _ _ _ _ _ _ _ = Q
  have hp9 := kP_le kd
  obtain ⟨tb_KIND_IN_PAIR, hKIND_IN_PAIRZ, hKIND_IN_PAIRT⟩ := hV0.2.2.2.1
  refine va_gets hx hb hKIND_IN_PAIRZ hS hown (hts (.fieldLink RX0 229 "GloveCutters" "KIND_IN_PAIR" "[I") (by decide +kernel)) (fun _ h9 => h9) dX0_pairsFrom_0 ?_
  refine lv_iload_n hx hb dX0_pairsFrom_3 rfl (lv_at hl 1 rfl) ?_
  refine nv_tab hx hb hKIND_IN_PAIRT hS (by omega) dX0_pairsFrom_4 ?_
  refine lv_istore_n (lv' := [(2, .int (nI (kP kd))), (0, .int (nI fr)), (1, .int (nI kd))]) hx hb dX0_pairsFrom_5 rfl hl (by decide) rfl (fun ls hl => ?_)
  refine lv_iload_n hx hb dX0_pairsFrom_6 rfl (lv_at hl 0 rfl) ?_
  refine nv_if_le (tgt := 16) hx hb (by omega) dX0_pairsFrom_7 (by decide) (fun c_1 => ?_) (fun c_1 => ?_)
  · exact absurd c_1 (by omega)
  · refine lv_iload_n hx hb dX0_pairsFrom_10 rfl (lv_at hl 1 rfl) ?_
    refine lv_iload_n hx hb dX0_pairsFrom_11 rfl (lv_at hl 0 rfl) ?_
    refine nv_idiv hx hb (by omega) (by omega) (by omega) dX0_pairsFrom_12 ?_
    refine lv_goto (tgt := 17) hx hb dX0_pairsFrom_13 (by decide) ?_
    rw [← hQ]
    exact W.iret (v := nI (fr / (kP kd))) hx hb hr (fun t ht hW => ⟨⟨nI (fr / (kP kd)), (), rfl, rfl, trivial⟩, hS.F ht⟩) hS.2.2 dX0_pairsFrom_17
set_option maxHeartbeats 4000000 in
set_option maxRecDepth 100000 in
/-- trankPairs -/
theorem c_X0_trankPairs (l : Launch) (D : va_G) (cI cZ cO : ClassId) (ad : Nat → Nat) (n np nq : Nat) (F : Nat → Nat → Int32) (c0 : Int32) (hn : n ≤ 10) (hnp : np ≤ 150) : Met l yX0_trankPairs wsX0_trankPairs ({ frames := 1, cells := 0, slots := 0, locals := 23 } : Room) (va_Pc [.ref (ad 0), .int c0] (Pr D (gT cI cZ cO) (wG cI cZ cO ad n np nq F) (EnvG (fun _ => False)))) (va_Qi (S := Unit) (fun (r : Int32) (_ : Unit) => r = nI (tP F np c0 n)) (fun _ _ => True) (fun _ => False)) 0 0 (fun _ => False) := by
  refine Met.ofW (cc := cX0_trankPairs) (maxL := 4) (ret := (some .int)) (by decide) rfl ?_
  intro p e s m args below meth c s₁ B hml hv
  obtain ⟨hargs, hP, hK, hV⟩ := hv
  have hx := B.exec
  have hb := B.bytes
  have hr := B.returns
  have hts := atoms_spec (ws := wsX0_trankPairs) B.pre
  have hown : s.vm.findClass RX0 = some m.cls := findClass_of_methodNamed B.named
  have hlocks := B.notSynchronized
  have hS : va_S (fun _ => False) s.heap s.heap [] := va_S.rf
  have hV0 : EnvG (fun _ => False) s := EnvG.nar hV sub_no
  have hiw : ∀ w ∈ wsX00, w ∈ wsX0_trankPairs := (fun _ h => List.mem_cons_of_mem _ (List.mem_append_right _ h))
  have hRf : 1 ≤ (headSpec wsX0_trankPairs ({ frames := 1, cells := 0, slots := 0, locals := 23 } : Room)).room.frames := Nat.le_refl _
  have hRl : 23 ≤ (headSpec wsX0_trankPairs ({ frames := 1, cells := 0, slots := 0, locals := 23 } : Room)).room.locals := Nat.le_refl _
  have hRc : 0 ≤ (headSpec wsX0_trankPairs ({ frames := 1, cells := 0, slots := 0, locals := 23 } : Room)).room.cells := Nat.le_refl _
  have hRs : 0 ≤ (headSpec wsX0_trankPairs ({ frames := 1, cells := 0, slots := 0, locals := 23 } : Room)).room.slots := Nat.le_refl _
  generalize (headSpec wsX0_trankPairs ({ frames := 1, cells := 0, slots := 0, locals := 23 } : Room)).room = R at hRf hRl hRc hRs ⊢
  have hl := lv_entry [.ref (ad 0), .int c0] (n := 4) (Nat.le_of_ble_eq_true rfl)
  refine W.eq (show entryFrame m args 4 = _ from by rw [hargs, lg_entry_eq]) ?_
  generalize (lg_sl [.ref (ad 0), .int c0] ++ List.replicate (4 - (lg_sl [.ref (ad 0), .int c0]).length) Slot.unset).toArray = ls at hl ⊢
  have hl : lv_has ls 4 [(0, .ref (ad 0)), (1, .int c0)] := hl
  generalize hQ : MQ _ _ _ _ _ _ _ = Q
  refine lv_iconst (v := nI 0) hx hb dX0_trankPairs_0 (by decide) ?_
  refine lv_istore_n (lv' := [(2, .int (nI 0)), (0, .ref (ad 0)), (1, .int c0)]) hx hb dX0_trankPairs_1 rfl hl (by decide) rfl (fun ls hl => ?_)
  refine lv_iconst (v := nI 0) hx hb dX0_trankPairs_2 (by decide) ?_
  refine lv_istore_n (lv' := [(3, .int (nI 0)), (2, .int (nI 0)), (0, .ref (ad 0)), (1, .int c0)]) hx hb dX0_trankPairs_3 rfl hl (by decide) rfl (fun ls hl => ?_)
  have L4 : ∀ (fu : Nat) (k : Nat) (i : Nat) (H : Heap) (locs : List Loc) (ls : Array Slot), n - i < fu → (i ≤ n) → (k = tP F np c0 i) → va_P D vwCl (wG cI cZ cO ad n np nq F) H → va_S (fun _ => False) s.heap H locs → lv_has ls 4 [(0, .ref (ad 0)), (1, .int c0), (2, .int (nI k)), (3, .int (nI i))] → W p l e R s m args below meth c H locs 0 0 Q (F0 m 4 ls []) := by
    intro fu
    induction fu with
    | zero => intro _ _ _ _ _ h; exact absurd h (Nat.not_lt_zero _)
    | succ fu ih4 =>
      intro k i H locs ls hm4 h1 h2 hP  hS hl
      refine lv_iload_n hx hb dX0_trankPairs_4 rfl (lv_at hl 3 rfl) ?_
      refine lv_aload_n hx hb dX0_trankPairs_5 rfl (lv_at hl 0 rfl) ?_
      refine va_get (D := D) (ci := 0) (v := .int (nI n)) (C := RX0) (T := TX0) (N := 16) hx hb hts hiw hown hK hP 0 g_at0 rfl 0 (by decide) (hts (.fieldLink RX0 56 "GloveCutters" "skins" "I") (by decide +kernel)) (fun _ h9 => h9) rfl dX0_trankPairs_6 ?_
      refine nv_icmp_ge (tgt := 40) hx hb (by omega) (by omega) dX0_trankPairs_9 (by decide) (fun c_1 => ?_) (fun c_1 => ?_)
      · refine lv_iload_n hx hb dX0_trankPairs_40 rfl (lv_at hl 2 rfl) ?_
        rw [← hQ]
        exact W.iret (v := nI k) hx hb hr (fun t ht hW => ⟨⟨nI k, (), rfl, (by rw [h2, show i = n by omega]), trivial⟩, hS.F ht⟩) hS.2.2 dX0_trankPairs_41
      · refine lv_aload_n hx hb dX0_trankPairs_12 rfl (lv_at hl 0 rfl) ?_
        refine va_get (D := D) (ci := 0) (v := .ref (ad 1)) (C := RX0) (T := TX0) (N := 16) hx hb hts hiw hown hK hP 0 g_at0 rfl 1 (by decide) (hts (.fieldLink RX0 9 "GloveCutters" "skinColour" "[I") (by decide +kernel)) (fun _ h9 => h9) rfl dX0_trankPairs_13 ?_
        refine lv_iload_n hx hb dX0_trankPairs_16 rfl (lv_at hl 3 rfl) ?_
        refine nv_iald hx hb hK hP 1 0 g_at1 rfl (by omega) (by omega) dX0_trankPairs_17 ?_
        refine lv_iload_n hx hb dX0_trankPairs_18 rfl (lv_at hl 1 rfl) ?_
        refine lv_icmp_ne (tgt := 34) hx hb dX0_trankPairs_19 (by decide) (fun c_2 => ?_) (fun c_2 => ?_)
        · refine lv_iinc (k := 3) (v := nI (i + 1)) (lv' := [(3, .int (nI (i + 1))), (0, .ref (ad 0)), (1, .int c0), (2, .int (nI k))]) hx hb dX0_trankPairs_34 hl rfl (nI_add i 1) (by decide) rfl (fun ls hl => ?_)
          refine lv_goto (tgt := 4) hx hb dX0_trankPairs_37 (by decide) ?_
          exact ih4 k (i + 1) _ _ _ (by omega) (by omega) (by rw [tP_f c_2]; exact h2) hP hS (lv_sub hl [1, 2, 3, 0] rfl)
        · refine lv_iload_n hx hb dX0_trankPairs_22 rfl (lv_at hl 2 rfl) ?_
          refine lv_aload_n hx hb dX0_trankPairs_23 rfl (lv_at hl 0 rfl) ?_
          refine lv_iload_n hx hb dX0_trankPairs_24 rfl (lv_at hl 3 rfl) ?_
          refine va_calli (va_runV (As := [.int (nI i)]) (rest := [.int (nI k)]) ⟨hx, hb, hml, hown, hts⟩ (c_X0_freeTranks l D cI cZ cO ad n np nq F i hnp) (cwV 1 hts gX0_trankPairs_X0_freeTranks rfl rfl rfl (by decide +kernel) ⟨Nat.le_trans (Nat.le_of_ble_eq_true rfl) hRf, Nat.le_trans (Nat.le_of_ble_eq_true rfl) hRl⟩) (pr_V hP (ci := 0) (q0 := 0) rfl g_at0 rfl hP hK [0, 1, 2] rfl V0_at V0_c) rfl rfl hl.1 rfl (lv_room (Nat.le_of_ble_eq_true rfl)) dX0_trankPairs_25 ⟨Nat.le_trans (Nat.zero_le _) hRc, Nat.le_trans (Nat.zero_le _) hRs⟩) hS (fun _ _ h => h.elim) (fun _ h => h.elim) (fun r_3 _ t H1 locs ht hvm hw_3 hB hz hk hS => ?_)
          have hP := P_kept hP hk
          obtain rfl := hw_3
          have hb9 := fT_le F np i
          refine lv_iconst (v := nI 0) hx hb dX0_trankPairs_28 (by decide) ?_
          refine va_calli (va_runS (As := [.int (nI (fT F np i)), .int (nI 0)]) (rest := [.int (nI k)]) ⟨hx, hb, hml, hown, hts⟩ (c_X0_pairsFrom l D (fT F np i) 0 (by omega) (by omega)) (va_cwS 2 hts gX0_trankPairs_X0_pairsFrom rfl rfl rfl (by decide +kernel) ⟨Nat.le_trans (Nat.le_of_ble_eq_true rfl) hRf, Nat.le_trans (Nat.le_of_ble_eq_true rfl) hRl⟩) (pr_S (P_nil) hK [] rfl (hV0.at hS sub_id sub_id) EnvG_c) rfl rfl hl.1 rfl (lv_room (Nat.le_of_ble_eq_true rfl)) dX0_trankPairs_29 ⟨Nat.le_trans (Nat.zero_le _) hRc, Nat.le_trans (Nat.zero_le _) hRs⟩) hS (fun _ _ h => h.elim) (fun _ h => h.elim) (fun r_4 _ t H1 locs ht hvm hw_4 hB hz hk hS => ?_)
          have hP := P_kept hP hk
          obtain rfl := hw_4
          refine nv_iadd hx hb dX0_trankPairs_32 ?_
          refine lv_istore_n (lv' := [(2, .int (nI (k + ((fT F np i) / kP 0)))), (0, .ref (ad 0)), (1, .int c0), (3, .int (nI i))]) hx hb dX0_trankPairs_33 rfl hl (by decide) rfl (fun ls hl => ?_)
          refine lv_iinc (k := 3) (v := nI (i + 1)) (lv' := [(3, .int (nI (i + 1))), (2, .int (nI (k + ((fT F np i) / kP 0)))), (0, .ref (ad 0)), (1, .int c0)]) hx hb dX0_trankPairs_34 hl rfl (nI_add i 1) (by decide) rfl (fun ls hl => ?_)
          refine lv_goto (tgt := 4) hx hb dX0_trankPairs_37 (by decide) ?_
          exact ih4 (k + ((fT F np i) / kP 0)) (i + 1) _ _ _ (by omega) (by omega) (by rw [tP_t c_2, ← h2]; rfl) hP hS (lv_sub hl [2, 3, 1, 0] rfl)
  exact L4 _ 0 0 _ _ _ (Nat.lt_succ_self _) (by omega) rfl hP hS (lv_sub hl [2, 3, 1, 0] rfl)
set_option maxHeartbeats 4000000 in
set_option maxRecDepth 100000 in
/-- lacking -/
theorem c_X0_lacking (l : Launch) (D : va_G) (cI cZ cO : ClassId) (ad : Nat → Nat) (n np nq : Nat) (F : Nat → Nat → Int32) (c0 : Int32) (kd : Nat) (hn : n ≤ 10) (hnp : np ≤ 150) (hsk : ∀ p, p < np → ∃ k, k < n ∧ F 4 p = nI k) (hkd : kd < 4) : Met l yX0_lacking wsX0_lacking ({ frames := 2, cells := 0, slots := 0, locals := 47 } : Room) (va_Pc [.ref (ad 0), .int c0, .int (nI kd)] (Pr D (gT cI cZ cO) (wG cI cZ cO ad n np nq F) (EnvG (fun _ => False)))) (va_Qi (S := Unit) (fun (r : Int32) (_ : Unit) => r = nI (lkN F n np c0 kd)) (fun _ _ => True) (fun _ => False)) 0 0 (fun _ => False) := by
  refine Met.ofW (cc := cX0_lacking) (maxL := 4) (ret := (some .int)) (by decide) rfl ?_
  intro p e s m args below meth c s₁ B hml hv
  obtain ⟨hargs, hP, hK, hV⟩ := hv
  have hx := B.exec
  have hb := B.bytes
  have hr := B.returns
  have hts := atoms_spec (ws := wsX0_lacking) B.pre
  have hown : s.vm.findClass RX0 = some m.cls := findClass_of_methodNamed B.named
  have hlocks := B.notSynchronized
  have hS : va_S (fun _ => False) s.heap s.heap [] := va_S.rf
  have hV0 : EnvG (fun _ => False) s := EnvG.nar hV sub_no
  have hiw : ∀ w ∈ wsX00, w ∈ wsX0_lacking := (fun _ h => List.mem_cons_of_mem _ (List.mem_append_right _ h))
  have hRf : 2 ≤ (headSpec wsX0_lacking ({ frames := 2, cells := 0, slots := 0, locals := 47 } : Room)).room.frames := Nat.le_refl _
  have hRl : 47 ≤ (headSpec wsX0_lacking ({ frames := 2, cells := 0, slots := 0, locals := 47 } : Room)).room.locals := Nat.le_refl _
  have hRc : 0 ≤ (headSpec wsX0_lacking ({ frames := 2, cells := 0, slots := 0, locals := 47 } : Room)).room.cells := Nat.le_refl _
  have hRs : 0 ≤ (headSpec wsX0_lacking ({ frames := 2, cells := 0, slots := 0, locals := 47 } : Room)).room.slots := Nat.le_refl _
  generalize (headSpec wsX0_lacking ({ frames := 2, cells := 0, slots := 0, locals := 47 } : Room)).room = R at hRf hRl hRc hRs ⊢
  have hl := lv_entry [.ref (ad 0), .int c0, .int (nI kd)] (n := 4) (Nat.le_of_ble_eq_true rfl)
  refine W.eq (show entryFrame m args 4 = _ from by rw [hargs, lg_entry_eq]) ?_
  generalize (lg_sl [.ref (ad 0), .int c0, .int (nI kd)] ++ List.replicate (4 - (lg_sl [.ref (ad 0), .int c0, .int (nI kd)]).length) Slot.unset).toArray = ls at hl ⊢
  have hl : lv_has ls 4 [(0, .ref (ad 0)), (1, .int c0), (2, .int (nI kd))] := hl
  generalize hQ : MQ _ _ _ _ _ _ _ = Q
  have hp9 := kP_le kd
  have hm9 := mxT_le F np c0 n
  have hf9 := fC_le F np c0 (nI kd)
  refine lv_iload_n hx hb dX0_lacking_0 rfl (lv_at hl 2 rfl) ?_
  refine nv_if_ne (tgt := 12) hx hb (by omega) dX0_lacking_1 (by decide) (fun c_1 => ?_) (fun c_1 => ?_)
  · refine lv_aload_n hx hb dX0_lacking_12 rfl (lv_at hl 0 rfl) ?_
    refine lv_iload_n hx hb dX0_lacking_13 rfl (lv_at hl 1 rfl) ?_
    refine lv_iload_n hx hb dX0_lacking_14 rfl (lv_at hl 2 rfl) ?_
    refine va_calli (va_runV (As := [.int c0, .int (nI kd)]) (rest := []) ⟨hx, hb, hml, hown, hts⟩ (c_X0_freeOfColour l D cI cZ cO ad n np nq F c0 (nI kd) hn hnp hsk) (cwV 2 hts gX0_lacking_X0_freeOfColour rfl rfl rfl (by decide +kernel) ⟨Nat.le_trans (Nat.le_of_ble_eq_true rfl) hRf, Nat.le_trans (Nat.le_of_ble_eq_true rfl) hRl⟩) (pr_V hP (ci := 0) (q0 := 0) rfl g_at0 rfl hP hK [0, 1, 2] rfl V0_at V0_c) rfl rfl hl.1 rfl (lv_room (Nat.le_of_ble_eq_true rfl)) dX0_lacking_15 ⟨Nat.le_trans (Nat.zero_le _) hRc, Nat.le_trans (Nat.zero_le _) hRs⟩) hS (fun _ _ h => h.elim) (fun _ h => h.elim) (fun r_2 _ t H1 locs ht hvm hw_2 hB hz hk hS => ?_)
    have hP := P_kept hP hk
    obtain rfl := hw_2
    refine lv_istore_n (lv' := [(3, .int (nI (fC F np c0 (nI kd)))), (0, .ref (ad 0)), (1, .int c0), (2, .int (nI kd))]) hx hb dX0_lacking_18 rfl hl (by decide) rfl (fun ls hl => ?_)
    refine lv_iconst (v := nI 0) hx hb dX0_lacking_19 (by decide) ?_
    obtain ⟨tb_KIND_IN_PAIR, hKIND_IN_PAIRZ, hKIND_IN_PAIRT⟩ := hV0.2.2.2.1
    refine va_gets hx hb hKIND_IN_PAIRZ hS hown (hts (.fieldLink RX0 229 "GloveCutters" "KIND_IN_PAIR" "[I") (by decide +kernel)) (fun _ h9 => h9) dX0_lacking_20 ?_
    refine lv_iload_n hx hb dX0_lacking_23 rfl (lv_at hl 3 rfl) ?_
    refine nv_tab hx hb hKIND_IN_PAIRT hS (by omega) dX0_lacking_24 ?_
    refine lv_iload_n hx hb dX0_lacking_25 rfl (lv_at hl 0 rfl) ?_
    refine lv_isub hx hb dX0_lacking_26 ?_
    refine va_mmax hx hb (hml.trans hl.1.symm) hown (hts (.methodLink RX0 226 Lib.Math.max.name) (by decide +kernel)) (hts (.static Lib.Math.max.name) (by decide +kernel)) (hts (.initialized "java/lang/Math") (by decide +kernel)) (hts (.code Lib.Math.max.name Lib.Math.max.code 2 (some .int)) (by decide +kernel)) (Nat.le_trans (Nat.le_of_ble_eq_true rfl) hRf) (Nat.le_trans (Nat.le_of_ble_eq_true rfl) hRl) (Nat.zero_le _) (Nat.zero_le _) dX0_lacking_27 ?_
    rw [max0_sub (by omega) (by omega)]
    rw [← hQ]
    exact W.iret (v := nI ((kP kd) - (fC F np c0 (nI kd)))) hx hb hr (fun t ht hW => ⟨⟨nI ((kP kd) - (fC F np c0 (nI kd))), (), rfl, (by unfold lkN; rw [if_neg (by omega)]), trivial⟩, hS.F ht⟩) hS.2.2 dX0_lacking_30
  · refine lv_aload_n hx hb dX0_lacking_4 rfl (lv_at hl 0 rfl) ?_
    refine lv_iload_n hx hb dX0_lacking_5 rfl (lv_at hl 1 rfl) ?_
    refine va_calli (va_runV (As := [.int c0]) (rest := []) ⟨hx, hb, hml, hown, hts⟩ (c_X0_mostTranksOfOneSkin l D cI cZ cO ad n np nq F c0 hn hnp) (cwV 1 hts gX0_lacking_X0_mostTranksOfOneSkin rfl rfl rfl (by decide +kernel) ⟨Nat.le_trans (Nat.le_of_ble_eq_true rfl) hRf, Nat.le_trans (Nat.le_of_ble_eq_true rfl) hRl⟩) (pr_V hP (ci := 0) (q0 := 0) rfl g_at0 rfl hP hK [0, 1, 2] rfl V0_at V0_c) rfl rfl hl.1 rfl (lv_room (Nat.le_of_ble_eq_true rfl)) dX0_lacking_6 ⟨Nat.le_trans (Nat.zero_le _) hRc, Nat.le_trans (Nat.zero_le _) hRs⟩) hS (fun _ _ h => h.elim) (fun _ h => h.elim) (fun r_3 _ t H1 locs ht hvm hw_3 hB hz hk hS => ?_)
    have hP := P_kept hP hk
    obtain rfl := hw_3
    refine lv_goto (tgt := 18) hx hb dX0_lacking_9 (by decide) ?_
    refine lv_istore_n (lv' := [(3, .int (nI (mxT F np c0 n))), (0, .ref (ad 0)), (1, .int c0), (2, .int (nI kd))]) hx hb dX0_lacking_18 rfl hl (by decide) rfl (fun ls hl => ?_)
    refine lv_iconst (v := nI 0) hx hb dX0_lacking_19 (by decide) ?_
    obtain ⟨tb_KIND_IN_PAIR, hKIND_IN_PAIRZ, hKIND_IN_PAIRT⟩ := hV0.2.2.2.1
    refine va_gets hx hb hKIND_IN_PAIRZ hS hown (hts (.fieldLink RX0 229 "GloveCutters" "KIND_IN_PAIR" "[I") (by decide +kernel)) (fun _ h9 => h9) dX0_lacking_20 ?_
    refine lv_iload_n hx hb dX0_lacking_23 rfl (lv_at hl 3 rfl) ?_
    refine nv_tab hx hb hKIND_IN_PAIRT hS (by omega) dX0_lacking_24 ?_
    refine lv_iload_n hx hb dX0_lacking_25 rfl (lv_at hl 0 rfl) ?_
    refine lv_isub hx hb dX0_lacking_26 ?_
    refine va_mmax hx hb (hml.trans hl.1.symm) hown (hts (.methodLink RX0 226 Lib.Math.max.name) (by decide +kernel)) (hts (.static Lib.Math.max.name) (by decide +kernel)) (hts (.initialized "java/lang/Math") (by decide +kernel)) (hts (.code Lib.Math.max.name Lib.Math.max.code 2 (some .int)) (by decide +kernel)) (Nat.le_trans (Nat.le_of_ble_eq_true rfl) hRf) (Nat.le_trans (Nat.le_of_ble_eq_true rfl) hRl) (Nat.zero_le _) (Nat.zero_le _) dX0_lacking_27 ?_
    rw [max0_sub (by omega) (by omega)]
    rw [← hQ]
    exact W.iret (v := nI ((kP kd) - (mxT F np c0 n))) hx hb hr (fun t ht hW => ⟨⟨nI ((kP kd) - (mxT F np c0 n)), (), rfl, (by unfold lkN; rw [if_pos c_1]), trivial⟩, hS.F ht⟩) hS.2.2 dX0_lacking_30
set_option maxHeartbeats 4000000 in
set_option maxRecDepth 100000 in
/-- firstSkinWithTranks -/
theorem c_X0_firstSkinWithTranks (l : Launch) (D : va_G) (cI cZ cO : ClassId) (ad : Nat → Nat) (n np nq : Nat) (F : Nat → Nat → Int32) (c0 : Int32) (hn : n ≤ 10) (hnp : np ≤ 150) : Met l yX0_firstSkinWithTranks wsX0_firstSkinWithTranks ({ frames := 1, cells := 0, slots := 0, locals := 23 } : Room) (va_Pc [.ref (ad 0), .int c0] (Pr D (gT cI cZ cO) (wG cI cZ cO ad n np nq F) (EnvG (fun _ => False)))) (va_Qi (S := Unit) (fun (r : Int32) (_ : Unit) => r = fI (tsB F np c0) 0 (n - 0)) (fun _ _ => True) (fun _ => False)) 0 0 (fun _ => False) := by
  refine Met.ofW (cc := cX0_firstSkinWithTranks) (maxL := 3) (ret := (some .int)) (by decide) rfl ?_
  intro p e s m args below meth c s₁ B hml hv
  obtain ⟨hargs, hP, hK, hV⟩ := hv
  have hx := B.exec
  have hb := B.bytes
  have hr := B.returns
  have hts := atoms_spec (ws := wsX0_firstSkinWithTranks) B.pre
  have hown : s.vm.findClass RX0 = some m.cls := findClass_of_methodNamed B.named
  have hlocks := B.notSynchronized
  have hS : va_S (fun _ => False) s.heap s.heap [] := va_S.rf
  have hV0 : EnvG (fun _ => False) s := EnvG.nar hV sub_no
  have hiw : ∀ w ∈ wsX00, w ∈ wsX0_firstSkinWithTranks := (fun _ h => List.mem_cons_of_mem _ (List.mem_append_right _ h))
  have hRf : 1 ≤ (headSpec wsX0_firstSkinWithTranks ({ frames := 1, cells := 0, slots := 0, locals := 23 } : Room)).room.frames := Nat.le_refl _
  have hRl : 23 ≤ (headSpec wsX0_firstSkinWithTranks ({ frames := 1, cells := 0, slots := 0, locals := 23 } : Room)).room.locals := Nat.le_refl _
  have hRc : 0 ≤ (headSpec wsX0_firstSkinWithTranks ({ frames := 1, cells := 0, slots := 0, locals := 23 } : Room)).room.cells := Nat.le_refl _
  have hRs : 0 ≤ (headSpec wsX0_firstSkinWithTranks ({ frames := 1, cells := 0, slots := 0, locals := 23 } : Room)).room.slots := Nat.le_refl _
  generalize (headSpec wsX0_firstSkinWithTranks ({ frames := 1, cells := 0, slots := 0, locals := 23 } : Room)).room = R at hRf hRl hRc hRs ⊢
  have hl := lv_entry [.ref (ad 0), .int c0] (n := 3) (Nat.le_of_ble_eq_true rfl)
  refine W.eq (show entryFrame m args 3 = _ from by rw [hargs, lg_entry_eq]) ?_
  generalize (lg_sl [.ref (ad 0), .int c0] ++ List.replicate (3 - (lg_sl [.ref (ad 0), .int c0]).length) Slot.unset).toArray = ls at hl ⊢
  have hl : lv_has ls 3 [(0, .ref (ad 0)), (1, .int c0)] := hl
  generalize hQ : MQ _ _ _ _ _ _ _ = Q
  have hp9 := kP_le 0
  refine lv_iconst (v := nI 0) hx hb dX0_firstSkinWithTranks_0 (by decide) ?_
  refine lv_istore_n (lv' := [(2, .int (nI 0)), (0, .ref (ad 0)), (1, .int c0)]) hx hb dX0_firstSkinWithTranks_1 rfl hl (by decide) rfl (fun ls hl => ?_)
  have L2 : ∀ (fu : Nat) (i : Nat) (H : Heap) (locs : List Loc) (ls : Array Slot), n - i < fu → (i ≤ n) → (fI (tsB F np c0) 0 (n - 0) = fI (tsB F np c0) i (n - i)) → va_P D vwCl (wG cI cZ cO ad n np nq F) H → va_S (fun _ => False) s.heap H locs → lv_has ls 3 [(0, .ref (ad 0)), (1, .int c0), (2, .int (nI i))] → W p l e R s m args below meth c H locs 0 0 Q (F0 m 2 ls []) := by
    intro fu
    induction fu with
    | zero => intro _ _ _ _ h; exact absurd h (Nat.not_lt_zero _)
    | succ fu ih2 =>
      intro i H locs ls hm2 h1 h2 hP  hS hl
      refine lv_iload_n hx hb dX0_firstSkinWithTranks_2 rfl (lv_at hl 2 rfl) ?_
      refine lv_aload_n hx hb dX0_firstSkinWithTranks_3 rfl (lv_at hl 0 rfl) ?_
      refine va_get (D := D) (ci := 0) (v := .int (nI n)) (C := RX0) (T := TX0) (N := 16) hx hb hts hiw hown hK hP 0 g_at0 rfl 0 (by decide) (hts (.fieldLink RX0 56 "GloveCutters" "skins" "I") (by decide +kernel)) (fun _ h9 => h9) rfl dX0_firstSkinWithTranks_4 ?_
      refine nv_icmp_ge (tgt := 41) hx hb (by omega) (by omega) dX0_firstSkinWithTranks_7 (by decide) (fun c_1 => ?_) (fun c_1 => ?_)
      · refine lv_iconst (v := -1) hx hb dX0_firstSkinWithTranks_41 (by decide) ?_
        rw [← hQ]
        exact W.iret (v := (-1)) hx hb hr (fun t ht hW => ⟨⟨(-1), (), rfl, (h2.trans (fI_e (by omega))).symm, trivial⟩, hS.F ht⟩) hS.2.2 dX0_firstSkinWithTranks_42
      · refine lv_aload_n hx hb dX0_firstSkinWithTranks_10 rfl (lv_at hl 0 rfl) ?_
        refine va_get (D := D) (ci := 0) (v := .ref (ad 1)) (C := RX0) (T := TX0) (N := 16) hx hb hts hiw hown hK hP 0 g_at0 rfl 1 (by decide) (hts (.fieldLink RX0 9 "GloveCutters" "skinColour" "[I") (by decide +kernel)) (fun _ h9 => h9) rfl dX0_firstSkinWithTranks_11 ?_
        refine lv_iload_n hx hb dX0_firstSkinWithTranks_14 rfl (lv_at hl 2 rfl) ?_
        refine nv_iald hx hb hK hP 1 0 g_at1 rfl (by omega) (by omega) dX0_firstSkinWithTranks_15 ?_
        refine lv_iload_n hx hb dX0_firstSkinWithTranks_16 rfl (lv_at hl 1 rfl) ?_
        refine lv_icmp_ne (tgt := 35) hx hb dX0_firstSkinWithTranks_17 (by decide) (fun c_2 => ?_) (fun c_2 => ?_)
        · refine lv_iinc (k := 2) (v := nI (i + 1)) (lv' := [(2, .int (nI (i + 1))), (0, .ref (ad 0)), (1, .int c0)]) hx hb dX0_firstSkinWithTranks_35 hl rfl (nI_add i 1) (by decide) rfl (fun ls hl => ?_)
          refine lv_goto (tgt := 2) hx hb dX0_firstSkinWithTranks_38 (by decide) ?_
          exact ih2 (i + 1) _ _ _ (by omega) (by omega) (h2.trans (fI_n (by omega) (tsB_1 c_2))) hP hS (lv_sub hl [1, 2, 0] rfl)
        · refine lv_aload_n hx hb dX0_firstSkinWithTranks_20 rfl (lv_at hl 0 rfl) ?_
          refine lv_iload_n hx hb dX0_firstSkinWithTranks_21 rfl (lv_at hl 2 rfl) ?_
          refine va_calli (va_runV (As := [.int (nI i)]) (rest := []) ⟨hx, hb, hml, hown, hts⟩ (c_X0_freeTranks l D cI cZ cO ad n np nq F i hnp) (cwV 1 hts gX0_firstSkinWithTranks_X0_freeTranks rfl rfl rfl (by decide +kernel) ⟨Nat.le_trans (Nat.le_of_ble_eq_true rfl) hRf, Nat.le_trans (Nat.le_of_ble_eq_true rfl) hRl⟩) (pr_V hP (ci := 0) (q0 := 0) rfl g_at0 rfl hP hK [0, 1, 2] rfl V0_at V0_c) rfl rfl hl.1 rfl (lv_room (Nat.le_of_ble_eq_true rfl)) dX0_firstSkinWithTranks_22 ⟨Nat.le_trans (Nat.zero_le _) hRc, Nat.le_trans (Nat.zero_le _) hRs⟩) hS (fun _ _ h => h.elim) (fun _ h => h.elim) (fun r_3 _ t H1 locs ht hvm hw_3 hB hz hk hS => ?_)
          have hP := P_kept hP hk
          obtain rfl := hw_3
          have hb9 := fT_le F np i
          obtain ⟨tb_KIND_IN_PAIR, hKIND_IN_PAIRZ, hKIND_IN_PAIRT⟩ := hV0.2.2.2.1
          refine va_gets hx hb hKIND_IN_PAIRZ hS hown (hts (.fieldLink RX0 229 "GloveCutters" "KIND_IN_PAIR" "[I") (by decide +kernel)) (fun _ h9 => h9) dX0_firstSkinWithTranks_25 ?_
          refine lv_iconst (v := nI 0) hx hb dX0_firstSkinWithTranks_28 (by decide) ?_
          refine nv_tab hx hb hKIND_IN_PAIRT hS (by omega) dX0_firstSkinWithTranks_29 ?_
          refine nv_icmp_lt (tgt := 35) hx hb (by omega) (by omega) dX0_firstSkinWithTranks_30 (by decide) (fun c_4 => ?_) (fun c_4 => ?_)
          · refine lv_iinc (k := 2) (v := nI (i + 1)) (lv' := [(2, .int (nI (i + 1))), (0, .ref (ad 0)), (1, .int c0)]) hx hb dX0_firstSkinWithTranks_35 hl rfl (nI_add i 1) (by decide) rfl (fun ls hl => ?_)
            refine lv_goto (tgt := 2) hx hb dX0_firstSkinWithTranks_38 (by decide) ?_
            exact ih2 (i + 1) _ _ _ (by omega) (by omega) (h2.trans (fI_n (by omega) (tsB_2 (by show ¬ kP 0 ≤ _; omega)))) hP hS (lv_sub hl [1, 2, 0] rfl)
          · refine lv_iload_n hx hb dX0_firstSkinWithTranks_33 rfl (lv_at hl 2 rfl) ?_
            rw [← hQ]
            exact W.iret (v := nI i) hx hb hr (fun t ht hW => ⟨⟨nI i, (), rfl, (h2.trans (fI_y (by omega) (tsB_t c_2 (by show kP 0 ≤ _; omega)))).symm, trivial⟩, hS.F ht⟩) hS.2.2 dX0_firstSkinWithTranks_34
  exact L2 _ 0 _ _ _ (Nat.lt_succ_self _) (by omega) rfl hP hS (lv_sub hl [1, 2, 0] rfl)
