set_option maxHeartbeats 4000000 in
set_option maxRecDepth 100000 in
/-- isIn -/
theorem c_X1_isIn (l : Launch) (D : va_G) (v0 lo hi : Int32)  : Met l yX1_isIn wsX1_isIn ({ frames := 0, cells := 0, slots := 0, locals := 0 } : Room) (va_Pc [.int v0, .int lo, .int hi] (Pr D [] [] V0)) (va_Qi (S := Unit) (fun (r : Int32) (_ : Unit) => r = bI (isI v0 lo hi)) (fun _ _ => True) (fun _ => False)) 0 0 (fun _ => False) := by
  refine Met.ofW (cc := cX1_isIn) (maxL := 3) (ret := (some .boolean)) (by decide) rfl ?_
  intro p e s m args below meth c s₁ B hml hv
  obtain ⟨hargs, hP, hK, hV⟩ := hv
  have hx := B.exec
  have hb := B.bytes
  have hr := B.returns
  have hts := atoms_spec (ws := wsX1_isIn) B.pre
  have hown : s.vm.findClass RX1 = some m.cls := findClass_of_methodNamed B.named
  have hlocks := B.notSynchronized
  have hS : va_S (fun _ => False) s.heap s.heap [] := va_S.rf
  have hRf : 0 ≤ (headSpec wsX1_isIn ({ frames := 0, cells := 0, slots := 0, locals := 0 } : Room)).room.frames := Nat.le_refl _
  have hRl : 0 ≤ (headSpec wsX1_isIn ({ frames := 0, cells := 0, slots := 0, locals := 0 } : Room)).room.locals := Nat.le_refl _
  have hRc : 0 ≤ (headSpec wsX1_isIn ({ frames := 0, cells := 0, slots := 0, locals := 0 } : Room)).room.cells := Nat.le_refl _
  have hRs : 0 ≤ (headSpec wsX1_isIn ({ frames := 0, cells := 0, slots := 0, locals := 0 } : Room)).room.slots := Nat.le_refl _
  generalize (headSpec wsX1_isIn ({ frames := 0, cells := 0, slots := 0, locals := 0 } : Room)).room = R at hRf hRl hRc hRs ⊢
  have hl := lv_entry [.int v0, .int lo, .int hi] (n := 3) (Nat.le_of_ble_eq_true rfl)
  refine W.eq (show entryFrame m args 3 = _ from by rw [hargs, lg_entry_eq]) ?_
  generalize (lg_sl [.int v0, .int lo, .int hi] ++ List.replicate (3 - (lg_sl [.int v0, .int lo, .int hi]).length) Slot.unset).toArray = ls at hl ⊢
  have hl : lv_has ls 3 [(0, .int v0), (1, .int lo), (2, .int hi)] := hl
  generalize hQ : MQ _ _ _ _ _ _ _ = Q
  refine lv_iload_n hx hb dX1_isIn_0 rfl (lv_at hl 0 rfl) ?_
  refine lv_iload_n hx hb dX1_isIn_1 rfl (lv_at hl 1 rfl) ?_
  refine lv_icmp_lt (tgt := 14) hx hb dX1_isIn_2 (by decide) (fun c_1 => ?_) (fun c_1 => ?_)
  · refine lv_iconst (v := nI 0) hx hb dX1_isIn_14 (by decide) ?_
    rw [← hQ]
    exact W.zret (v := nI 0) hx hb hr rfl (fun t ht hW => ⟨⟨nI 0, (), rfl, (by rw [isI_1 c_1]; rfl), trivial⟩, hS.F ht⟩) hS.2.2 dX1_isIn_15
  · refine lv_iload_n hx hb dX1_isIn_5 rfl (lv_at hl 0 rfl) ?_
    refine lv_iload_n hx hb dX1_isIn_6 rfl (lv_at hl 2 rfl) ?_
    refine lv_icmp_gt (tgt := 14) hx hb dX1_isIn_7 (by decide) (fun c_2 => ?_) (fun c_2 => ?_)
    · refine lv_iconst (v := nI 0) hx hb dX1_isIn_14 (by decide) ?_
      rw [← hQ]
      exact W.zret (v := nI 0) hx hb hr rfl (fun t ht hW => ⟨⟨nI 0, (), rfl, (by rw [isI_2 c_2]; rfl), trivial⟩, hS.F ht⟩) hS.2.2 dX1_isIn_15
    · refine lv_iconst (v := nI 1) hx hb dX1_isIn_10 (by decide) ?_
      refine lv_goto (tgt := 15) hx hb dX1_isIn_11 (by decide) ?_
      rw [← hQ]
      exact W.zret (v := nI 1) hx hb hr rfl (fun t ht hW => ⟨⟨nI 1, (), rfl, (by rw [isI_3 c_1 c_2]; rfl), trivial⟩, hS.F ht⟩) hS.2.2 dX1_isIn_15
set_option maxHeartbeats 4000000 in
set_option maxRecDepth 100000 in
/-- isSkin -/
theorem c_X1_isSkin (l : Launch) (D : va_G) (cI : ClassId) (ad : Nat → Nat) (th : Int32) (n np nq : Nat) (F : Nat → Nat → Int32) (T : Nat → Int32) (s0 : Int32) (hn : n ≤ 10) : Met l yX1_isSkin wsX1_isSkin ({ frames := 1, cells := 0, slots := 0, locals := 22 } : Room) (va_Pc [.ref (ad 0), .int s0] (Pr D [(cI, .int)] (wM cI ad th n np nq F T) V0)) (va_Qi (S := Unit) (fun (r : Int32) (_ : Unit) => r = bI (inR s0 n)) (fun _ _ => True) (fun _ => False)) 0 0 (fun _ => False) := by
  refine Met.ofW (cc := cX1_isSkin) (maxL := 2) (ret := (some .boolean)) (by decide) rfl ?_
  intro p e s m args below meth c s₁ B hml hv
  obtain ⟨hargs, hP, hK, hV⟩ := hv
  have hx := B.exec
  have hb := B.bytes
  have hr := B.returns
  have hts := atoms_spec (ws := wsX1_isSkin) B.pre
  have hown : s.vm.findClass RX1 = some m.cls := findClass_of_methodNamed B.named
  have hlocks := B.notSynchronized
  have hS : va_S (fun _ => False) s.heap s.heap [] := va_S.rf
  have hiw : ∀ w ∈ wsX10, w ∈ wsX1_isSkin := (fun _ h => List.mem_cons_of_mem _ (List.mem_append_right _ h))
  have hRf : 1 ≤ (headSpec wsX1_isSkin ({ frames := 1, cells := 0, slots := 0, locals := 22 } : Room)).room.frames := Nat.le_refl _
  have hRl : 22 ≤ (headSpec wsX1_isSkin ({ frames := 1, cells := 0, slots := 0, locals := 22 } : Room)).room.locals := Nat.le_refl _
  have hRc : 0 ≤ (headSpec wsX1_isSkin ({ frames := 1, cells := 0, slots := 0, locals := 22 } : Room)).room.cells := Nat.le_refl _
  have hRs : 0 ≤ (headSpec wsX1_isSkin ({ frames := 1, cells := 0, slots := 0, locals := 22 } : Room)).room.slots := Nat.le_refl _
  generalize (headSpec wsX1_isSkin ({ frames := 1, cells := 0, slots := 0, locals := 22 } : Room)).room = R at hRf hRl hRc hRs ⊢
  have hl := lv_entry [.ref (ad 0), .int s0] (n := 2) (Nat.le_of_ble_eq_true rfl)
  refine W.eq (show entryFrame m args 2 = _ from by rw [hargs, lg_entry_eq]) ?_
  generalize (lg_sl [.ref (ad 0), .int s0] ++ List.replicate (2 - (lg_sl [.ref (ad 0), .int s0]).length) Slot.unset).toArray = ls at hl ⊢
  have hl : lv_has ls 2 [(0, .ref (ad 0)), (1, .int s0)] := hl
  generalize hQ : MQ _ _ _ _ _ _ _ = Q
  refine lv_iload_n hx hb dX1_isSkin_0 rfl (lv_at hl 1 rfl) ?_
  refine lv_iconst (v := nI 0) hx hb dX1_isSkin_1 (by decide) ?_
  refine lv_aload_n hx hb dX1_isSkin_2 rfl (lv_at hl 0 rfl) ?_
  refine va_get (D := D) (ci := 1) (v := .int (nI n)) (C := RX1) (T := TX1) (N := 12) hx hb hts hiw hown hK hP 0 m_at0 rfl 1 (by decide) (hts (.fieldLink RX1 38 "GloveCuttersModel" "skins" "I") (by decide +kernel)) (fun _ h9 => h9) rfl dX1_isSkin_3 ?_
  refine lv_iconst (v := nI 1) hx hb dX1_isSkin_6 (by decide) ?_
  refine lv_isub hx hb dX1_isSkin_7 ?_
  refine va_calli (va_runS (As := [.int s0, .int (nI 0), .int ((nI n) - (nI 1))]) (rest := []) ⟨hx, hb, hml, hown, hts⟩ (c_X1_isIn l D s0 (nI 0) ((nI n) - (nI 1)) ) (va_cwS 3 hts gX1_isSkin_X1_isIn rfl rfl rfl (by decide +kernel) ⟨Nat.le_trans (Nat.le_of_ble_eq_true rfl) hRf, Nat.le_trans (Nat.le_of_ble_eq_true rfl) hRl⟩) (pr_S (P_nil) hK [] rfl V0_at V0_c) rfl rfl hl.1 rfl (lv_room (Nat.le_of_ble_eq_true rfl)) dX1_isSkin_8 ⟨Nat.le_trans (Nat.le_of_ble_eq_true rfl) hRc, Nat.le_trans (Nat.le_of_ble_eq_true rfl) hRs⟩) hS (fun _ _ h => h.elim) (fun _ h => h.elim) (fun r_1 _ t H1 locs ht hvm hw_1 hB hz hk hS => ?_)
  have hP := P_kept hP hk
  obtain rfl := hw_1
  rw [← hQ]
  exact W.zret (v := bI (isI s0 (nI 0) ((nI n) - (nI 1)))) hx hb hr (bI_nar _) (fun t ht hW => ⟨⟨bI (isI s0 (nI 0) ((nI n) - (nI 1))), (), rfl, (by rw [isI_n (by omega)]), trivial⟩, hS.F ht⟩) hS.2.2 dX1_isSkin_11
set_option maxHeartbeats 4000000 in
set_option maxRecDepth 100000 in
/-- isKind -/
theorem c_X1_isKind (l : Launch) (D : va_G) (k0 : Int32)  : Met l yX1_isKind wsX1_isKind ({ frames := 1, cells := 0, slots := 0, locals := 22 } : Room) (va_Pc [.int k0] (Pr D [] [] V0)) (va_Qi (S := Unit) (fun (r : Int32) (_ : Unit) => r = bI (inR k0 4)) (fun _ _ => True) (fun _ => False)) 0 0 (fun _ => False) := by
  refine Met.ofW (cc := cX1_isKind) (maxL := 1) (ret := (some .boolean)) (by decide) rfl ?_
  intro p e s m args below meth c s₁ B hml hv
  obtain ⟨hargs, hP, hK, hV⟩ := hv
  have hx := B.exec
  have hb := B.bytes
  have hr := B.returns
  have hts := atoms_spec (ws := wsX1_isKind) B.pre
  have hown : s.vm.findClass RX1 = some m.cls := findClass_of_methodNamed B.named
  have hlocks := B.notSynchronized
  have hS : va_S (fun _ => False) s.heap s.heap [] := va_S.rf
  have hRf : 1 ≤ (headSpec wsX1_isKind ({ frames := 1, cells := 0, slots := 0, locals := 22 } : Room)).room.frames := Nat.le_refl _
  have hRl : 22 ≤ (headSpec wsX1_isKind ({ frames := 1, cells := 0, slots := 0, locals := 22 } : Room)).room.locals := Nat.le_refl _
  have hRc : 0 ≤ (headSpec wsX1_isKind ({ frames := 1, cells := 0, slots := 0, locals := 22 } : Room)).room.cells := Nat.le_refl _
  have hRs : 0 ≤ (headSpec wsX1_isKind ({ frames := 1, cells := 0, slots := 0, locals := 22 } : Room)).room.slots := Nat.le_refl _
  generalize (headSpec wsX1_isKind ({ frames := 1, cells := 0, slots := 0, locals := 22 } : Room)).room = R at hRf hRl hRc hRs ⊢
  have hl := lv_entry [.int k0] (n := 1) (Nat.le_of_ble_eq_true rfl)
  refine W.eq (show entryFrame m args 1 = _ from by rw [hargs, lg_entry_eq]) ?_
  generalize (lg_sl [.int k0] ++ List.replicate (1 - (lg_sl [.int k0]).length) Slot.unset).toArray = ls at hl ⊢
  have hl : lv_has ls 1 [(0, .int k0)] := hl
  generalize hQ : MQ _ _ _ _ _ _ _ = Q
  refine lv_iload_n hx hb dX1_isKind_0 rfl (lv_at hl 0 rfl) ?_
  refine lv_iconst (v := nI 0) hx hb dX1_isKind_1 (by decide) ?_
  refine lv_iconst (v := nI 3) hx hb dX1_isKind_2 (by decide) ?_
  refine va_calli (va_runS (As := [.int k0, .int (nI 0), .int (nI 3)]) (rest := []) ⟨hx, hb, hml, hown, hts⟩ (c_X1_isIn l D k0 (nI 0) (nI 3) ) (va_cwS 3 hts gX1_isKind_X1_isIn rfl rfl rfl (by decide +kernel) ⟨Nat.le_trans (Nat.le_of_ble_eq_true rfl) hRf, Nat.le_trans (Nat.le_of_ble_eq_true rfl) hRl⟩) (pr_S (P_nil) hK [] rfl V0_at V0_c) rfl rfl hl.1 rfl (lv_room (Nat.le_of_ble_eq_true rfl)) dX1_isKind_3 ⟨Nat.le_trans (Nat.le_of_ble_eq_true rfl) hRc, Nat.le_trans (Nat.le_of_ble_eq_true rfl) hRs⟩) hS (fun _ _ h => h.elim) (fun _ h => h.elim) (fun r_1 _ t H1 locs ht hvm hw_1 hB hz hk hS => ?_)
  obtain rfl := hw_1
  rw [← hQ]
  exact W.zret (v := bI (isI k0 (nI 0) (nI 3))) hx hb hr (bI_nar _) (fun t ht hW => ⟨⟨bI (isI k0 (nI 0) (nI 3)), (), rfl, (by rw [isI_k (by decide)]), trivial⟩, hS.F ht⟩) hS.2.2 dX1_isKind_6
set_option maxHeartbeats 4000000 in
set_option maxRecDepth 100000 in
/-- isColour -/
theorem c_X1_isColour (l : Launch) (D : va_G) (c0 : Int32)  : Met l yX1_isColour wsX1_isColour ({ frames := 1, cells := 0, slots := 0, locals := 22 } : Room) (va_Pc [.int c0] (Pr D [] [] V0)) (va_Qi (S := Unit) (fun (r : Int32) (_ : Unit) => r = bI (inR c0 6)) (fun _ _ => True) (fun _ => False)) 0 0 (fun _ => False) := by
  refine Met.ofW (cc := cX1_isColour) (maxL := 1) (ret := (some .boolean)) (by decide) rfl ?_
  intro p e s m args below meth c s₁ B hml hv
  obtain ⟨hargs, hP, hK, hV⟩ := hv
  have hx := B.exec
  have hb := B.bytes
  have hr := B.returns
  have hts := atoms_spec (ws := wsX1_isColour) B.pre
  have hown : s.vm.findClass RX1 = some m.cls := findClass_of_methodNamed B.named
  have hlocks := B.notSynchronized
  have hS : va_S (fun _ => False) s.heap s.heap [] := va_S.rf
  have hRf : 1 ≤ (headSpec wsX1_isColour ({ frames := 1, cells := 0, slots := 0, locals := 22 } : Room)).room.frames := Nat.le_refl _
  have hRl : 22 ≤ (headSpec wsX1_isColour ({ frames := 1, cells := 0, slots := 0, locals := 22 } : Room)).room.locals := Nat.le_refl _
  have hRc : 0 ≤ (headSpec wsX1_isColour ({ frames := 1, cells := 0, slots := 0, locals := 22 } : Room)).room.cells := Nat.le_refl _
  have hRs : 0 ≤ (headSpec wsX1_isColour ({ frames := 1, cells := 0, slots := 0, locals := 22 } : Room)).room.slots := Nat.le_refl _
  generalize (headSpec wsX1_isColour ({ frames := 1, cells := 0, slots := 0, locals := 22 } : Room)).room = R at hRf hRl hRc hRs ⊢
  have hl := lv_entry [.int c0] (n := 1) (Nat.le_of_ble_eq_true rfl)
  refine W.eq (show entryFrame m args 1 = _ from by rw [hargs, lg_entry_eq]) ?_
  generalize (lg_sl [.int c0] ++ List.replicate (1 - (lg_sl [.int c0]).length) Slot.unset).toArray = ls at hl ⊢
  have hl : lv_has ls 1 [(0, .int c0)] := hl
  generalize hQ : MQ _ _ _ _ _ _ _ = Q
  refine lv_iload_n hx hb dX1_isColour_0 rfl (lv_at hl 0 rfl) ?_
  refine lv_iconst (v := nI 0) hx hb dX1_isColour_1 (by decide) ?_
  refine lv_iconst (v := nI 5) hx hb dX1_isColour_2 (by decide) ?_
  refine va_calli (va_runS (As := [.int c0, .int (nI 0), .int (nI 5)]) (rest := []) ⟨hx, hb, hml, hown, hts⟩ (c_X1_isIn l D c0 (nI 0) (nI 5) ) (va_cwS 3 hts gX1_isColour_X1_isIn rfl rfl rfl (by decide +kernel) ⟨Nat.le_trans (Nat.le_of_ble_eq_true rfl) hRf, Nat.le_trans (Nat.le_of_ble_eq_true rfl) hRl⟩) (pr_S (P_nil) hK [] rfl V0_at V0_c) rfl rfl hl.1 rfl (lv_room (Nat.le_of_ble_eq_true rfl)) dX1_isColour_3 ⟨Nat.le_trans (Nat.le_of_ble_eq_true rfl) hRc, Nat.le_trans (Nat.le_of_ble_eq_true rfl) hRs⟩) hS (fun _ _ h => h.elim) (fun _ h => h.elim) (fun r_1 _ t H1 locs ht hvm hw_1 hB hz hk hS => ?_)
  obtain rfl := hw_1
  rw [← hQ]
  exact W.zret (v := bI (isI c0 (nI 0) (nI 5))) hx hb hr (bI_nar _) (fun t ht hW => ⟨⟨bI (isI c0 (nI 0) (nI 5)), (), rfl, (by rw [isI_k (by decide)]), trivial⟩, hS.F ht⟩) hS.2.2 dX1_isColour_6
set_option maxHeartbeats 4000000 in
set_option maxRecDepth 100000 in
/-- isCell -/
theorem c_X1_isCell (l : Launch) (D : va_G) (cI : ClassId) (ad : Nat → Nat) (th : Int32) (n np nq : Nat) (F : Nat → Nat → Int32) (T : Nat → Int32) (s0 x0 y0 : Int32) (hn : n ≤ 10) : Met l yX1_isCell wsX1_isCell ({ frames := 2, cells := 0, slots := 0, locals := 43 } : Room) (va_Pc [.ref (ad 0), .int s0, .int x0, .int y0] (Pr D [(cI, .int)] (wM cI ad th n np nq F T) V0)) (va_Qi (S := Unit) (fun (r : Int32) (_ : Unit) => r = bI (inR s0 n && (inR x0 12 && inR y0 8))) (fun _ _ => True) (fun _ => False)) 0 0 (fun _ => False) := by
  refine Met.ofW (cc := cX1_isCell) (maxL := 4) (ret := (some .boolean)) (by decide) rfl ?_
  intro p e s m args below meth c s₁ B hml hv
  obtain ⟨hargs, hP, hK, hV⟩ := hv
  have hx := B.exec
  have hb := B.bytes
  have hr := B.returns
  have hts := atoms_spec (ws := wsX1_isCell) B.pre
  have hown : s.vm.findClass RX1 = some m.cls := findClass_of_methodNamed B.named
  have hlocks := B.notSynchronized
  have hS : va_S (fun _ => False) s.heap s.heap [] := va_S.rf
  have hiw : ∀ w ∈ wsX10, w ∈ wsX1_isCell := (fun _ h => List.mem_cons_of_mem _ (List.mem_append_right _ h))
  have hRf : 2 ≤ (headSpec wsX1_isCell ({ frames := 2, cells := 0, slots := 0, locals := 43 } : Room)).room.frames := Nat.le_refl _
  have hRl : 43 ≤ (headSpec wsX1_isCell ({ frames := 2, cells := 0, slots := 0, locals := 43 } : Room)).room.locals := Nat.le_refl _
  have hRc : 0 ≤ (headSpec wsX1_isCell ({ frames := 2, cells := 0, slots := 0, locals := 43 } : Room)).room.cells := Nat.le_refl _
  have hRs : 0 ≤ (headSpec wsX1_isCell ({ frames := 2, cells := 0, slots := 0, locals := 43 } : Room)).room.slots := Nat.le_refl _
  generalize (headSpec wsX1_isCell ({ frames := 2, cells := 0, slots := 0, locals := 43 } : Room)).room = R at hRf hRl hRc hRs ⊢
  have hl := lv_entry [.ref (ad 0), .int s0, .int x0, .int y0] (n := 4) (Nat.le_of_ble_eq_true rfl)
  refine W.eq (show entryFrame m args 4 = _ from by rw [hargs, lg_entry_eq]) ?_
  generalize (lg_sl [.ref (ad 0), .int s0, .int x0, .int y0] ++ List.replicate (4 - (lg_sl [.ref (ad 0), .int s0, .int x0, .int y0]).length) Slot.unset).toArray = ls at hl ⊢
  have hl : lv_has ls 4 [(0, .ref (ad 0)), (1, .int s0), (2, .int x0), (3, .int y0)] := hl
  generalize hQ : MQ _ _ _ _ _ _ _ = Q
  refine lv_aload_n hx hb dX1_isCell_0 rfl (lv_at hl 0 rfl) ?_
  refine lv_iload_n hx hb dX1_isCell_1 rfl (lv_at hl 1 rfl) ?_
  refine va_calli (va_runV (As := [.int s0]) (rest := []) ⟨hx, hb, hml, hown, hts⟩ (c_X1_isSkin l D cI ad th n np nq F T s0 hn) (cwV 1 hts gX1_isCell_X1_isSkin rfl rfl rfl (by decide +kernel) ⟨Nat.le_trans (Nat.le_of_ble_eq_true rfl) hRf, Nat.le_trans (Nat.le_of_ble_eq_true rfl) hRl⟩) (pr_V hP (ci := 1) (q0 := 0) rfl m_at0 rfl hP hK [0] rfl V0_at V0_c) rfl rfl hl.1 rfl (lv_room (Nat.le_of_ble_eq_true rfl)) dX1_isCell_2 ⟨Nat.le_trans (Nat.le_of_ble_eq_true rfl) hRc, Nat.le_trans (Nat.le_of_ble_eq_true rfl) hRs⟩) hS (fun _ _ h => h.elim) (fun _ h => h.elim) (fun r_1 _ t H1 locs ht hvm hw_1 hB hz hk hS => ?_)
  have hP := P_kept hP hk
  obtain rfl := hw_1
  refine nb_if_eq (tgt := 32) hx hb dX1_isCell_5 (by decide) (fun c_2 => ?_) (fun c_2 => ?_)
  · refine lv_iconst (v := nI 0) hx hb dX1_isCell_32 (by decide) ?_
    rw [← hQ]
    exact W.zret (v := nI 0) hx hb hr rfl (fun t ht hW => ⟨⟨nI 0, (), rfl, (by rw [c_2]; rfl), trivial⟩, hS.F ht⟩) hS.2.2 dX1_isCell_33
  · refine lv_iload_n hx hb dX1_isCell_8 rfl (lv_at hl 2 rfl) ?_
    refine lv_iconst (v := nI 0) hx hb dX1_isCell_9 (by decide) ?_
    refine lv_bipush (v := nI 11) hx hb dX1_isCell_10 (by decide) ?_
    refine va_calli (va_runS (As := [.int x0, .int (nI 0), .int (nI 11)]) (rest := []) ⟨hx, hb, hml, hown, hts⟩ (c_X1_isIn l D x0 (nI 0) (nI 11) ) (va_cwS 3 hts gX1_isCell_X1_isIn rfl rfl rfl (by decide +kernel) ⟨Nat.le_trans (Nat.le_of_ble_eq_true rfl) hRf, Nat.le_trans (Nat.le_of_ble_eq_true rfl) hRl⟩) (pr_S (P_nil) hK [] rfl V0_at V0_c) rfl rfl hl.1 rfl (lv_room (Nat.le_of_ble_eq_true rfl)) dX1_isCell_12 ⟨Nat.le_trans (Nat.le_of_ble_eq_true rfl) hRc, Nat.le_trans (Nat.le_of_ble_eq_true rfl) hRs⟩) hS (fun _ _ h => h.elim) (fun _ h => h.elim) (fun r_3 _ t H1 locs ht hvm hw_3 hB hz hk hS => ?_)
    have hP := P_kept hP hk
    obtain rfl := hw_3
    refine nb_if_eq (tgt := 32) hx hb dX1_isCell_15 (by decide) (fun c_4 => ?_) (fun c_4 => ?_)
    · refine lv_iconst (v := nI 0) hx hb dX1_isCell_32 (by decide) ?_
      rw [← hQ]
      exact W.zret (v := nI 0) hx hb hr rfl (fun t ht hW => ⟨⟨nI 0, (), rfl, (by rw [← isI_k (x := x0) (k := 11) (by decide), c_4, Bool.false_and, Bool.and_false]; rfl), trivial⟩, hS.F ht⟩) hS.2.2 dX1_isCell_33
    · refine lv_iload_n hx hb dX1_isCell_18 rfl (lv_at hl 3 rfl) ?_
      refine lv_iconst (v := nI 0) hx hb dX1_isCell_19 (by decide) ?_
      refine lv_bipush (v := nI 7) hx hb dX1_isCell_20 (by decide) ?_
      refine va_calli (va_runS (As := [.int y0, .int (nI 0), .int (nI 7)]) (rest := []) ⟨hx, hb, hml, hown, hts⟩ (c_X1_isIn l D y0 (nI 0) (nI 7) ) (va_cwS 3 hts gX1_isCell_X1_isIn rfl rfl rfl (by decide +kernel) ⟨Nat.le_trans (Nat.le_of_ble_eq_true rfl) hRf, Nat.le_trans (Nat.le_of_ble_eq_true rfl) hRl⟩) (pr_S (P_nil) hK [] rfl V0_at V0_c) rfl rfl hl.1 rfl (lv_room (Nat.le_of_ble_eq_true rfl)) dX1_isCell_22 ⟨Nat.le_trans (Nat.le_of_ble_eq_true rfl) hRc, Nat.le_trans (Nat.le_of_ble_eq_true rfl) hRs⟩) hS (fun _ _ h => h.elim) (fun _ h => h.elim) (fun r_5 _ t H1 locs ht hvm hw_5 hB hz hk hS => ?_)
      have hP := P_kept hP hk
      obtain rfl := hw_5
      refine nb_if_eq (tgt := 32) hx hb dX1_isCell_25 (by decide) (fun c_6 => ?_) (fun c_6 => ?_)
      · refine lv_iconst (v := nI 0) hx hb dX1_isCell_32 (by decide) ?_
        rw [← hQ]
        exact W.zret (v := nI 0) hx hb hr rfl (fun t ht hW => ⟨⟨nI 0, (), rfl, (by rw [← isI_k (x := y0) (k := 7) (by decide), c_6, Bool.and_false, Bool.and_false]; rfl), trivial⟩, hS.F ht⟩) hS.2.2 dX1_isCell_33
      · refine lv_iconst (v := nI 1) hx hb dX1_isCell_28 (by decide) ?_
        refine lv_goto (tgt := 33) hx hb dX1_isCell_29 (by decide) ?_
        rw [← hQ]
        exact W.zret (v := nI 1) hx hb hr rfl (fun t ht hW => ⟨⟨nI 1, (), rfl, (by rw [← isI_k (x := y0) (k := 7) (by decide), ← isI_k (x := x0) (k := 11) (by decide), c_2, c_4, c_6]; rfl), trivial⟩, hS.F ht⟩) hS.2.2 dX1_isCell_33
set_option maxHeartbeats 4000000 in
set_option maxRecDepth 100000 in
/-- no -/
theorem c_X1_no (l : Launch) (D : va_G) (cI : ClassId) (ad : Nat → Nat) (th : Int32) (n np nq : Nat) (F : Nat → Nat → Int32) (T : Nat → Int32) (k0 : Nat) (hinj : inj ad 8) : Met l yX1_no wsX1_no ({ frames := 0, cells := 0, slots := 0, locals := 0 } : Room) (va_Pc [.ref (ad 0), .int (nI k0)] (Pr D [(cI, .int)] (wM cI ad th n np nq F T) V0)) (va_Qi (S := Unit) (fun (r : Int32) (_ : Unit) => r = nI 0) (fun (_ : Unit) (t : State) => va_P D vwCl (wM cI ad (nI k0) n np nq F T) t.heap) (inA ad 8)) 0 0 (inA ad 8) := by
  refine Met.ofW (cc := cX1_no) (maxL := 2) (ret := (some .int)) (by decide) rfl ?_
  intro p e s m args below meth c s₁ B hml hv
  obtain ⟨hargs, hP, hK, hV⟩ := hv
  have hx := B.exec
  have hb := B.bytes
  have hr := B.returns
  have hts := atoms_spec (ws := wsX1_no) B.pre
  have hown : s.vm.findClass RX1 = some m.cls := findClass_of_methodNamed B.named
  have hlocks := B.notSynchronized
  have hS : va_S (fun _ => False) s.heap s.heap [] := va_S.rf
  have hiw : ∀ w ∈ wsX10, w ∈ wsX1_no := (fun _ h => List.mem_cons_of_mem _ (List.mem_append_right _ h))
  have hRf : 0 ≤ (headSpec wsX1_no ({ frames := 0, cells := 0, slots := 0, locals := 0 } : Room)).room.frames := Nat.le_refl _
  have hRl : 0 ≤ (headSpec wsX1_no ({ frames := 0, cells := 0, slots := 0, locals := 0 } : Room)).room.locals := Nat.le_refl _
  have hRc : 0 ≤ (headSpec wsX1_no ({ frames := 0, cells := 0, slots := 0, locals := 0 } : Room)).room.cells := Nat.le_refl _
  have hRs : 0 ≤ (headSpec wsX1_no ({ frames := 0, cells := 0, slots := 0, locals := 0 } : Room)).room.slots := Nat.le_refl _
  generalize (headSpec wsX1_no ({ frames := 0, cells := 0, slots := 0, locals := 0 } : Room)).room = R at hRf hRl hRc hRs ⊢
  have hl := lv_entry [.ref (ad 0), .int (nI k0)] (n := 2) (Nat.le_of_ble_eq_true rfl)
  refine W.eq (show entryFrame m args 2 = _ from by rw [hargs, lg_entry_eq]) ?_
  generalize (lg_sl [.ref (ad 0), .int (nI k0)] ++ List.replicate (2 - (lg_sl [.ref (ad 0), .int (nI k0)]).length) Slot.unset).toArray = ls at hl ⊢
  have hl : lv_has ls 2 [(0, .ref (ad 0)), (1, .int (nI k0))] := hl
  have hD : va_D (inA ad 8) (wM cI ad th n np nq F T) := m_D hinj
  generalize hQ : MQ _ _ _ _ _ _ _ = Q
  refine lv_aload_n hx hb dX1_no_0 rfl (lv_at hl 0 rfl) ?_
  refine lv_iload_n hx hb dX1_no_1 rfl (lv_at hl 1 rfl) ?_
  have hS : va_S (inA ad 8) s.heap _ _ := S_mono hS
  refine va_put (D := D) (ci := 1) (v := .int (nI k0)) (ty := .int) (C := RX1) (T := TX1) (N := 12) hx hb hts hiw tyX1 tyX1_ok nmX1 hown hK hP hD hS 0 m_at0 rfl 0 (by decide) (hts (.fieldLink RX1 34 "GloveCuttersModel" "thrown" "I") (by decide +kernel)) (fun _ h9 => h9) rfl (by decide +kernel) rfl rfl (Nat.le_of_ble_eq_true rfl) dX1_no_2 (fun H locs hP hD hS => ?_)
  have hP : va_P D vwCl (wM cI ad (nI k0) n np nq F T) H := hP
  have hD : va_D (inA ad 8) (wM cI ad (nI k0) n np nq F T) := hD
  refine lv_iconst (v := nI 0) hx hb dX1_no_5 (by decide) ?_
  rw [← hQ]
  exact W.iret (v := nI 0) hx hb hr (fun t ht hW => ⟨⟨nI 0, (), rfl, rfl, (by show va_P D vwCl (wM cI ad (nI k0) n np nq F T) t.heap; rw [ht]; exact hP)⟩, hS.F ht⟩) hS.2.2 dX1_no_6
set_option maxHeartbeats 4000000 in
set_option maxRecDepth 100000 in
/-- thrown -/
theorem c_X1_thrown (l : Launch) (D : va_G) (cI : ClassId) (ad : Nat → Nat) (th : Int32) (n np nq : Nat) (F : Nat → Nat → Int32) (T : Nat → Int32)  : Met l yX1_thrown wsX1_thrown ({ frames := 0, cells := 0, slots := 0, locals := 0 } : Room) (va_Pc [.ref (ad 0)] (Pr D [(cI, .int)] (wM cI ad th n np nq F T) V0)) (va_Qi (S := Unit) (fun (r : Int32) (_ : Unit) => r = th) (fun _ _ => True) (fun _ => False)) 0 0 (fun _ => False) := by
  refine Met.ofW (cc := cX1_thrown) (maxL := 1) (ret := (some .int)) (by decide) rfl ?_
  intro p e s m args below meth c s₁ B hml hv
  obtain ⟨hargs, hP, hK, hV⟩ := hv
  have hx := B.exec
  have hb := B.bytes
  have hr := B.returns
  have hts := atoms_spec (ws := wsX1_thrown) B.pre
  have hown : s.vm.findClass RX1 = some m.cls := findClass_of_methodNamed B.named
  have hlocks := B.notSynchronized
  have hS : va_S (fun _ => False) s.heap s.heap [] := va_S.rf
  have hiw : ∀ w ∈ wsX10, w ∈ wsX1_thrown := (fun _ h => List.mem_cons_of_mem _ (List.mem_append_right _ h))
  have hRf : 0 ≤ (headSpec wsX1_thrown ({ frames := 0, cells := 0, slots := 0, locals := 0 } : Room)).room.frames := Nat.le_refl _
  have hRl : 0 ≤ (headSpec wsX1_thrown ({ frames := 0, cells := 0, slots := 0, locals := 0 } : Room)).room.locals := Nat.le_refl _
  have hRc : 0 ≤ (headSpec wsX1_thrown ({ frames := 0, cells := 0, slots := 0, locals := 0 } : Room)).room.cells := Nat.le_refl _
  have hRs : 0 ≤ (headSpec wsX1_thrown ({ frames := 0, cells := 0, slots := 0, locals := 0 } : Room)).room.slots := Nat.le_refl _
  generalize (headSpec wsX1_thrown ({ frames := 0, cells := 0, slots := 0, locals := 0 } : Room)).room = R at hRf hRl hRc hRs ⊢
  have hl := lv_entry [.ref (ad 0)] (n := 1) (Nat.le_of_ble_eq_true rfl)
  refine W.eq (show entryFrame m args 1 = _ from by rw [hargs, lg_entry_eq]) ?_
  generalize (lg_sl [.ref (ad 0)] ++ List.replicate (1 - (lg_sl [.ref (ad 0)]).length) Slot.unset).toArray = ls at hl ⊢
  have hl : lv_has ls 1 [(0, .ref (ad 0))] := hl
  generalize hQ : MQ _ _ _ _ _ _ _ = Q
  refine lv_aload_n hx hb dX1_thrown_0 rfl (lv_at hl 0 rfl) ?_
  refine va_get (D := D) (ci := 1) (v := .int th) (C := RX1) (T := TX1) (N := 12) hx hb hts hiw hown hK hP 0 m_at0 rfl 0 (by decide) (hts (.fieldLink RX1 34 "GloveCuttersModel" "thrown" "I") (by decide +kernel)) (fun _ h9 => h9) rfl dX1_thrown_1 ?_
  rw [← hQ]
  exact W.iret (v := th) hx hb hr (fun t ht hW => ⟨⟨th, (), rfl, rfl, trivial⟩, hS.F ht⟩) hS.2.2 dX1_thrown_4
set_option maxHeartbeats 4000000 in
set_option maxRecDepth 100000 in
/-- many -/
theorem c_X1_many (l : Launch) (D : va_G) (cI : ClassId) (a n : Nat) (f : Nat → Int32) (fr w h : Nat) (v : Int32) (hf9 : fr + 12 * h + w ≤ n + 12) (hw9 : 1 ≤ w) (hw8 : w ≤ 12) (hh9 : h ≤ 12) (hn9 : n ≤ 960) : Met l yX1_many wsX1_many ({ frames := 0, cells := 0, slots := 0, locals := 0 } : Room) (va_Pc [.ref a, .int (nI fr), .int (nI w), .int (nI h), .int v] (Pr D [(cI, .int)] [(a, .inl (cI, n, .inl f))] V0)) (va_Qi (S := Unit) (fun (r : Int32) (_ : Unit) => r = nI (ct f fr w v (w * h))) (fun _ _ => True) (fun _ => False)) 0 0 (fun _ => False) := by
  refine Met.ofW (cc := cX1_many) (maxL := 7) (ret := (some .int)) (by decide) rfl ?_
  intro p e s m args below meth c s₁ B hml hv
  obtain ⟨hargs, hP, hK, hV⟩ := hv
  have hx := B.exec
  have hb := B.bytes
  have hr := B.returns
  have hts := atoms_spec (ws := wsX1_many) B.pre
  have hown : s.vm.findClass RX1 = some m.cls := findClass_of_methodNamed B.named
  have hlocks := B.notSynchronized
  have hS : va_S (fun _ => False) s.heap s.heap [] := va_S.rf
  have hRf : 0 ≤ (headSpec wsX1_many ({ frames := 0, cells := 0, slots := 0, locals := 0 } : Room)).room.frames := Nat.le_refl _
  have hRl : 0 ≤ (headSpec wsX1_many ({ frames := 0, cells := 0, slots := 0, locals := 0 } : Room)).room.locals := Nat.le_refl _
  have hRc : 0 ≤ (headSpec wsX1_many ({ frames := 0, cells := 0, slots := 0, locals := 0 } : Room)).room.cells := Nat.le_refl _
  have hRs : 0 ≤ (headSpec wsX1_many ({ frames := 0, cells := 0, slots := 0, locals := 0 } : Room)).room.slots := Nat.le_refl _
  generalize (headSpec wsX1_many ({ frames := 0, cells := 0, slots := 0, locals := 0 } : Room)).room = R at hRf hRl hRc hRs ⊢
  have hl := lv_entry [.ref a, .int (nI fr), .int (nI w), .int (nI h), .int v] (n := 7) (Nat.le_of_ble_eq_true rfl)
  refine W.eq (show entryFrame m args 7 = _ from by rw [hargs, lg_entry_eq]) ?_
  generalize (lg_sl [.ref a, .int (nI fr), .int (nI w), .int (nI h), .int v] ++ List.replicate (7 - (lg_sl [.ref a, .int (nI fr), .int (nI w), .int (nI h), .int v]).length) Slot.unset).toArray = ls at hl ⊢
  have hl : lv_has ls 7 [(0, .ref a), (1, .int (nI fr)), (2, .int (nI w)), (3, .int (nI h)), (4, .int v)] := hl
  generalize hQ : MQ _ _ _ _ _ _ _ = Q
  have hwh : w * h ≤ 144 := Nat.mul_le_mul hw8 hh9
  refine lv_iconst (v := nI 0) hx hb dX1_many_0 (by decide) ?_
  refine lv_istore (lv' := [(5, .int (nI 0)), (0, .ref a), (1, .int (nI fr)), (2, .int (nI w)), (3, .int (nI h)), (4, .int v)]) hx hb dX1_many_1 hl (by decide) rfl (fun ls hl => ?_)
  refine lv_iconst (v := nI 0) hx hb dX1_many_3 (by decide) ?_
  refine lv_istore (lv' := [(6, .int (nI 0)), (5, .int (nI 0)), (0, .ref a), (1, .int (nI fr)), (2, .int (nI w)), (3, .int (nI h)), (4, .int v)]) hx hb dX1_many_4 hl (by decide) rfl (fun ls hl => ?_)
  have L6 : ∀ (fu : Nat) (k9 : Nat) (i9 : Nat) (H : Heap) (locs : List Loc) (ls : Array Slot), w * h - i9 < fu → (i9 ≤ w * h) → (k9 = ct f fr w v i9) → (k9 ≤ i9) → va_P D vwCl [(a, .inl (cI, n, .inl f))] H → va_S (fun _ => False) s.heap H locs → lv_has ls 7 [(0, .ref a), (1, .int (nI fr)), (2, .int (nI w)), (3, .int (nI h)), (4, .int v), (5, .int (nI k9)), (6, .int (nI i9))] → W p l e R s m args below meth c H locs 0 0 Q (F0 m 6 ls []) := by
    intro fu
    induction fu with
    | zero => intro _ _ _ _ _ h; exact absurd h (Nat.not_lt_zero _)
    | succ fu ih6 =>
      intro k9 i9 H locs ls hm6 h1 h2 h3 hP  hS hl
      refine lv_iload hx hb dX1_many_6 (lv_at hl 6 rfl) ?_
      refine lv_iload_n hx hb dX1_many_8 rfl (lv_at hl 2 rfl) ?_
      refine lv_iload_n hx hb dX1_many_9 rfl (lv_at hl 3 rfl) ?_
      refine nv_imul hx hb dX1_many_10 ?_
      refine nv_icmp_ge (tgt := 51) hx hb (by omega) (by omega) dX1_many_11 (by decide) (fun c_1 => ?_) (fun c_1 => ?_)
      · refine lv_iload hx hb dX1_many_51 (lv_at hl 5 rfl) ?_
        rw [← hQ]
        exact W.iret (v := nI k9) hx hb hr (fun t ht hW => ⟨⟨nI k9, (), rfl, (by rw [h2, show i9 = w * h by omega]), trivial⟩, hS.F ht⟩) hS.2.2 dX1_many_53
      · have hd1 : i9 / w < h := Nat.div_lt_of_lt_mul c_1
        have hd2 : i9 % w < w := Nat.mod_lt _ (by omega)
        refine lv_iload hx hb dX1_many_14 (lv_at hl 5 rfl) ?_
        refine lv_aload_n hx hb dX1_many_16 rfl (lv_at hl 0 rfl) ?_
        refine lv_iload_n hx hb dX1_many_17 rfl (lv_at hl 1 rfl) ?_
        refine lv_iload hx hb dX1_many_18 (lv_at hl 6 rfl) ?_
        refine lv_iload_n hx hb dX1_many_20 rfl (lv_at hl 2 rfl) ?_
        refine nv_idiv hx hb (by omega) (by omega) (by omega) dX1_many_21 ?_
        refine lv_bipush (v := nI 12) hx hb dX1_many_22 (by decide) ?_
        refine nv_imul hx hb dX1_many_24 ?_
        refine nv_iadd hx hb dX1_many_25 ?_
        refine lv_iload hx hb dX1_many_26 (lv_at hl 6 rfl) ?_
        refine lv_iload_n hx hb dX1_many_28 rfl (lv_at hl 2 rfl) ?_
        refine nv_irem hx hb (by omega) (by omega) (by omega) dX1_many_29 ?_
        refine nv_iadd hx hb dX1_many_30 ?_
        refine nv_iald hx hb hK hP 0 0 rfl rfl (by omega) (by omega) dX1_many_31 ?_
        refine lv_iload hx hb dX1_many_32 (lv_at hl 4 rfl) ?_
        refine lv_icmp_ne (tgt := 41) hx hb dX1_many_34 (by decide) (fun c_2 => ?_) (fun c_2 => ?_)
        · refine lv_iconst (v := nI 0) hx hb dX1_many_41 (by decide) ?_
          refine nv_iadd hx hb dX1_many_42 ?_
          refine lv_istore (lv' := [(5, .int (nI (k9 + 0))), (0, .ref a), (1, .int (nI fr)), (2, .int (nI w)), (3, .int (nI h)), (4, .int v), (6, .int (nI i9))]) hx hb dX1_many_43 hl (by decide) rfl (fun ls hl => ?_)
          refine lv_iinc (k := 6) (v := nI (i9 + 1)) (lv' := [(6, .int (nI (i9 + 1))), (5, .int (nI (k9 + 0))), (0, .ref a), (1, .int (nI fr)), (2, .int (nI w)), (3, .int (nI h)), (4, .int v)]) hx hb dX1_many_45 hl rfl (nI_add i9 1) (by decide) rfl (fun ls hl => ?_)
          refine lv_goto (tgt := 6) hx hb dX1_many_48 (by decide) ?_
          exact ih6 (k9 + 0) (i9 + 1) _ _ _ (by omega) (by omega) (by rw [h2]; exact (ct_no (by unfold pl; omega) c_2).symm) (by omega) hP hS (lv_sub hl [2, 3, 4, 5, 6, 1, 0] rfl)
        · refine lv_iconst (v := nI 1) hx hb dX1_many_37 (by decide) ?_
          refine lv_goto (tgt := 42) hx hb dX1_many_38 (by decide) ?_
          refine nv_iadd hx hb dX1_many_42 ?_
          refine lv_istore (lv' := [(5, .int (nI (k9 + 1))), (0, .ref a), (1, .int (nI fr)), (2, .int (nI w)), (3, .int (nI h)), (4, .int v), (6, .int (nI i9))]) hx hb dX1_many_43 hl (by decide) rfl (fun ls hl => ?_)
          refine lv_iinc (k := 6) (v := nI (i9 + 1)) (lv' := [(6, .int (nI (i9 + 1))), (5, .int (nI (k9 + 1))), (0, .ref a), (1, .int (nI fr)), (2, .int (nI w)), (3, .int (nI h)), (4, .int v)]) hx hb dX1_many_45 hl rfl (nI_add i9 1) (by decide) rfl (fun ls hl => ?_)
          refine lv_goto (tgt := 6) hx hb dX1_many_48 (by decide) ?_
          exact ih6 (k9 + 1) (i9 + 1) _ _ _ (by omega) (by omega) (by rw [h2]; exact (ct_yes (by unfold pl; omega) c_2).symm) (by omega) hP hS (lv_sub hl [2, 3, 4, 5, 6, 1, 0] rfl)
  exact L6 _ 0 0 _ _ _ (Nat.lt_succ_self _) (by omega) rfl (by omega) hP hS (lv_sub hl [2, 3, 4, 5, 6, 1, 0] rfl)
set_option maxHeartbeats 4000000 in
set_option maxRecDepth 100000 in
/-- fill -/
theorem c_X1_fill (l : Launch) (D : va_G) (cI : ClassId) (a n : Nat) (f : Nat → Int32) (fr w h : Nat) (v : Int32) (hf9 : fr + 12 * h + w ≤ n + 12) (hw9 : 1 ≤ w) (hw8 : w ≤ 12) (hh9 : h ≤ 12) (hn9 : n ≤ 960) : Met l yX1_fill wsX1_fill ({ frames := 0, cells := 0, slots := 0, locals := 0 } : Room) (va_Pc [.ref a, .int (nI fr), .int (nI w), .int (nI h), .int v] (Pr D [(cI, .int)] [(a, .inl (cI, n, .inl f))] V0)) (va_Qv (S := Unit) (fun _ => True) (fun (_ : Unit) (t : State) => va_P D vwCl [(a, .inl (cI, n, .inl (fl f fr w v (w * h))))] t.heap) (fun q => q = a)) 0 0 (fun q => q = a) := by
  refine Met.ofW (cc := cX1_fill) (maxL := 6) (ret := none) (by decide) rfl ?_
  intro p e s m args below meth c s₁ B hml hv
  obtain ⟨hargs, hP, hK, hV⟩ := hv
  have hx := B.exec
  have hb := B.bytes
  have hr := B.returns
  have hts := atoms_spec (ws := wsX1_fill) B.pre
  have hown : s.vm.findClass RX1 = some m.cls := findClass_of_methodNamed B.named
  have hlocks := B.notSynchronized
  have hS : va_S (fun _ => False) s.heap s.heap [] := va_S.rf
  have hRf : 0 ≤ (headSpec wsX1_fill ({ frames := 0, cells := 0, slots := 0, locals := 0 } : Room)).room.frames := Nat.le_refl _
  have hRl : 0 ≤ (headSpec wsX1_fill ({ frames := 0, cells := 0, slots := 0, locals := 0 } : Room)).room.locals := Nat.le_refl _
  have hRc : 0 ≤ (headSpec wsX1_fill ({ frames := 0, cells := 0, slots := 0, locals := 0 } : Room)).room.cells := Nat.le_refl _
  have hRs : 0 ≤ (headSpec wsX1_fill ({ frames := 0, cells := 0, slots := 0, locals := 0 } : Room)).room.slots := Nat.le_refl _
  generalize (headSpec wsX1_fill ({ frames := 0, cells := 0, slots := 0, locals := 0 } : Room)).room = R at hRf hRl hRc hRs ⊢
  have hl := lv_entry [.ref a, .int (nI fr), .int (nI w), .int (nI h), .int v] (n := 6) (Nat.le_of_ble_eq_true rfl)
  refine W.eq (show entryFrame m args 6 = _ from by rw [hargs, lg_entry_eq]) ?_
  generalize (lg_sl [.ref a, .int (nI fr), .int (nI w), .int (nI h), .int v] ++ List.replicate (6 - (lg_sl [.ref a, .int (nI fr), .int (nI w), .int (nI h), .int v]).length) Slot.unset).toArray = ls at hl ⊢
  have hl : lv_has ls 6 [(0, .ref a), (1, .int (nI fr)), (2, .int (nI w)), (3, .int (nI h)), (4, .int v)] := hl
  have hD : va_D (fun q => q = a) [(a, .inl (cI, n, .inl f))] := a_D
  generalize hQ : MQ _ _ _ _ _ _ _ = Q
  have hwh : w * h ≤ 144 := Nat.mul_le_mul hw8 hh9
  refine lv_iconst (v := nI 0) hx hb dX1_fill_0 (by decide) ?_
  refine lv_istore (lv' := [(5, .int (nI 0)), (0, .ref a), (1, .int (nI fr)), (2, .int (nI w)), (3, .int (nI h)), (4, .int v)]) hx hb dX1_fill_1 hl (by decide) rfl (fun ls hl => ?_)
  have hS : va_S (fun q => q = a) s.heap _ _ := S_mono hS
  have L3 : ∀ (fu : Nat) (i9 : Nat) (g : Nat → Int32) (H : Heap) (locs : List Loc) (ls : Array Slot), w * h - i9 < fu → (i9 ≤ w * h) → (g = fl f fr w v i9) → va_P D vwCl [(a, .inl (cI, n, .inl g))] H → va_D (fun q => q = a) [(a, .inl (cI, n, .inl g))] → va_S (fun q => q = a) s.heap H locs → lv_has ls 6 [(0, .ref a), (1, .int (nI fr)), (2, .int (nI w)), (3, .int (nI h)), (4, .int v), (5, .int (nI i9))] → W p l e R s m args below meth c H locs 0 0 Q (F0 m 3 ls []) := by
    intro fu
    induction fu with
    | zero => intro _ _ _ _ _ h; exact absurd h (Nat.not_lt_zero _)
    | succ fu ih3 =>
      intro i9 g H locs ls hm3 h1 h2 hP hD hS hl
      refine lv_iload hx hb dX1_fill_3 (lv_at hl 5 rfl) ?_
      refine lv_iload_n hx hb dX1_fill_5 rfl (lv_at hl 2 rfl) ?_
      refine lv_iload_n hx hb dX1_fill_6 rfl (lv_at hl 3 rfl) ?_
      refine nv_imul hx hb dX1_fill_7 ?_
      refine nv_icmp_ge (tgt := 35) hx hb (by omega) (by omega) dX1_fill_8 (by decide) (fun c_1 => ?_) (fun c_1 => ?_)
      · rw [← hQ]
        exact W.vret hx hb hr (fun t ht hW => ⟨⟨(), rfl, trivial, (by show va_P D vwCl [(a, .inl (cI, n, .inl (fl f fr w v (w * h))))] t.heap; rw [ht, ← show i9 = w * h by omega, ← h2]; exact hP)⟩, hS.F ht⟩) hS.2.2 dX1_fill_35
      · have hd1 : i9 / w < h := Nat.div_lt_of_lt_mul c_1
        have hd2 : i9 % w < w := Nat.mod_lt _ (by omega)
        refine lv_aload_n hx hb dX1_fill_11 rfl (lv_at hl 0 rfl) ?_
        refine lv_iload_n hx hb dX1_fill_12 rfl (lv_at hl 1 rfl) ?_
        refine lv_iload hx hb dX1_fill_13 (lv_at hl 5 rfl) ?_
        refine lv_iload_n hx hb dX1_fill_15 rfl (lv_at hl 2 rfl) ?_
        refine nv_idiv hx hb (by omega) (by omega) (by omega) dX1_fill_16 ?_
        refine lv_bipush (v := nI 12) hx hb dX1_fill_17 (by decide) ?_
        refine nv_imul hx hb dX1_fill_19 ?_
        refine nv_iadd hx hb dX1_fill_20 ?_
        refine lv_iload hx hb dX1_fill_21 (lv_at hl 5 rfl) ?_
        refine lv_iload_n hx hb dX1_fill_23 rfl (lv_at hl 2 rfl) ?_
        refine nv_irem hx hb (by omega) (by omega) (by omega) dX1_fill_24 ?_
        refine nv_iadd hx hb dX1_fill_25 ?_
        refine lv_iload hx hb dX1_fill_26 (lv_at hl 4 rfl) ?_
        refine nv_iast hx hb hK hP hD hS 0 0 rfl rfl (by omega) (by omega) dX1_fill_28 (fun H locs hP hD hS => ?_)
        obtain ⟨f_2, ef_2⟩ : ∃ z, z = upd g ((fr + ((i9 / w) * 12)) + (i9 % w)) v := ⟨_, rfl⟩
        rw [← ef_2] at hP hD
        have hP : va_P D vwCl [(a, .inl (cI, n, .inl f_2))] H := hP
        have hD : va_D (fun q => q = a) [(a, .inl (cI, n, .inl f_2))] := hD
        refine lv_iinc (k := 5) (v := nI (i9 + 1)) (lv' := [(5, .int (nI (i9 + 1))), (0, .ref a), (1, .int (nI fr)), (2, .int (nI w)), (3, .int (nI h)), (4, .int v)]) hx hb dX1_fill_29 hl rfl (nI_add i9 1) (by decide) rfl (fun ls hl => ?_)
        refine lv_goto (tgt := 3) hx hb dX1_fill_32 (by decide) ?_
        exact ih3 (i9 + 1) f_2 _ _ _ (by omega) (by omega) (by rw [ef_2, h2, show fr + i9 / w * 12 + i9 % w = pl fr w i9 by unfold pl; omega]; rfl) hP hD hS (lv_sub hl [1, 2, 3, 4, 5, 0] rfl)
  exact L3 _ 0 f _ _ _ (Nat.lt_succ_self _) (by omega) rfl hP hD hS (lv_sub hl [1, 2, 3, 4, 5, 0] rfl)
set_option maxHeartbeats 4000000 in
set_option maxRecDepth 100000 in
/-- piecesOf -/
theorem c_X1_piecesOf (l : Launch) (D : va_G) (cI : ClassId) (ad : Nat → Nat) (th : Int32) (n np nq : Nat) (F : Nat → Nat → Int32) (T : Nat → Int32) (s0 : Nat) (hnp : np ≤ 150) : Met l yX1_piecesOf wsX1_piecesOf ({ frames := 0, cells := 0, slots := 0, locals := 0 } : Room) (va_Pc [.ref (ad 0), .int (nI s0)] (Pr D [(cI, .int)] (wM cI ad th n np nq F T) V0)) (va_Qi (S := Unit) (fun (r : Int32) (_ : Unit) => r = nI (cn (fun p => F 4 p == nI s0) np)) (fun _ _ => True) (fun _ => False)) 0 0 (fun _ => False) := by
  refine Met.ofW (cc := cX1_piecesOf) (maxL := 4) (ret := (some .int)) (by decide) rfl ?_
  intro p e s m args below meth c s₁ B hml hv
  obtain ⟨hargs, hP, hK, hV⟩ := hv
  have hx := B.exec
  have hb := B.bytes
  have hr := B.returns
  have hts := atoms_spec (ws := wsX1_piecesOf) B.pre
  have hown : s.vm.findClass RX1 = some m.cls := findClass_of_methodNamed B.named
  have hlocks := B.notSynchronized
  have hS : va_S (fun _ => False) s.heap s.heap [] := va_S.rf
  have hiw : ∀ w ∈ wsX10, w ∈ wsX1_piecesOf := (fun _ h => List.mem_cons_of_mem _ (List.mem_append_right _ h))
  have hRf : 0 ≤ (headSpec wsX1_piecesOf ({ frames := 0, cells := 0, slots := 0, locals := 0 } : Room)).room.frames := Nat.le_refl _
  have hRl : 0 ≤ (headSpec wsX1_piecesOf ({ frames := 0, cells := 0, slots := 0, locals := 0 } : Room)).room.locals := Nat.le_refl _
  have hRc : 0 ≤ (headSpec wsX1_piecesOf ({ frames := 0, cells := 0, slots := 0, locals := 0 } : Room)).room.cells := Nat.le_refl _
  have hRs : 0 ≤ (headSpec wsX1_piecesOf ({ frames := 0, cells := 0, slots := 0, locals := 0 } : Room)).room.slots := Nat.le_refl _
  generalize (headSpec wsX1_piecesOf ({ frames := 0, cells := 0, slots := 0, locals := 0 } : Room)).room = R at hRf hRl hRc hRs ⊢
  have hl := lv_entry [.ref (ad 0), .int (nI s0)] (n := 4) (Nat.le_of_ble_eq_true rfl)
  refine W.eq (show entryFrame m args 4 = _ from by rw [hargs, lg_entry_eq]) ?_
  generalize (lg_sl [.ref (ad 0), .int (nI s0)] ++ List.replicate (4 - (lg_sl [.ref (ad 0), .int (nI s0)]).length) Slot.unset).toArray = ls at hl ⊢
  have hl : lv_has ls 4 [(0, .ref (ad 0)), (1, .int (nI s0))] := hl
  generalize hQ : MQ _ _ _ _ _ _ _ = Q
  refine lv_iconst (v := nI 0) hx hb dX1_piecesOf_0 (by decide) ?_
  refine lv_istore_n (lv' := [(2, .int (nI 0)), (0, .ref (ad 0)), (1, .int (nI s0))]) hx hb dX1_piecesOf_1 rfl hl (by decide) rfl (fun ls hl => ?_)
  refine lv_iconst (v := nI 0) hx hb dX1_piecesOf_2 (by decide) ?_
  refine lv_istore_n (lv' := [(3, .int (nI 0)), (2, .int (nI 0)), (0, .ref (ad 0)), (1, .int (nI s0))]) hx hb dX1_piecesOf_3 rfl hl (by decide) rfl (fun ls hl => ?_)
  have L4 : ∀ (fu : Nat) (k : Nat) (i : Nat) (H : Heap) (locs : List Loc) (ls : Array Slot), np - i < fu → (i ≤ np) → (k = cn (fun p => F 4 p == nI s0) i) → (k ≤ i) → va_P D vwCl (wM cI ad th n np nq F T) H → va_S (fun _ => False) s.heap H locs → lv_has ls 4 [(0, .ref (ad 0)), (1, .int (nI s0)), (2, .int (nI k)), (3, .int (nI i))] → W p l e R s m args below meth c H locs 0 0 Q (F0 m 4 ls []) := by
    intro fu
    induction fu with
    | zero => intro _ _ _ _ _ h; exact absurd h (Nat.not_lt_zero _)
    | succ fu ih4 =>
      intro k i H locs ls hm4 h1 h2 h3 hP  hS hl
      refine lv_iload_n hx hb dX1_piecesOf_4 rfl (lv_at hl 3 rfl) ?_
      refine lv_aload_n hx hb dX1_piecesOf_5 rfl (lv_at hl 0 rfl) ?_
      refine va_get (D := D) (ci := 1) (v := .int (nI np)) (C := RX1) (T := TX1) (N := 12) hx hb hts hiw hown hK hP 0 m_at0 rfl 4 (by decide) (hts (.fieldLink RX1 67 "GloveCuttersModel" "pieces" "I") (by decide +kernel)) (fun _ h9 => h9) rfl dX1_piecesOf_6 ?_
      refine nv_icmp_ge (tgt := 36) hx hb (by omega) (by omega) dX1_piecesOf_9 (by decide) (fun c_1 => ?_) (fun c_1 => ?_)
      · refine lv_iload_n hx hb dX1_piecesOf_36 rfl (lv_at hl 2 rfl) ?_
        rw [← hQ]
        exact W.iret (v := nI k) hx hb hr (fun t ht hW => ⟨⟨nI k, (), rfl, (by rw [h2, show i = np by omega]), trivial⟩, hS.F ht⟩) hS.2.2 dX1_piecesOf_37
      · refine lv_iload_n hx hb dX1_piecesOf_12 rfl (lv_at hl 2 rfl) ?_
        refine lv_aload_n hx hb dX1_piecesOf_13 rfl (lv_at hl 0 rfl) ?_
        refine va_get (D := D) (ci := 1) (v := .ref (ad 3)) (C := RX1) (T := TX1) (N := 12) hx hb hts hiw hown hK hP 0 m_at0 rfl 5 (by decide) (hts (.fieldLink RX1 16 "GloveCuttersModel" "skinOf" "[I") (by decide +kernel)) (fun _ h9 => h9) rfl dX1_piecesOf_14 ?_
        refine lv_iload_n hx hb dX1_piecesOf_17 rfl (lv_at hl 3 rfl) ?_
        refine nv_iald hx hb hK hP 3 0 m_at3 rfl (by omega) (by omega) dX1_piecesOf_18 ?_
        refine lv_iload_n hx hb dX1_piecesOf_19 rfl (lv_at hl 1 rfl) ?_
        refine lv_icmp_ne (tgt := 27) hx hb dX1_piecesOf_20 (by decide) (fun c_2 => ?_) (fun c_2 => ?_)
        · refine lv_iconst (v := nI 0) hx hb dX1_piecesOf_27 (by decide) ?_
          refine nv_iadd hx hb dX1_piecesOf_28 ?_
          refine lv_istore_n (lv' := [(2, .int (nI (k + 0))), (0, .ref (ad 0)), (1, .int (nI s0)), (3, .int (nI i))]) hx hb dX1_piecesOf_29 rfl hl (by decide) rfl (fun ls hl => ?_)
          refine lv_iinc (k := 3) (v := nI (i + 1)) (lv' := [(3, .int (nI (i + 1))), (2, .int (nI (k + 0))), (0, .ref (ad 0)), (1, .int (nI s0))]) hx hb dX1_piecesOf_30 hl rfl (nI_add i 1) (by decide) rfl (fun ls hl => ?_)
          refine lv_goto (tgt := 4) hx hb dX1_piecesOf_33 (by decide) ?_
          exact ih4 (k + 0) (i + 1) _ _ _ (by omega) (by omega) (by rw [h2]; exact (cn_f (beq_f c_2)).symm) (by omega) hP hS (lv_sub hl [2, 3, 1, 0] rfl)
        · refine lv_iconst (v := nI 1) hx hb dX1_piecesOf_23 (by decide) ?_
          refine lv_goto (tgt := 28) hx hb dX1_piecesOf_24 (by decide) ?_
          refine nv_iadd hx hb dX1_piecesOf_28 ?_
          refine lv_istore_n (lv' := [(2, .int (nI (k + 1))), (0, .ref (ad 0)), (1, .int (nI s0)), (3, .int (nI i))]) hx hb dX1_piecesOf_29 rfl hl (by decide) rfl (fun ls hl => ?_)
          refine lv_iinc (k := 3) (v := nI (i + 1)) (lv' := [(3, .int (nI (i + 1))), (2, .int (nI (k + 1))), (0, .ref (ad 0)), (1, .int (nI s0))]) hx hb dX1_piecesOf_30 hl rfl (nI_add i 1) (by decide) rfl (fun ls hl => ?_)
          refine lv_goto (tgt := 4) hx hb dX1_piecesOf_33 (by decide) ?_
          exact ih4 (k + 1) (i + 1) _ _ _ (by omega) (by omega) (by rw [h2]; exact (cn_t (beq_t c_2)).symm) (by omega) hP hS (lv_sub hl [2, 3, 1, 0] rfl)
  exact L4 _ 0 0 _ _ _ (Nat.lt_succ_self _) (by omega) rfl (by omega) hP hS (lv_sub hl [2, 3, 1, 0] rfl)
set_option maxHeartbeats 4000000 in
set_option maxRecDepth 100000 in
/-- skinTold -/
theorem c_X1_skinTold (l : Launch) (D : va_G) (cI : ClassId) (ad : Nat → Nat) (th : Int32) (n np nq : Nat) (F : Nat → Nat → Int32) (T : Nat → Int32) (s0 w0 : Nat) (hnp : np ≤ 150) (hpc : ∀ s, s < 10 → F 2 s = nI (cn (fun p => F 4 p == nI s) np)) (hs : s0 < 10) (hw : w0 < 6) : Met l yX1_skinTold wsX1_skinTold ({ frames := 1, cells := 0, slots := 0, locals := 26 } : Room) (va_Pc [.ref (ad 0), .int (nI s0), .int (nI w0)] (Pr D [(cI, .int)] (wM cI ad th n np nq F T) V0)) (va_Qi (S := Unit) (fun (r : Int32) (_ : Unit) => r = skT F s0 w0) (fun _ _ => True) (fun _ => False)) 0 0 (fun _ => False) := by
  refine Met.ofW (cc := cX1_skinTold) (maxL := 3) (ret := (some .int)) (by decide) rfl ?_
  intro p e s m args below meth c s₁ B hml hv
  obtain ⟨hargs, hP, hK, hV⟩ := hv
  have hx := B.exec
  have hb := B.bytes
  have hr := B.returns
  have hts := atoms_spec (ws := wsX1_skinTold) B.pre
  have hown : s.vm.findClass RX1 = some m.cls := findClass_of_methodNamed B.named
  have hlocks := B.notSynchronized
  have hS : va_S (fun _ => False) s.heap s.heap [] := va_S.rf
  have hiw : ∀ w ∈ wsX10, w ∈ wsX1_skinTold := (fun _ h => List.mem_cons_of_mem _ (List.mem_append_right _ h))
  have hRf : 1 ≤ (headSpec wsX1_skinTold ({ frames := 1, cells := 0, slots := 0, locals := 26 } : Room)).room.frames := Nat.le_refl _
  have hRl : 26 ≤ (headSpec wsX1_skinTold ({ frames := 1, cells := 0, slots := 0, locals := 26 } : Room)).room.locals := Nat.le_refl _
  have hRc : 0 ≤ (headSpec wsX1_skinTold ({ frames := 1, cells := 0, slots := 0, locals := 26 } : Room)).room.cells := Nat.le_refl _
  have hRs : 0 ≤ (headSpec wsX1_skinTold ({ frames := 1, cells := 0, slots := 0, locals := 26 } : Room)).room.slots := Nat.le_refl _
  generalize (headSpec wsX1_skinTold ({ frames := 1, cells := 0, slots := 0, locals := 26 } : Room)).room = R at hRf hRl hRc hRs ⊢
  have hl := lv_entry [.ref (ad 0), .int (nI s0), .int (nI w0)] (n := 3) (Nat.le_of_ble_eq_true rfl)
  refine W.eq (show entryFrame m args 3 = _ from by rw [hargs, lg_entry_eq]) ?_
  generalize (lg_sl [.ref (ad 0), .int (nI s0), .int (nI w0)] ++ List.replicate (3 - (lg_sl [.ref (ad 0), .int (nI s0), .int (nI w0)]).length) Slot.unset).toArray = ls at hl ⊢
  have hl : lv_has ls 3 [(0, .ref (ad 0)), (1, .int (nI s0)), (2, .int (nI w0))] := hl
  generalize hQ : MQ _ _ _ _ _ _ _ = Q
  refine lv_iload_n hx hb dX1_skinTold_0 rfl (lv_at hl 2 rfl) ?_
  refine nv_if_ne (tgt := 13) hx hb (by omega) dX1_skinTold_1 (by decide) (fun c_1 => ?_) (fun c_1 => ?_)
  · refine lv_iload_n hx hb dX1_skinTold_13 rfl (lv_at hl 2 rfl) ?_
    refine lv_iconst (v := nI 5) hx hb dX1_skinTold_14 (by decide) ?_
    refine nv_icmp_ne (tgt := 26) hx hb (by omega) (by omega) dX1_skinTold_15 (by decide) (fun c_2 => ?_) (fun c_2 => ?_)
    · refine lv_aload_n hx hb dX1_skinTold_26 rfl (lv_at hl 0 rfl) ?_
      refine va_get (D := D) (ci := 1) (v := .ref (ad 2)) (C := RX1) (T := TX1) (N := 12) hx hb hts hiw hown hK hP 0 m_at0 rfl 3 (by decide) (hts (.fieldLink RX1 13 "GloveCuttersModel" "cells" "[I") (by decide +kernel)) (fun _ h9 => h9) rfl dX1_skinTold_27 ?_
      refine lv_bipush (v := nI 96) hx hb dX1_skinTold_30 (by decide) ?_
      refine lv_iload_n hx hb dX1_skinTold_32 rfl (lv_at hl 1 rfl) ?_
      refine nv_imul hx hb dX1_skinTold_33 ?_
      refine lv_bipush (v := nI 12) hx hb dX1_skinTold_34 (by decide) ?_
      refine lv_bipush (v := nI 8) hx hb dX1_skinTold_36 (by decide) ?_
      refine lv_iload_n hx hb dX1_skinTold_38 rfl (lv_at hl 2 rfl) ?_
      refine lv_iconst (v := nI 1) hx hb dX1_skinTold_39 (by decide) ?_
      refine nv_isub hx hb (by omega) dX1_skinTold_40 ?_
      refine va_calli (va_runS (As := [.ref (ad 2), .int (nI (96 * s0)), .int (nI 12), .int (nI 8), .int (nI (w0 - 1))]) (rest := []) ⟨hx, hb, hml, hown, hts⟩ (c_X1_many l D cI (ad 2) 960 (mCells F) (96 * s0) 12 8 (nI (w0 - 1)) (by omega) (by omega) (by omega) (by omega) (by omega)) (va_cwS 5 hts gX1_skinTold_X1_many rfl rfl rfl (by decide +kernel) ⟨Nat.le_trans (Nat.le_of_ble_eq_true rfl) hRf, Nat.le_trans (Nat.le_of_ble_eq_true rfl) hRl⟩) (pr_S (P_pick hP (k := 2) m_at2) hK [0] rfl V0_at V0_c) rfl rfl hl.1 rfl (lv_room (Nat.le_of_ble_eq_true rfl)) dX1_skinTold_41 ⟨Nat.le_trans (Nat.le_of_ble_eq_true rfl) hRc, Nat.le_trans (Nat.le_of_ble_eq_true rfl) hRs⟩) hS (fun _ _ h => h.elim) (fun _ h => h.elim) (fun r_3 _ t H1 locs ht hvm hw_3 hB hz hk hS => ?_)
      have hP := P_kept hP hk
      obtain rfl := hw_3
      rw [← hQ]
      exact W.iret (v := nI (ct (mCells F) (96 * s0) 12 (nI (w0 - 1)) (12 * 8))) hx hb hr (fun t ht hW => ⟨⟨nI (ct (mCells F) (96 * s0) 12 (nI (w0 - 1)) (12 * 8)), (), rfl, (by rcases (show w0 = 1 ∨ w0 = 2 ∨ w0 = 3 ∨ w0 = 4 by omega) with rfl | rfl | rfl | rfl <;> (rw [tSM]; rfl)), trivial⟩, hS.F ht⟩) hS.2.2 dX1_skinTold_44
    · refine lv_aload_n hx hb dX1_skinTold_18 rfl (lv_at hl 0 rfl) ?_
      refine lv_iload_n hx hb dX1_skinTold_19 rfl (lv_at hl 1 rfl) ?_
      refine va_calli (va_runV (As := [.int (nI s0)]) (rest := []) ⟨hx, hb, hml, hown, hts⟩ (c_X1_piecesOf l D cI ad th n np nq F T s0 hnp) (cwV 1 hts gX1_skinTold_X1_piecesOf rfl rfl rfl (by decide +kernel) ⟨Nat.le_trans (Nat.le_of_ble_eq_true rfl) hRf, Nat.le_trans (Nat.le_of_ble_eq_true rfl) hRl⟩) (pr_V hP (ci := 1) (q0 := 0) rfl m_at0 rfl hP hK [0] rfl V0_at V0_c) rfl rfl hl.1 rfl (lv_room (Nat.le_of_ble_eq_true rfl)) dX1_skinTold_20 ⟨Nat.le_trans (Nat.le_of_ble_eq_true rfl) hRc, Nat.le_trans (Nat.le_of_ble_eq_true rfl) hRs⟩) hS (fun _ _ h => h.elim) (fun _ h => h.elim) (fun r_4 _ t H1 locs ht hvm hw_4 hB hz hk hS => ?_)
      have hP := P_kept hP hk
      obtain rfl := hw_4
      refine lv_goto (tgt := 44) hx hb dX1_skinTold_23 (by decide) ?_
      rw [← hQ]
      exact W.iret (v := nI (cn (fun p => F 4 p == nI s0) np)) hx hb hr (fun t ht hW => ⟨⟨nI (cn (fun p => F 4 p == nI s0) np), (), rfl, (by rw [c_2]; exact (hpc s0 hs).symm), trivial⟩, hS.F ht⟩) hS.2.2 dX1_skinTold_44
  · refine lv_aload_n hx hb dX1_skinTold_4 rfl (lv_at hl 0 rfl) ?_
    refine va_get (D := D) (ci := 1) (v := .ref (ad 1)) (C := RX1) (T := TX1) (N := 12) hx hb hts hiw hown hK hP 0 m_at0 rfl 2 (by decide) (hts (.fieldLink RX1 9 "GloveCuttersModel" "colour" "[I") (by decide +kernel)) (fun _ h9 => h9) rfl dX1_skinTold_5 ?_
    refine lv_iload_n hx hb dX1_skinTold_8 rfl (lv_at hl 1 rfl) ?_
    refine nv_iald hx hb hK hP 1 0 m_at1 rfl (by omega) (by omega) dX1_skinTold_9 ?_
    refine lv_goto (tgt := 44) hx hb dX1_skinTold_10 (by decide) ?_
    rw [← hQ]
    exact W.iret (v := F 1 s0) hx hb hr (fun t ht hW => ⟨⟨F 1 s0, (), rfl, (by rw [c_1]; rfl), trivial⟩, hS.F ht⟩) hS.2.2 dX1_skinTold_44
set_option maxHeartbeats 4000000 in
set_option maxRecDepth 100000 in
/-- wideOf -/
theorem c_X1_wideOf (l : Launch) (D : va_G) (kd : Nat) (tb : Bool) (hkd : kd < 4) : Met l yX1_wideOf wsX1_wideOf ({ frames := 0, cells := 0, slots := 0, locals := 0 } : Room) (va_Pc [.int (nI kd), .int (bI tb)] (Pr D [] [] (EnvM (fun _ => False)))) (va_Qi (S := Unit) (fun (r : Int32) (_ : Unit) => r = nI (wd kd tb)) (fun _ _ => True) (fun _ => False)) 0 0 (fun _ => False) := by
  refine Met.ofW (cc := cX1_wideOf) (maxL := 2) (ret := (some .int)) (by decide) rfl ?_
  intro p e s m args below meth c s₁ B hml hv
  obtain ⟨hargs, hP, hK, hV⟩ := hv
  have hx := B.exec
  have hb := B.bytes
  have hr := B.returns
  have hts := atoms_spec (ws := wsX1_wideOf) B.pre
  have hown : s.vm.findClass RX1 = some m.cls := findClass_of_methodNamed B.named
  have hlocks := B.notSynchronized
  have hS : va_S (fun _ => False) s.heap s.heap [] := va_S.rf
  have hV0 : EnvM (fun _ => False) s := EnvM.nar hV sub_no
  have hRf : 0 ≤ (headSpec wsX1_wideOf ({ frames := 0, cells := 0, slots := 0, locals := 0 } : Room)).room.frames := Nat.le_refl _
  have hRl : 0 ≤ (headSpec wsX1_wideOf ({ frames := 0, cells := 0, slots := 0, locals := 0 } : Room)).room.locals := Nat.le_refl _
  have hRc : 0 ≤ (headSpec wsX1_wideOf ({ frames := 0, cells := 0, slots := 0, locals := 0 } : Room)).room.cells := Nat.le_refl _
  have hRs : 0 ≤ (headSpec wsX1_wideOf ({ frames := 0, cells := 0, slots := 0, locals := 0 } : Room)).room.slots := Nat.le_refl _
  generalize (headSpec wsX1_wideOf ({ frames := 0, cells := 0, slots := 0, locals := 0 } : Room)).room = R at hRf hRl hRc hRs ⊢
  have hl := lv_entry [.int (nI kd), .int (bI tb)] (n := 2) (Nat.le_of_ble_eq_true rfl)
  refine W.eq (show entryFrame m args 2 = _ from by rw [hargs, lg_entry_eq]) ?_
  generalize (lg_sl [.int (nI kd), .int (bI tb)] ++ List.replicate (2 - (lg_sl [.int (nI kd), .int (bI tb)]).length) Slot.unset).toArray = ls at hl ⊢
  have hl : lv_has ls 2 [(0, .int (nI kd)), (1, .int (bI tb))] := hl
  generalize hQ : MQ _ _ _ _ _ _ _ = Q
  refine lv_iload_n hx hb dX1_wideOf_0 rfl (lv_at hl 1 rfl) ?_
  refine nb_if_eq (tgt := 12) hx hb dX1_wideOf_1 (by decide) (fun c_1 => ?_) (fun c_1 => ?_)
  · obtain ⟨tb_ACROSS, hACROSSZ, hACROSST⟩ := hV0.1
    refine va_gets hx hb hACROSSZ hS hown (hts (.fieldLink RX1 80 "GloveCuttersModel" "ACROSS" "[I") (by decide +kernel)) (fun _ h9 => h9) dX1_wideOf_12 ?_
    refine lv_iload_n hx hb dX1_wideOf_15 rfl (lv_at hl 0 rfl) ?_
    refine nv_tab hx hb hACROSST hS (by omega) dX1_wideOf_16 ?_
    rw [← hQ]
    exact W.iret (v := nI (kW kd)) hx hb hr (fun t ht hW => ⟨⟨nI (kW kd), (), rfl, (by rw [c_1]; rfl), trivial⟩, hS.F ht⟩) hS.2.2 dX1_wideOf_17
  · obtain ⟨tb_DOWN, hDOWNZ, hDOWNT⟩ := hV0.2.1
    refine va_gets hx hb hDOWNZ hS hown (hts (.fieldLink RX1 77 "GloveCuttersModel" "DOWN" "[I") (by decide +kernel)) (fun _ h9 => h9) dX1_wideOf_4 ?_
    refine lv_iload_n hx hb dX1_wideOf_7 rfl (lv_at hl 0 rfl) ?_
    refine nv_tab hx hb hDOWNT hS (by omega) dX1_wideOf_8 ?_
    refine lv_goto (tgt := 17) hx hb dX1_wideOf_9 (by decide) ?_
    rw [← hQ]
    exact W.iret (v := nI (kH kd)) hx hb hr (fun t ht hW => ⟨⟨nI (kH kd), (), rfl, (by rw [c_1]; rfl), trivial⟩, hS.F ht⟩) hS.2.2 dX1_wideOf_17
set_option maxHeartbeats 4000000 in
set_option maxRecDepth 100000 in
/-- highOf -/
theorem c_X1_highOf (l : Launch) (D : va_G) (kd : Nat) (tb : Bool) (hkd : kd < 4) : Met l yX1_highOf wsX1_highOf ({ frames := 0, cells := 0, slots := 0, locals := 0 } : Room) (va_Pc [.int (nI kd), .int (bI tb)] (Pr D [] [] (EnvM (fun _ => False)))) (va_Qi (S := Unit) (fun (r : Int32) (_ : Unit) => r = nI (hg kd tb)) (fun _ _ => True) (fun _ => False)) 0 0 (fun _ => False) := by
  refine Met.ofW (cc := cX1_highOf) (maxL := 2) (ret := (some .int)) (by decide) rfl ?_
  intro p e s m args below meth c s₁ B hml hv
  obtain ⟨hargs, hP, hK, hV⟩ := hv
  have hx := B.exec
  have hb := B.bytes
  have hr := B.returns
  have hts := atoms_spec (ws := wsX1_highOf) B.pre
  have hown : s.vm.findClass RX1 = some m.cls := findClass_of_methodNamed B.named
  have hlocks := B.notSynchronized
  have hS : va_S (fun _ => False) s.heap s.heap [] := va_S.rf
  have hV0 : EnvM (fun _ => False) s := EnvM.nar hV sub_no
  have hRf : 0 ≤ (headSpec wsX1_highOf ({ frames := 0, cells := 0, slots := 0, locals := 0 } : Room)).room.frames := Nat.le_refl _
  have hRl : 0 ≤ (headSpec wsX1_highOf ({ frames := 0, cells := 0, slots := 0, locals := 0 } : Room)).room.locals := Nat.le_refl _
  have hRc : 0 ≤ (headSpec wsX1_highOf ({ frames := 0, cells := 0, slots := 0, locals := 0 } : Room)).room.cells := Nat.le_refl _
  have hRs : 0 ≤ (headSpec wsX1_highOf ({ frames := 0, cells := 0, slots := 0, locals := 0 } : Room)).room.slots := Nat.le_refl _
  generalize (headSpec wsX1_highOf ({ frames := 0, cells := 0, slots := 0, locals := 0 } : Room)).room = R at hRf hRl hRc hRs ⊢
  have hl := lv_entry [.int (nI kd), .int (bI tb)] (n := 2) (Nat.le_of_ble_eq_true rfl)
  refine W.eq (show entryFrame m args 2 = _ from by rw [hargs, lg_entry_eq]) ?_
  generalize (lg_sl [.int (nI kd), .int (bI tb)] ++ List.replicate (2 - (lg_sl [.int (nI kd), .int (bI tb)]).length) Slot.unset).toArray = ls at hl ⊢
  have hl : lv_has ls 2 [(0, .int (nI kd)), (1, .int (bI tb))] := hl
  generalize hQ : MQ _ _ _ _ _ _ _ = Q
  refine lv_iload_n hx hb dX1_highOf_0 rfl (lv_at hl 1 rfl) ?_
  refine nb_if_eq (tgt := 12) hx hb dX1_highOf_1 (by decide) (fun c_1 => ?_) (fun c_1 => ?_)
  · obtain ⟨tb_DOWN, hDOWNZ, hDOWNT⟩ := hV0.2.1
    refine va_gets hx hb hDOWNZ hS hown (hts (.fieldLink RX1 77 "GloveCuttersModel" "DOWN" "[I") (by decide +kernel)) (fun _ h9 => h9) dX1_highOf_12 ?_
    refine lv_iload_n hx hb dX1_highOf_15 rfl (lv_at hl 0 rfl) ?_
    refine nv_tab hx hb hDOWNT hS (by omega) dX1_highOf_16 ?_
    rw [← hQ]
    exact W.iret (v := nI (kH kd)) hx hb hr (fun t ht hW => ⟨⟨nI (kH kd), (), rfl, (by rw [c_1]; rfl), trivial⟩, hS.F ht⟩) hS.2.2 dX1_highOf_17
  · obtain ⟨tb_ACROSS, hACROSSZ, hACROSST⟩ := hV0.1
    refine va_gets hx hb hACROSSZ hS hown (hts (.fieldLink RX1 80 "GloveCuttersModel" "ACROSS" "[I") (by decide +kernel)) (fun _ h9 => h9) dX1_highOf_4 ?_
    refine lv_iload_n hx hb dX1_highOf_7 rfl (lv_at hl 0 rfl) ?_
    refine nv_tab hx hb hACROSST hS (by omega) dX1_highOf_8 ?_
    refine lv_goto (tgt := 17) hx hb dX1_highOf_9 (by decide) ?_
    rw [← hQ]
    exact W.iret (v := nI (kW kd)) hx hb hr (fun t ht hW => ⟨⟨nI (kW kd), (), rfl, (by rw [c_1]; rfl), trivial⟩, hS.F ht⟩) hS.2.2 dX1_highOf_17
set_option maxHeartbeats 4000000 in
set_option maxRecDepth 100000 in
/-- can -/
theorem c_X1_can (l : Launch) (D : va_G) (cI : ClassId) (a n : Nat) (f : Nat → Int32) (b0 kd : Nat) (tb : Bool) (p0 : Nat) (hkd : kd < 4) (hp0 : p0 < 96) (hb9 : b0 + 96 ≤ n) (hn9 : n ≤ 960) (hsm : small (fun q => f (b0 + q)) 96) : Met l yX1_can wsX1_can ({ frames := 1, cells := 0, slots := 0, locals := 26 } : Room) (va_Pc [.ref a, .int (nI b0), .int (nI kd), .int (bI tb), .int (nI p0)] (Pr D [(cI, .int)] [(a, .inl (cI, n, .inl f))] (EnvM (fun _ => False)))) (va_Qi (S := Unit) (fun (r : Int32) (_ : Unit) => r = bI (fitA (fun q => f (b0 + q)) kd tb p0)) (fun _ _ => True) (fun _ => False)) 0 0 (fun _ => False) := by
  refine Met.ofW (cc := cX1_can) (maxL := 9) (ret := (some .boolean)) (by decide) rfl ?_
  intro p e s m args below meth c s₁ B hml hv
  obtain ⟨hargs, hP, hK, hV⟩ := hv
  have hx := B.exec
  have hb := B.bytes
  have hr := B.returns
  have hts := atoms_spec (ws := wsX1_can) B.pre
  have hown : s.vm.findClass RX1 = some m.cls := findClass_of_methodNamed B.named
  have hlocks := B.notSynchronized
  have hS : va_S (fun _ => False) s.heap s.heap [] := va_S.rf
  have hV0 : EnvM (fun _ => False) s := EnvM.nar hV sub_no
  have hRf : 1 ≤ (headSpec wsX1_can ({ frames := 1, cells := 0, slots := 0, locals := 26 } : Room)).room.frames := Nat.le_refl _
  have hRl : 26 ≤ (headSpec wsX1_can ({ frames := 1, cells := 0, slots := 0, locals := 26 } : Room)).room.locals := Nat.le_refl _
  have hRc : 0 ≤ (headSpec wsX1_can ({ frames := 1, cells := 0, slots := 0, locals := 26 } : Room)).room.cells := Nat.le_refl _
  have hRs : 0 ≤ (headSpec wsX1_can ({ frames := 1, cells := 0, slots := 0, locals := 26 } : Room)).room.slots := Nat.le_refl _
  generalize (headSpec wsX1_can ({ frames := 1, cells := 0, slots := 0, locals := 26 } : Room)).room = R at hRf hRl hRc hRs ⊢
  have hl := lv_entry [.ref a, .int (nI b0), .int (nI kd), .int (bI tb), .int (nI p0)] (n := 9) (Nat.le_of_ble_eq_true rfl)
  refine W.eq (show entryFrame m args 9 = _ from by rw [hargs, lg_entry_eq]) ?_
  generalize (lg_sl [.ref a, .int (nI b0), .int (nI kd), .int (bI tb), .int (nI p0)] ++ List.replicate (9 - (lg_sl [.ref a, .int (nI b0), .int (nI kd), .int (bI tb), .int (nI p0)]).length) Slot.unset).toArray = ls at hl ⊢
  have hl : lv_has ls 9 [(0, .ref a), (1, .int (nI b0)), (2, .int (nI kd)), (3, .int (bI tb)), (4, .int (nI p0))] := hl
  generalize hQ : MQ _ _ _ _ _ _ _ = Q
  have hw9 := wd_le kd tb
  have hh9 := hg_le kd tb
  have hq1 := ct_le f (b0 + p0) (wd kd tb) (nI 1) (wd kd tb * hg kd tb)
  have hq0 := ct_le f (b0 + p0) (wd kd tb) (nI 0) (wd kd tb * hg kd tb)
  have hq2 : wd kd tb * hg kd tb ≤ 16 := Nat.mul_le_mul hw9.1 hh9.1
  refine lv_iload_n hx hb dX1_can_0 rfl (lv_at hl 2 rfl) ?_
  refine lv_iload_n hx hb dX1_can_1 rfl (lv_at hl 3 rfl) ?_
  refine va_calli (va_runS (As := [.int (nI kd), .int (bI tb)]) (rest := []) ⟨hx, hb, hml, hown, hts⟩ (c_X1_wideOf l D kd tb hkd) (va_cwS 2 hts gX1_can_X1_wideOf rfl rfl rfl (by decide +kernel) ⟨Nat.le_trans (Nat.le_of_ble_eq_true rfl) hRf, Nat.le_trans (Nat.le_of_ble_eq_true rfl) hRl⟩) (pr_S (P_nil) hK [] rfl (hV0.at hS sub_id sub_id) EnvM_c) rfl rfl hl.1 rfl (lv_room (Nat.le_of_ble_eq_true rfl)) dX1_can_2 ⟨Nat.le_trans (Nat.le_of_ble_eq_true rfl) hRc, Nat.le_trans (Nat.le_of_ble_eq_true rfl) hRs⟩) hS (fun _ _ h => h.elim) (fun _ h => h.elim) (fun r_1 _ t H1 locs ht hvm hw_1 hB hz hk hS => ?_)
  have hP := P_kept hP hk
  obtain rfl := hw_1
  refine lv_istore (lv' := [(5, .int (nI (wd kd tb))), (0, .ref a), (1, .int (nI b0)), (2, .int (nI kd)), (3, .int (bI tb)), (4, .int (nI p0))]) hx hb dX1_can_5 hl (by decide) rfl (fun ls hl => ?_)
  refine lv_iload_n hx hb dX1_can_7 rfl (lv_at hl 3 rfl) ?_
  refine lv_iload_n hx hb dX1_can_8 rfl (lv_at hl 4 rfl) ?_
  refine va_calli (va_runS (As := [.int (nI kd), .int (bI tb)]) (rest := []) ⟨hx, hb, hml, hown, hts⟩ (c_X1_highOf l D kd tb hkd) (va_cwS 2 hts gX1_can_X1_highOf rfl rfl rfl (by decide +kernel) ⟨Nat.le_trans (Nat.le_of_ble_eq_true rfl) hRf, Nat.le_trans (Nat.le_of_ble_eq_true rfl) hRl⟩) (pr_S (P_nil) hK [] rfl (hV0.at hS sub_id sub_id) EnvM_c) rfl rfl hl.1 rfl (lv_room (Nat.le_of_ble_eq_true rfl)) dX1_can_9 ⟨Nat.le_trans (Nat.le_of_ble_eq_true rfl) hRc, Nat.le_trans (Nat.le_of_ble_eq_true rfl) hRs⟩) hS (fun _ _ h => h.elim) (fun _ h => h.elim) (fun r_2 _ t H1 locs ht hvm hw_2 hB hz hk hS => ?_)
  have hP := P_kept hP hk
  obtain rfl := hw_2
  refine lv_istore (lv' := [(6, .int (nI (hg kd tb))), (5, .int (nI (wd kd tb))), (0, .ref a), (1, .int (nI b0)), (2, .int (nI kd)), (3, .int (bI tb)), (4, .int (nI p0))]) hx hb dX1_can_12 hl (by decide) rfl (fun ls hl => ?_)
  refine lv_iload hx hb dX1_can_14 (lv_at hl 6 rfl) ?_
  refine lv_bipush (v := nI 12) hx hb dX1_can_16 (by decide) ?_
  refine nv_irem hx hb (by omega) (by omega) (by omega) dX1_can_18 ?_
  refine lv_iload hx hb dX1_can_19 (lv_at hl 1 rfl) ?_
  refine nv_iadd hx hb dX1_can_21 ?_
  refine lv_bipush (v := nI 12) hx hb dX1_can_22 (by decide) ?_
  refine nv_icmp_gt (tgt := 40) hx hb (by omega) (by omega) dX1_can_24 (by decide) (fun c_3 => ?_) (fun c_3 => ?_)
  · refine lv_iconst (v := nI 0) hx hb dX1_can_40 (by decide) ?_
    rw [← hQ]
    exact W.zret (v := nI 0) hx hb hr rfl (fun t ht hW => ⟨⟨nI 0, (), rfl, (by rw [fitM_no (by omega)]; rfl), trivial⟩, hS.F ht⟩) hS.2.2 dX1_can_41
  · refine lv_iload hx hb dX1_can_27 (lv_at hl 6 rfl) ?_
    refine lv_bipush (v := nI 12) hx hb dX1_can_29 (by decide) ?_
    refine nv_idiv hx hb (by omega) (by omega) (by omega) dX1_can_31 ?_
    refine lv_iload hx hb dX1_can_32 (lv_at hl 0 rfl) ?_
    refine nv_iadd hx hb dX1_can_34 ?_
    refine lv_bipush (v := nI 8) hx hb dX1_can_35 (by decide) ?_
    refine nv_icmp_le (tgt := 42) hx hb (by omega) (by omega) dX1_can_37 (by decide) (fun c_4 => ?_) (fun c_4 => ?_)
    · refine lv_iload_n hx hb dX1_can_42 rfl (lv_at hl 3 rfl) ?_
      refine lv_iload hx hb dX1_can_43 (lv_at hl 6 rfl) ?_
      refine nv_iadd hx hb dX1_can_45 ?_
      refine lv_istore (lv' := [(7, .int (nI (b0 + p0))), (6, .int (nI (hg kd tb))), (5, .int (nI (wd kd tb))), (0, .ref a), (1, .int (nI b0)), (2, .int (nI kd)), (3, .int (bI tb)), (4, .int (nI p0))]) hx hb dX1_can_46 hl (by decide) rfl (fun ls hl => ?_)
      refine lv_aload_n hx hb dX1_can_48 rfl (lv_at hl 3 rfl) ?_
      refine lv_iload hx hb dX1_can_49 (lv_at hl 0 rfl) ?_
      refine lv_iload hx hb dX1_can_51 (lv_at hl 2 rfl) ?_
      refine lv_iload hx hb dX1_can_53 (lv_at hl 1 rfl) ?_
      refine lv_iconst (v := nI 1) hx hb dX1_can_55 (by decide) ?_
      refine va_calli (va_runS (As := [.ref a, .int (nI (b0 + p0)), .int (nI (wd kd tb)), .int (nI (hg kd tb)), .int (nI 1)]) (rest := []) ⟨hx, hb, hml, hown, hts⟩ (c_X1_many l D cI a n f (b0 + p0) (wd kd tb) (hg kd tb) (nI 1) (by omega) (by omega) (by omega) (by omega) hn9) (va_cwS 5 hts gX1_can_X1_many rfl rfl rfl (by decide +kernel) ⟨Nat.le_trans (Nat.le_of_ble_eq_true rfl) hRf, Nat.le_trans (Nat.le_of_ble_eq_true rfl) hRl⟩) (pr_S (P_pick hP (k := 0) rfl) hK [0] rfl V0_at V0_c) rfl rfl hl.1 rfl (lv_room (Nat.le_of_ble_eq_true rfl)) dX1_can_56 ⟨Nat.le_trans (Nat.le_of_ble_eq_true rfl) hRc, Nat.le_trans (Nat.le_of_ble_eq_true rfl) hRs⟩) hS (fun _ _ h => h.elim) (fun _ h => h.elim) (fun r_5 _ t H1 locs ht hvm hw_5 hB hz hk hS => ?_)
      have hP := P_kept hP hk
      obtain rfl := hw_5
      refine lv_istore (lv' := [(8, .int (nI (ct f (b0 + p0) (wd kd tb) (nI 1) ((wd kd tb) * (hg kd tb))))), (7, .int (nI (b0 + p0))), (6, .int (nI (hg kd tb))), (5, .int (nI (wd kd tb))), (0, .ref a), (1, .int (nI b0)), (2, .int (nI kd)), (3, .int (bI tb)), (4, .int (nI p0))]) hx hb dX1_can_59 hl (by decide) rfl (fun ls hl => ?_)
      refine lv_aload_n hx hb dX1_can_61 rfl (lv_at hl 4 rfl) ?_
      refine lv_iload hx hb dX1_can_62 (lv_at hl 1 rfl) ?_
      refine lv_iload hx hb dX1_can_64 (lv_at hl 3 rfl) ?_
      refine lv_iload hx hb dX1_can_66 (lv_at hl 2 rfl) ?_
      refine lv_iconst (v := nI 0) hx hb dX1_can_68 (by decide) ?_
      refine va_calli (va_runS (As := [.ref a, .int (nI (b0 + p0)), .int (nI (wd kd tb)), .int (nI (hg kd tb)), .int (nI 0)]) (rest := []) ⟨hx, hb, hml, hown, hts⟩ (c_X1_many l D cI a n f (b0 + p0) (wd kd tb) (hg kd tb) (nI 0) (by omega) (by omega) (by omega) (by omega) hn9) (va_cwS 5 hts gX1_can_X1_many rfl rfl rfl (by decide +kernel) ⟨Nat.le_trans (Nat.le_of_ble_eq_true rfl) hRf, Nat.le_trans (Nat.le_of_ble_eq_true rfl) hRl⟩) (pr_S (P_pick hP (k := 0) rfl) hK [0] rfl V0_at V0_c) rfl rfl hl.1 rfl (lv_room (Nat.le_of_ble_eq_true rfl)) dX1_can_69 ⟨Nat.le_trans (Nat.le_of_ble_eq_true rfl) hRc, Nat.le_trans (Nat.le_of_ble_eq_true rfl) hRs⟩) hS (fun _ _ h => h.elim) (fun _ h => h.elim) (fun r_6 _ t H1 locs ht hvm hw_6 hB hz hk hS => ?_)
      have hP := P_kept hP hk
      obtain rfl := hw_6
      refine lv_iload hx hb dX1_can_72 (lv_at hl 0 rfl) ?_
      refine nv_iadd hx hb dX1_can_74 ?_
      refine lv_iload hx hb dX1_can_75 (lv_at hl 3 rfl) ?_
      refine lv_iload hx hb dX1_can_77 (lv_at hl 2 rfl) ?_
      refine nv_imul hx hb dX1_can_79 ?_
      refine nv_icmp_ge (tgt := 85) hx hb (by omega) (by omega) dX1_can_80 (by decide) (fun c_7 => ?_) (fun c_7 => ?_)
      · refine lv_iload_n hx hb dX1_can_85 rfl (lv_at hl 6 rfl) ?_
        refine lv_iconst (v := nI 3) hx hb dX1_can_86 (by decide) ?_
        refine nv_icmp_eq (tgt := 104) hx hb (by omega) (by omega) dX1_can_87 (by decide) (fun c_8 => ?_) (fun c_8 => ?_)
        · refine lv_iconst (v := nI 1) hx hb dX1_can_104 (by decide) ?_
          refine lv_goto (tgt := 109) hx hb dX1_can_105 (by decide) ?_
          rw [← hQ]
          exact W.zret (v := nI 1) hx hb hr rfl (fun t ht hW => ⟨⟨nI 1, (), rfl, (by rw [fitM_y (by omega) hsm, decide_eq_true (by subst c_8; have h9 : wd 3 tb * hg 3 tb = 1 := (by cases tb <;> rfl); have h8 : kT 3 = 1 := rfl; omega)]; rfl), trivial⟩, hS.F ht⟩) hS.2.2 dX1_can_109
        · refine lv_iload hx hb dX1_can_90 (lv_at hl 0 rfl) ?_
          refine lv_iload_n hx hb dX1_can_92 rfl (lv_at hl 6 rfl) ?_
          refine nv_if_ne (tgt := 100) hx hb (by omega) dX1_can_93 (by decide) (fun c_9 => ?_) (fun c_9 => ?_)
          · refine lv_iconst (v := nI 1) hx hb dX1_can_100 (by decide) ?_
            refine nv_icmp_gt (tgt := 108) hx hb (by omega) (by omega) dX1_can_101 (by decide) (fun c_10 => ?_) (fun c_10 => ?_)
            · refine lv_iconst (v := nI 0) hx hb dX1_can_108 (by decide) ?_
              rw [← hQ]
              exact W.zret (v := nI 0) hx hb hr rfl (fun t ht hW => ⟨⟨nI 0, (), rfl, (by rw [fitM_y (by omega) hsm, decide_eq_false (by have h8 : kT kd = 1 := (by unfold kT; rw [if_neg (by omega)]); omega)]; rfl), trivial⟩, hS.F ht⟩) hS.2.2 dX1_can_109
            · refine lv_iconst (v := nI 1) hx hb dX1_can_104 (by decide) ?_
              refine lv_goto (tgt := 109) hx hb dX1_can_105 (by decide) ?_
              rw [← hQ]
              exact W.zret (v := nI 1) hx hb hr rfl (fun t ht hW => ⟨⟨nI 1, (), rfl, (by rw [fitM_y (by omega) hsm, decide_eq_true (by have h8 : kT kd = 1 := (by unfold kT; rw [if_neg (by omega)]); omega)]; rfl), trivial⟩, hS.F ht⟩) hS.2.2 dX1_can_109
          · refine lv_iconst (v := nI 0) hx hb dX1_can_96 (by decide) ?_
            refine lv_goto (tgt := 101) hx hb dX1_can_97 (by decide) ?_
            refine nv_icmp_gt (tgt := 108) hx hb (by omega) (by omega) dX1_can_101 (by decide) (fun c_11 => ?_) (fun c_11 => ?_)
            · refine lv_iconst (v := nI 0) hx hb dX1_can_108 (by decide) ?_
              rw [← hQ]
              exact W.zret (v := nI 0) hx hb hr rfl (fun t ht hW => ⟨⟨nI 0, (), rfl, (by rw [fitM_y (by omega) hsm, decide_eq_false (by have h8 : kT kd = 0 := (by unfold kT; rw [if_pos c_9]); omega)]; rfl), trivial⟩, hS.F ht⟩) hS.2.2 dX1_can_109
            · refine lv_iconst (v := nI 1) hx hb dX1_can_104 (by decide) ?_
              refine lv_goto (tgt := 109) hx hb dX1_can_105 (by decide) ?_
              rw [← hQ]
              exact W.zret (v := nI 1) hx hb hr rfl (fun t ht hW => ⟨⟨nI 1, (), rfl, (by rw [fitM_y (by omega) hsm, decide_eq_true (by have h8 : kT kd = 0 := (by unfold kT; rw [if_pos c_9]); omega)]; rfl), trivial⟩, hS.F ht⟩) hS.2.2 dX1_can_109
      · refine lv_iconst (v := nI 0) hx hb dX1_can_83 (by decide) ?_
        rw [← hQ]
        exact W.zret (v := nI 0) hx hb hr rfl (fun t ht hW => ⟨⟨nI 0, (), rfl, (by rw [fitM_y (by omega) hsm, decide_eq_false (by omega)]; rfl), trivial⟩, hS.F ht⟩) hS.2.2 dX1_can_84
    · refine lv_iconst (v := nI 0) hx hb dX1_can_40 (by decide) ?_
      rw [← hQ]
      exact W.zret (v := nI 0) hx hb hr rfl (fun t ht hW => ⟨⟨nI 0, (), rfl, (by rw [fitM_no (by omega)]; rfl), trivial⟩, hS.F ht⟩) hS.2.2 dX1_can_41
set_option maxHeartbeats 4000000 in
set_option maxRecDepth 100000 in
/-- first -/
theorem c_X1_first (l : Launch) (D : va_G) (cI : ClassId) (a n : Nat) (f : Nat → Int32) (b0 kd : Nat) (tb : Bool) (hkd : kd < 4) (hb9 : b0 + 96 ≤ n) (hn9 : n ≤ 960) (hsm : small (fun q => f (b0 + q)) 96) : Met l yX1_first wsX1_first ({ frames := 2, cells := 0, slots := 0, locals := 54 } : Room) (va_Pc [.ref a, .int (nI b0), .int (nI kd), .int (bI tb)] (Pr D [(cI, .int)] [(a, .inl (cI, n, .inl f))] (EnvM (fun _ => False)))) (va_Qi (S := Unit) (fun (r : Int32) (_ : Unit) => r = fI (fitA (fun q => f (b0 + q)) kd tb) 0 (96 - 0)) (fun _ _ => True) (fun _ => False)) 0 0 (fun _ => False) := by
  refine Met.ofW (cc := cX1_first) (maxL := 5) (ret := (some .int)) (by decide) rfl ?_
  intro p e s m args below meth c s₁ B hml hv
  obtain ⟨hargs, hP, hK, hV⟩ := hv
  have hx := B.exec
  have hb := B.bytes
  have hr := B.returns
  have hts := atoms_spec (ws := wsX1_first) B.pre
  have hown : s.vm.findClass RX1 = some m.cls := findClass_of_methodNamed B.named
  have hlocks := B.notSynchronized
  have hS : va_S (fun _ => False) s.heap s.heap [] := va_S.rf
  have hV0 : EnvM (fun _ => False) s := EnvM.nar hV sub_no
  have hRf : 2 ≤ (headSpec wsX1_first ({ frames := 2, cells := 0, slots := 0, locals := 54 } : Room)).room.frames := Nat.le_refl _
  have hRl : 54 ≤ (headSpec wsX1_first ({ frames := 2, cells := 0, slots := 0, locals := 54 } : Room)).room.locals := Nat.le_refl _
  have hRc : 0 ≤ (headSpec wsX1_first ({ frames := 2, cells := 0, slots := 0, locals := 54 } : Room)).room.cells := Nat.le_refl _
  have hRs : 0 ≤ (headSpec wsX1_first ({ frames := 2, cells := 0, slots := 0, locals := 54 } : Room)).room.slots := Nat.le_refl _
  generalize (headSpec wsX1_first ({ frames := 2, cells := 0, slots := 0, locals := 54 } : Room)).room = R at hRf hRl hRc hRs ⊢
  have hl := lv_entry [.ref a, .int (nI b0), .int (nI kd), .int (bI tb)] (n := 5) (Nat.le_of_ble_eq_true rfl)
  refine W.eq (show entryFrame m args 5 = _ from by rw [hargs, lg_entry_eq]) ?_
  generalize (lg_sl [.ref a, .int (nI b0), .int (nI kd), .int (bI tb)] ++ List.replicate (5 - (lg_sl [.ref a, .int (nI b0), .int (nI kd), .int (bI tb)]).length) Slot.unset).toArray = ls at hl ⊢
  have hl : lv_has ls 5 [(0, .ref a), (1, .int (nI b0)), (2, .int (nI kd)), (3, .int (bI tb))] := hl
  generalize hQ : MQ _ _ _ _ _ _ _ = Q
  refine lv_iconst (v := nI 0) hx hb dX1_first_0 (by decide) ?_
  refine lv_istore (lv' := [(4, .int (nI 0)), (0, .ref a), (1, .int (nI b0)), (2, .int (nI kd)), (3, .int (bI tb))]) hx hb dX1_first_1 hl (by decide) rfl (fun ls hl => ?_)
  have L3 : ∀ (fu : Nat) (i : Nat) (H : Heap) (locs : List Loc) (ls : Array Slot), 96 - i < fu → (i ≤ 96) → (fI (fitA (fun q => f (b0 + q)) kd tb) 0 (96 - 0) = fI (fitA (fun q => f (b0 + q)) kd tb) i (96 - i)) → va_P D vwCl [(a, .inl (cI, n, .inl f))] H → va_S (fun _ => False) s.heap H locs → lv_has ls 5 [(0, .ref a), (1, .int (nI b0)), (2, .int (nI kd)), (3, .int (bI tb)), (4, .int (nI i))] → W p l e R s m args below meth c H locs 0 0 Q (F0 m 3 ls []) := by
    intro fu
    induction fu with
    | zero => intro _ _ _ _ h; exact absurd h (Nat.not_lt_zero _)
    | succ fu ih3 =>
      intro i H locs ls hm3 h1 h2 hP  hS hl
      refine lv_iload hx hb dX1_first_3 (lv_at hl 4 rfl) ?_
      refine lv_bipush (v := nI 96) hx hb dX1_first_5 (by decide) ?_
      refine nv_icmp_ge (tgt := 31) hx hb (by omega) (by omega) dX1_first_7 (by decide) (fun c_1 => ?_) (fun c_1 => ?_)
      · refine lv_iconst (v := -1) hx hb dX1_first_31 (by decide) ?_
        rw [← hQ]
        exact W.iret (v := (-1)) hx hb hr (fun t ht hW => ⟨⟨(-1), (), rfl, (h2.trans (fI_e (by omega))).symm, trivial⟩, hS.F ht⟩) hS.2.2 dX1_first_32
      · refine lv_aload_n hx hb dX1_first_10 rfl (lv_at hl 0 rfl) ?_
        refine lv_iload_n hx hb dX1_first_11 rfl (lv_at hl 1 rfl) ?_
        refine lv_iload_n hx hb dX1_first_12 rfl (lv_at hl 2 rfl) ?_
        refine lv_iload_n hx hb dX1_first_13 rfl (lv_at hl 3 rfl) ?_
        refine lv_iload hx hb dX1_first_14 (lv_at hl 4 rfl) ?_
        refine va_calli (va_runS (As := [.ref a, .int (nI b0), .int (nI kd), .int (bI tb), .int (nI i)]) (rest := []) ⟨hx, hb, hml, hown, hts⟩ (c_X1_can l D cI a n f b0 kd tb i hkd (by omega) hb9 hn9 hsm) (va_cwS 5 hts gX1_first_X1_can rfl rfl rfl (by decide +kernel) ⟨Nat.le_trans (Nat.le_of_ble_eq_true rfl) hRf, Nat.le_trans (Nat.le_of_ble_eq_true rfl) hRl⟩) (pr_S (P_pick hP (k := 0) rfl) hK [0] rfl (hV0.at hS sub_id sub_id) EnvM_c) rfl rfl hl.1 rfl (lv_room (Nat.le_of_ble_eq_true rfl)) dX1_first_16 ⟨Nat.le_trans (Nat.le_of_ble_eq_true rfl) hRc, Nat.le_trans (Nat.le_of_ble_eq_true rfl) hRs⟩) hS (fun _ _ h => h.elim) (fun _ h => h.elim) (fun r_2 _ t H1 locs ht hvm hw_2 hB hz hk hS => ?_)
        have hP := P_kept hP hk
        obtain rfl := hw_2
        refine nb_if_eq (tgt := 25) hx hb dX1_first_19 (by decide) (fun c_3 => ?_) (fun c_3 => ?_)
        · refine lv_iinc (k := 4) (v := nI (i + 1)) (lv' := [(4, .int (nI (i + 1))), (0, .ref a), (1, .int (nI b0)), (2, .int (nI kd)), (3, .int (bI tb))]) hx hb dX1_first_25 hl rfl (nI_add i 1) (by decide) rfl (fun ls hl => ?_)
          refine lv_goto (tgt := 3) hx hb dX1_first_28 (by decide) ?_
          exact ih3 (i + 1) _ _ _ (by omega) (by omega) (h2.trans (fI_n (by omega) c_3)) hP hS (lv_sub hl [1, 2, 3, 4, 0] rfl)
        · refine lv_iload hx hb dX1_first_22 (lv_at hl 4 rfl) ?_
          rw [← hQ]
          exact W.iret (v := nI i) hx hb hr (fun t ht hW => ⟨⟨nI i, (), rfl, (h2.trans (fI_y (by omega) c_3)).symm, trivial⟩, hS.F ht⟩) hS.2.2 dX1_first_24
  exact L3 _ 0 _ _ _ (Nat.lt_succ_self _) (by omega) rfl hP hS (lv_sub hl [1, 2, 3, 4, 0] rfl)
set_option maxHeartbeats 4000000 in
set_option maxRecDepth 100000 in
/-- pieceTold -/
theorem c_X1_pieceTold (l : Launch) (D : va_G) (cI : ClassId) (ad : Nat → Nat) (th : Int32) (n np nq : Nat) (F : Nat → Nat → Int32) (T : Nat → Int32) (p0 w0 : Nat) (hnp : np ≤ 150) (hs : p0 < np) (hw : w0 < 4) : Met l yX1_pieceTold wsX1_pieceTold ({ frames := 0, cells := 0, slots := 0, locals := 0 } : Room) (va_Pc [.ref (ad 0), .int (nI p0), .int (nI w0)] (Pr D [(cI, .int)] (wM cI ad th n np nq F T) V0)) (va_Qi (S := Unit) (fun (r : Int32) (_ : Unit) => r = pcT F p0 w0) (fun _ _ => True) (fun _ => False)) 0 0 (fun _ => False) := by
  refine Met.ofW (cc := cX1_pieceTold) (maxL := 3) (ret := (some .int)) (by decide) rfl ?_
  intro p e s m args below meth c s₁ B hml hv
  obtain ⟨hargs, hP, hK, hV⟩ := hv
  have hx := B.exec
  have hb := B.bytes
  have hr := B.returns
  have hts := atoms_spec (ws := wsX1_pieceTold) B.pre
  have hown : s.vm.findClass RX1 = some m.cls := findClass_of_methodNamed B.named
  have hlocks := B.notSynchronized
  have hS : va_S (fun _ => False) s.heap s.heap [] := va_S.rf
  have hiw : ∀ w ∈ wsX10, w ∈ wsX1_pieceTold := (fun _ h => List.mem_cons_of_mem _ (List.mem_append_right _ h))
  have hRf : 0 ≤ (headSpec wsX1_pieceTold ({ frames := 0, cells := 0, slots := 0, locals := 0 } : Room)).room.frames := Nat.le_refl _
  have hRl : 0 ≤ (headSpec wsX1_pieceTold ({ frames := 0, cells := 0, slots := 0, locals := 0 } : Room)).room.locals := Nat.le_refl _
  have hRc : 0 ≤ (headSpec wsX1_pieceTold ({ frames := 0, cells := 0, slots := 0, locals := 0 } : Room)).room.cells := Nat.le_refl _
  have hRs : 0 ≤ (headSpec wsX1_pieceTold ({ frames := 0, cells := 0, slots := 0, locals := 0 } : Room)).room.slots := Nat.le_refl _
  generalize (headSpec wsX1_pieceTold ({ frames := 0, cells := 0, slots := 0, locals := 0 } : Room)).room = R at hRf hRl hRc hRs ⊢
  have hl := lv_entry [.ref (ad 0), .int (nI p0), .int (nI w0)] (n := 3) (Nat.le_of_ble_eq_true rfl)
  refine W.eq (show entryFrame m args 3 = _ from by rw [hargs, lg_entry_eq]) ?_
  generalize (lg_sl [.ref (ad 0), .int (nI p0), .int (nI w0)] ++ List.replicate (3 - (lg_sl [.ref (ad 0), .int (nI p0), .int (nI w0)]).length) Slot.unset).toArray = ls at hl ⊢
  have hl : lv_has ls 3 [(0, .ref (ad 0)), (1, .int (nI p0)), (2, .int (nI w0))] := hl
  generalize hQ : MQ _ _ _ _ _ _ _ = Q
  refine lv_iload_n hx hb dX1_pieceTold_0 rfl (lv_at hl 2 rfl) ?_
  refine nv_if_ne (tgt := 13) hx hb (by omega) dX1_pieceTold_1 (by decide) (fun c_1 => ?_) (fun c_1 => ?_)
  · refine lv_iload_n hx hb dX1_pieceTold_13 rfl (lv_at hl 2 rfl) ?_
    refine lv_iconst (v := nI 1) hx hb dX1_pieceTold_14 (by decide) ?_
    refine nv_icmp_ne (tgt := 27) hx hb (by omega) (by omega) dX1_pieceTold_15 (by decide) (fun c_2 => ?_) (fun c_2 => ?_)
    · refine lv_iload_n hx hb dX1_pieceTold_27 rfl (lv_at hl 2 rfl) ?_
      refine lv_iconst (v := nI 2) hx hb dX1_pieceTold_28 (by decide) ?_
      refine nv_icmp_ne (tgt := 41) hx hb (by omega) (by omega) dX1_pieceTold_29 (by decide) (fun c_3 => ?_) (fun c_3 => ?_)
      · refine lv_aload_n hx hb dX1_pieceTold_41 rfl (lv_at hl 0 rfl) ?_
        refine va_get (D := D) (ci := 1) (v := .ref (ad 6)) (C := RX1) (T := TX1) (N := 12) hx hb hts hiw hown hK hP 0 m_at0 rfl 8 (by decide) (hts (.fieldLink RX1 25 "GloveCuttersModel" "thinOf" "[I") (by decide +kernel)) (fun _ h9 => h9) rfl dX1_pieceTold_42 ?_
        refine lv_iload_n hx hb dX1_pieceTold_45 rfl (lv_at hl 1 rfl) ?_
        refine nv_iald hx hb hK hP 6 0 m_at6 rfl (by omega) (by omega) dX1_pieceTold_46 ?_
        rw [← hQ]
        exact W.iret (v := F 7 p0) hx hb hr (fun t ht hW => ⟨⟨F 7 p0, (), rfl, (by rw [show w0 = 3 by omega]; rfl), trivial⟩, hS.F ht⟩) hS.2.2 dX1_pieceTold_47
      · refine lv_aload_n hx hb dX1_pieceTold_32 rfl (lv_at hl 0 rfl) ?_
        refine va_get (D := D) (ci := 1) (v := .ref (ad 5)) (C := RX1) (T := TX1) (N := 12) hx hb hts hiw hown hK hP 0 m_at0 rfl 7 (by decide) (hts (.fieldLink RX1 22 "GloveCuttersModel" "pairOf" "[I") (by decide +kernel)) (fun _ h9 => h9) rfl dX1_pieceTold_33 ?_
        refine lv_iload_n hx hb dX1_pieceTold_36 rfl (lv_at hl 1 rfl) ?_
        refine nv_iald hx hb hK hP 5 0 m_at5 rfl (by omega) (by omega) dX1_pieceTold_37 ?_
        refine lv_goto (tgt := 47) hx hb dX1_pieceTold_38 (by decide) ?_
        rw [← hQ]
        exact W.iret (v := F 6 p0) hx hb hr (fun t ht hW => ⟨⟨F 6 p0, (), rfl, (by rw [c_3]; rfl), trivial⟩, hS.F ht⟩) hS.2.2 dX1_pieceTold_47
    · refine lv_aload_n hx hb dX1_pieceTold_18 rfl (lv_at hl 0 rfl) ?_
      refine va_get (D := D) (ci := 1) (v := .ref (ad 4)) (C := RX1) (T := TX1) (N := 12) hx hb hts hiw hown hK hP 0 m_at0 rfl 6 (by decide) (hts (.fieldLink RX1 19 "GloveCuttersModel" "kindOf" "[I") (by decide +kernel)) (fun _ h9 => h9) rfl dX1_pieceTold_19 ?_
      refine lv_iload_n hx hb dX1_pieceTold_22 rfl (lv_at hl 1 rfl) ?_
      refine nv_iald hx hb hK hP 4 0 m_at4 rfl (by omega) (by omega) dX1_pieceTold_23 ?_
      refine lv_goto (tgt := 47) hx hb dX1_pieceTold_24 (by decide) ?_
      rw [← hQ]
      exact W.iret (v := F 5 p0) hx hb hr (fun t ht hW => ⟨⟨F 5 p0, (), rfl, (by rw [c_2]; rfl), trivial⟩, hS.F ht⟩) hS.2.2 dX1_pieceTold_47
  · refine lv_aload_n hx hb dX1_pieceTold_4 rfl (lv_at hl 0 rfl) ?_
    refine va_get (D := D) (ci := 1) (v := .ref (ad 3)) (C := RX1) (T := TX1) (N := 12) hx hb hts hiw hown hK hP 0 m_at0 rfl 5 (by decide) (hts (.fieldLink RX1 16 "GloveCuttersModel" "skinOf" "[I") (by decide +kernel)) (fun _ h9 => h9) rfl dX1_pieceTold_5 ?_
    refine lv_iload_n hx hb dX1_pieceTold_8 rfl (lv_at hl 1 rfl) ?_
    refine nv_iald hx hb hK hP 3 0 m_at3 rfl (by omega) (by omega) dX1_pieceTold_9 ?_
    refine lv_goto (tgt := 47) hx hb dX1_pieceTold_10 (by decide) ?_
    rw [← hQ]
    exact W.iret (v := F 4 p0) hx hb hr (fun t ht hW => ⟨⟨F 4 p0, (), rfl, (by rw [c_1]; rfl), trivial⟩, hS.F ht⟩) hS.2.2 dX1_pieceTold_47
set_option maxHeartbeats 4000000 in
set_option maxRecDepth 100000 in
/-- isFree -/
theorem c_X1_isFree (l : Launch) (D : va_G) (cI : ClassId) (ad : Nat → Nat) (th : Int32) (n np nq : Nat) (F : Nat → Nat → Int32) (T : Nat → Int32) (p0 : Nat) (c0 kd : Int32) (hn : n ≤ 10) (hnp : np ≤ 150) (hsk : ∀ p, p < np → ∃ k, k < n ∧ F 4 p = nI k) (hp0 : p0 < np) : Met l yX1_isFree wsX1_isFree ({ frames := 0, cells := 0, slots := 0, locals := 0 } : Room) (va_Pc [.ref (ad 0), .int (nI p0), .int c0, .int kd] (Pr D [(cI, .int)] (wM cI ad th n np nq F T) V0)) (va_Qi (S := Unit) (fun (r : Int32) (_ : Unit) => r = bI (isF F c0 kd p0)) (fun _ _ => True) (fun _ => False)) 0 0 (fun _ => False) := by
  refine Met.ofW (cc := cX1_isFree) (maxL := 4) (ret := (some .boolean)) (by decide) rfl ?_
  intro p e s m args below meth c s₁ B hml hv
  obtain ⟨hargs, hP, hK, hV⟩ := hv
  have hx := B.exec
  have hb := B.bytes
  have hr := B.returns
  have hts := atoms_spec (ws := wsX1_isFree) B.pre
  have hown : s.vm.findClass RX1 = some m.cls := findClass_of_methodNamed B.named
  have hlocks := B.notSynchronized
  have hS : va_S (fun _ => False) s.heap s.heap [] := va_S.rf
  have hiw : ∀ w ∈ wsX10, w ∈ wsX1_isFree := (fun _ h => List.mem_cons_of_mem _ (List.mem_append_right _ h))
  have hRf : 0 ≤ (headSpec wsX1_isFree ({ frames := 0, cells := 0, slots := 0, locals := 0 } : Room)).room.frames := Nat.le_refl _
  have hRl : 0 ≤ (headSpec wsX1_isFree ({ frames := 0, cells := 0, slots := 0, locals := 0 } : Room)).room.locals := Nat.le_refl _
  have hRc : 0 ≤ (headSpec wsX1_isFree ({ frames := 0, cells := 0, slots := 0, locals := 0 } : Room)).room.cells := Nat.le_refl _
  have hRs : 0 ≤ (headSpec wsX1_isFree ({ frames := 0, cells := 0, slots := 0, locals := 0 } : Room)).room.slots := Nat.le_refl _
  generalize (headSpec wsX1_isFree ({ frames := 0, cells := 0, slots := 0, locals := 0 } : Room)).room = R at hRf hRl hRc hRs ⊢
  have hl := lv_entry [.ref (ad 0), .int (nI p0), .int c0, .int kd] (n := 4) (Nat.le_of_ble_eq_true rfl)
  refine W.eq (show entryFrame m args 4 = _ from by rw [hargs, lg_entry_eq]) ?_
  generalize (lg_sl [.ref (ad 0), .int (nI p0), .int c0, .int kd] ++ List.replicate (4 - (lg_sl [.ref (ad 0), .int (nI p0), .int c0, .int kd]).length) Slot.unset).toArray = ls at hl ⊢
  have hl : lv_has ls 4 [(0, .ref (ad 0)), (1, .int (nI p0)), (2, .int c0), (3, .int kd)] := hl
  generalize hQ : MQ _ _ _ _ _ _ _ = Q
  refine lv_aload_n hx hb dX1_isFree_0 rfl (lv_at hl 0 rfl) ?_
  refine va_get (D := D) (ci := 1) (v := .ref (ad 5)) (C := RX1) (T := TX1) (N := 12) hx hb hts hiw hown hK hP 0 m_at0 rfl 7 (by decide) (hts (.fieldLink RX1 22 "GloveCuttersModel" "pairOf" "[I") (by decide +kernel)) (fun _ h9 => h9) rfl dX1_isFree_1 ?_
  refine lv_iload_n hx hb dX1_isFree_4 rfl (lv_at hl 1 rfl) ?_
  refine nv_iald hx hb hK hP 5 0 m_at5 rfl (by omega) (by omega) dX1_isFree_5 ?_
  refine lv_iconst (v := -1) hx hb dX1_isFree_6 (by decide) ?_
  refine lv_icmp_ne (tgt := 39) hx hb dX1_isFree_7 (by decide) (fun c_1 => ?_) (fun c_1 => ?_)
  · refine lv_iconst (v := nI 0) hx hb dX1_isFree_39 (by decide) ?_
    rw [← hQ]
    exact W.zret (v := nI 0) hx hb hr rfl (fun t ht hW => ⟨⟨nI 0, (), rfl, (by rw [isF_1 c_1]; rfl), trivial⟩, hS.F ht⟩) hS.2.2 dX1_isFree_40
  · refine lv_aload_n hx hb dX1_isFree_10 rfl (lv_at hl 0 rfl) ?_
    refine va_get (D := D) (ci := 1) (v := .ref (ad 4)) (C := RX1) (T := TX1) (N := 12) hx hb hts hiw hown hK hP 0 m_at0 rfl 6 (by decide) (hts (.fieldLink RX1 19 "GloveCuttersModel" "kindOf" "[I") (by decide +kernel)) (fun _ h9 => h9) rfl dX1_isFree_11 ?_
    refine lv_iload_n hx hb dX1_isFree_14 rfl (lv_at hl 1 rfl) ?_
    refine nv_iald hx hb hK hP 4 0 m_at4 rfl (by omega) (by omega) dX1_isFree_15 ?_
    refine lv_iload_n hx hb dX1_isFree_16 rfl (lv_at hl 3 rfl) ?_
    refine lv_icmp_ne (tgt := 39) hx hb dX1_isFree_17 (by decide) (fun c_2 => ?_) (fun c_2 => ?_)
    · refine lv_iconst (v := nI 0) hx hb dX1_isFree_39 (by decide) ?_
      rw [← hQ]
      exact W.zret (v := nI 0) hx hb hr rfl (fun t ht hW => ⟨⟨nI 0, (), rfl, (by rw [isF_2 c_2]; rfl), trivial⟩, hS.F ht⟩) hS.2.2 dX1_isFree_40
    · refine lv_aload_n hx hb dX1_isFree_20 rfl (lv_at hl 0 rfl) ?_
      refine va_get (D := D) (ci := 1) (v := .ref (ad 1)) (C := RX1) (T := TX1) (N := 12) hx hb hts hiw hown hK hP 0 m_at0 rfl 2 (by decide) (hts (.fieldLink RX1 9 "GloveCuttersModel" "colour" "[I") (by decide +kernel)) (fun _ h9 => h9) rfl dX1_isFree_21 ?_
      refine lv_aload_n hx hb dX1_isFree_24 rfl (lv_at hl 0 rfl) ?_
      refine va_get (D := D) (ci := 1) (v := .ref (ad 3)) (C := RX1) (T := TX1) (N := 12) hx hb hts hiw hown hK hP 0 m_at0 rfl 5 (by decide) (hts (.fieldLink RX1 16 "GloveCuttersModel" "skinOf" "[I") (by decide +kernel)) (fun _ h9 => h9) rfl dX1_isFree_25 ?_
      refine lv_iload_n hx hb dX1_isFree_28 rfl (lv_at hl 1 rfl) ?_
      refine nv_iald hx hb hK hP 3 0 m_at3 rfl (by omega) (by omega) dX1_isFree_29 ?_
      obtain ⟨k9, hk9, ek9⟩ := hsk p0 hp0
      rw [ek9]
      refine nv_iald hx hb hK hP 1 0 m_at1 rfl (by omega) (by omega) dX1_isFree_30 ?_
      refine lv_iload_n hx hb dX1_isFree_31 rfl (lv_at hl 2 rfl) ?_
      refine lv_icmp_ne (tgt := 39) hx hb dX1_isFree_32 (by decide) (fun c_3 => ?_) (fun c_3 => ?_)
      · refine lv_iconst (v := nI 0) hx hb dX1_isFree_39 (by decide) ?_
        rw [← hQ]
        exact W.zret (v := nI 0) hx hb hr rfl (fun t ht hW => ⟨⟨nI 0, (), rfl, (by rw [isF_3 ek9 (by omega) c_3]; rfl), trivial⟩, hS.F ht⟩) hS.2.2 dX1_isFree_40
      · refine lv_iconst (v := nI 1) hx hb dX1_isFree_35 (by decide) ?_
        refine lv_goto (tgt := 40) hx hb dX1_isFree_36 (by decide) ?_
        rw [← hQ]
        exact W.zret (v := nI 1) hx hb hr rfl (fun t ht hW => ⟨⟨nI 1, (), rfl, (by rw [isF_t c_1 c_2 ek9 (by omega) c_3]; rfl), trivial⟩, hS.F ht⟩) hS.2.2 dX1_isFree_40
set_option maxHeartbeats 4000000 in
set_option maxRecDepth 100000 in
/-- free -/
theorem c_X1_free (l : Launch) (D : va_G) (cI : ClassId) (ad : Nat → Nat) (th : Int32) (n np nq : Nat) (F : Nat → Nat → Int32) (T : Nat → Int32) (c0 kd : Int32) (hn : n ≤ 10) (hnp : np ≤ 150) (hsk : ∀ p, p < np → ∃ k, k < n ∧ F 4 p = nI k) : Met l yX1_free wsX1_free ({ frames := 1, cells := 0, slots := 0, locals := 23 } : Room) (va_Pc [.ref (ad 0), .int c0, .int kd] (Pr D [(cI, .int)] (wM cI ad th n np nq F T) V0)) (va_Qi (S := Unit) (fun (r : Int32) (_ : Unit) => r = nI (fC F np c0 kd)) (fun _ _ => True) (fun _ => False)) 0 0 (fun _ => False) := by
  refine Met.ofW (cc := cX1_free) (maxL := 5) (ret := (some .int)) (by decide) rfl ?_
  intro p e s m args below meth c s₁ B hml hv
  obtain ⟨hargs, hP, hK, hV⟩ := hv
  have hx := B.exec
  have hb := B.bytes
  have hr := B.returns
  have hts := atoms_spec (ws := wsX1_free) B.pre
  have hown : s.vm.findClass RX1 = some m.cls := findClass_of_methodNamed B.named
  have hlocks := B.notSynchronized
  have hS : va_S (fun _ => False) s.heap s.heap [] := va_S.rf
  have hiw : ∀ w ∈ wsX10, w ∈ wsX1_free := (fun _ h => List.mem_cons_of_mem _ (List.mem_append_right _ h))
  have hRf : 1 ≤ (headSpec wsX1_free ({ frames := 1, cells := 0, slots := 0, locals := 23 } : Room)).room.frames := Nat.le_refl _
  have hRl : 23 ≤ (headSpec wsX1_free ({ frames := 1, cells := 0, slots := 0, locals := 23 } : Room)).room.locals := Nat.le_refl _
  have hRc : 0 ≤ (headSpec wsX1_free ({ frames := 1, cells := 0, slots := 0, locals := 23 } : Room)).room.cells := Nat.le_refl _
  have hRs : 0 ≤ (headSpec wsX1_free ({ frames := 1, cells := 0, slots := 0, locals := 23 } : Room)).room.slots := Nat.le_refl _
  generalize (headSpec wsX1_free ({ frames := 1, cells := 0, slots := 0, locals := 23 } : Room)).room = R at hRf hRl hRc hRs ⊢
  have hl := lv_entry [.ref (ad 0), .int c0, .int kd] (n := 5) (Nat.le_of_ble_eq_true rfl)
  refine W.eq (show entryFrame m args 5 = _ from by rw [hargs, lg_entry_eq]) ?_
  generalize (lg_sl [.ref (ad 0), .int c0, .int kd] ++ List.replicate (5 - (lg_sl [.ref (ad 0), .int c0, .int kd]).length) Slot.unset).toArray = ls at hl ⊢
  have hl : lv_has ls 5 [(0, .ref (ad 0)), (1, .int c0), (2, .int kd)] := hl
  generalize hQ : MQ _ _ _ _ _ _ _ = Q
  refine lv_iconst (v := nI 0) hx hb dX1_free_0 (by decide) ?_
  refine lv_istore_n (lv' := [(3, .int (nI 0)), (0, .ref (ad 0)), (1, .int c0), (2, .int kd)]) hx hb dX1_free_1 rfl hl (by decide) rfl (fun ls hl => ?_)
  refine lv_iconst (v := nI 0) hx hb dX1_free_2 (by decide) ?_
  refine lv_istore (lv' := [(4, .int (nI 0)), (3, .int (nI 0)), (0, .ref (ad 0)), (1, .int c0), (2, .int kd)]) hx hb dX1_free_3 hl (by decide) rfl (fun ls hl => ?_)
  have L5 : ∀ (fu : Nat) (k : Nat) (i : Nat) (H : Heap) (locs : List Loc) (ls : Array Slot), np - i < fu → (i ≤ np) → (k = cn (isF F c0 kd) i) → (k ≤ i) → va_P D vwCl (wM cI ad th n np nq F T) H → va_S (fun _ => False) s.heap H locs → lv_has ls 5 [(0, .ref (ad 0)), (1, .int c0), (2, .int kd), (3, .int (nI k)), (4, .int (nI i))] → W p l e R s m args below meth c H locs 0 0 Q (F0 m 5 ls []) := by
    intro fu
    induction fu with
    | zero => intro _ _ _ _ _ h; exact absurd h (Nat.not_lt_zero _)
    | succ fu ih5 =>
      intro k i H locs ls hm5 h1 h2 h3 hP  hS hl
      refine lv_iload hx hb dX1_free_5 (lv_at hl 4 rfl) ?_
      refine lv_aload_n hx hb dX1_free_7 rfl (lv_at hl 0 rfl) ?_
      refine va_get (D := D) (ci := 1) (v := .int (nI np)) (C := RX1) (T := TX1) (N := 12) hx hb hts hiw hown hK hP 0 m_at0 rfl 4 (by decide) (hts (.fieldLink RX1 67 "GloveCuttersModel" "pieces" "I") (by decide +kernel)) (fun _ h9 => h9) rfl dX1_free_8 ?_
      refine nv_icmp_ge (tgt := 39) hx hb (by omega) (by omega) dX1_free_11 (by decide) (fun c_1 => ?_) (fun c_1 => ?_)
      · refine lv_iload_n hx hb dX1_free_39 rfl (lv_at hl 3 rfl) ?_
        rw [← hQ]
        exact W.iret (v := nI k) hx hb hr (fun t ht hW => ⟨⟨nI k, (), rfl, (by rw [h2, show i = np by omega]; rfl), trivial⟩, hS.F ht⟩) hS.2.2 dX1_free_40
      · refine lv_iload_n hx hb dX1_free_14 rfl (lv_at hl 3 rfl) ?_
        refine lv_aload_n hx hb dX1_free_15 rfl (lv_at hl 0 rfl) ?_
        refine lv_iload hx hb dX1_free_16 (lv_at hl 4 rfl) ?_
        refine lv_iload_n hx hb dX1_free_18 rfl (lv_at hl 1 rfl) ?_
        refine lv_iload_n hx hb dX1_free_19 rfl (lv_at hl 2 rfl) ?_
        refine va_calli (va_runV (As := [.int (nI i), .int c0, .int kd]) (rest := [.int (nI k)]) ⟨hx, hb, hml, hown, hts⟩ (c_X1_isFree l D cI ad th n np nq F T i c0 kd hn hnp hsk (by omega)) (cwV 3 hts gX1_free_X1_isFree rfl rfl rfl (by decide +kernel) ⟨Nat.le_trans (Nat.le_of_ble_eq_true rfl) hRf, Nat.le_trans (Nat.le_of_ble_eq_true rfl) hRl⟩) (pr_V hP (ci := 1) (q0 := 0) rfl m_at0 rfl hP hK [0] rfl V0_at V0_c) rfl rfl hl.1 rfl (lv_room (Nat.le_of_ble_eq_true rfl)) dX1_free_20 ⟨Nat.le_trans (Nat.le_of_ble_eq_true rfl) hRc, Nat.le_trans (Nat.le_of_ble_eq_true rfl) hRs⟩) hS (fun _ _ h => h.elim) (fun _ h => h.elim) (fun r_2 _ t H1 locs ht hvm hw_2 hB hz hk hS => ?_)
        have hP := P_kept hP hk
        obtain rfl := hw_2
        refine nb_if_eq (tgt := 30) hx hb dX1_free_23 (by decide) (fun c_3 => ?_) (fun c_3 => ?_)
        · refine lv_iconst (v := nI 0) hx hb dX1_free_30 (by decide) ?_
          refine nv_iadd hx hb dX1_free_31 ?_
          refine lv_istore_n (lv' := [(3, .int (nI (k + 0))), (0, .ref (ad 0)), (1, .int c0), (2, .int kd), (4, .int (nI i))]) hx hb dX1_free_32 rfl hl (by decide) rfl (fun ls hl => ?_)
          refine lv_iinc (k := 4) (v := nI (i + 1)) (lv' := [(4, .int (nI (i + 1))), (3, .int (nI (k + 0))), (0, .ref (ad 0)), (1, .int c0), (2, .int kd)]) hx hb dX1_free_33 hl rfl (nI_add i 1) (by decide) rfl (fun ls hl => ?_)
          refine lv_goto (tgt := 5) hx hb dX1_free_36 (by decide) ?_
          exact ih5 (k + 0) (i + 1) _ _ _ (by omega) (by omega) (by rw [h2]; exact (cn_f c_3).symm) (by omega) hP hS (lv_sub hl [2, 3, 4, 1, 0] rfl)
        · refine lv_iconst (v := nI 1) hx hb dX1_free_26 (by decide) ?_
          refine lv_goto (tgt := 31) hx hb dX1_free_27 (by decide) ?_
          refine nv_iadd hx hb dX1_free_31 ?_
          refine lv_istore_n (lv' := [(3, .int (nI (k + 1))), (0, .ref (ad 0)), (1, .int c0), (2, .int kd), (4, .int (nI i))]) hx hb dX1_free_32 rfl hl (by decide) rfl (fun ls hl => ?_)
          refine lv_iinc (k := 4) (v := nI (i + 1)) (lv' := [(4, .int (nI (i + 1))), (3, .int (nI (k + 1))), (0, .ref (ad 0)), (1, .int c0), (2, .int kd)]) hx hb dX1_free_33 hl rfl (nI_add i 1) (by decide) rfl (fun ls hl => ?_)
          refine lv_goto (tgt := 5) hx hb dX1_free_36 (by decide) ?_
          exact ih5 (k + 1) (i + 1) _ _ _ (by omega) (by omega) (by rw [h2]; exact (cn_t c_3).symm) (by omega) hP hS (lv_sub hl [2, 3, 4, 1, 0] rfl)
  exact L5 _ 0 0 _ _ _ (Nat.lt_succ_self _) (by omega) rfl (by omega) hP hS (lv_sub hl [2, 3, 4, 1, 0] rfl)
