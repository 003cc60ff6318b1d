set_option maxHeartbeats 4000000 in
set_option maxRecDepth 100000 in
theorem c_L_lay (l : Launch) (hst : l.stackTraces = false) (D : va_G) (cI cZ cO cL : ClassId) (ad : Nat → Nat) (n np nq : Nat) (F : Nat → Nat → Int32) (o : Nat) (g : Nat → Int64) (c0 : Int32) (hinj : inj ad 23) (ho : ∀ i, i ≤ 23 → ¬ o = ad i) (hn : n ≤ 10) : Met l yL_lay wsL_lay ({ frames := 8, cells := 2, slots := 12, locals := 123 } : Room) (va_Pc [.ref (ad 0), .int c0, .ref o] (Pr D (gT cI cZ cO ++ [(cL, .long)]) (wG cI cZ cO ad n np nq F ++ [(o, .inl (cL, 1, .inr (.inl g)))]) (EnvL (inO ad o)))) (va_Qi (S := Unit) (fun (r : Int32) (_ : Unit) => r = nI (spLay n c0).1) (fun (_ : Unit) (t : State) => va_P D vwCl (if (spLay n c0).1 = 0 then wG cI cZ cO ad (n + 1) np nq (layF F n c0) else wG cI cZ cO ad n np nq F) t.heap ∧ va_P D vwCl [(o, .inl (cL, 1, .inr (.inl (outG g (spLay n c0)))))] t.heap) (inO ad o)) 2 12 (inO ad o) := by
  refine met_ofWH (cc := cL_lay) (maxL := 4) (ret := (some .int)) (hh := [(0, 9, 12, 13), (0, 9, 15, 15)]) (by decide) rfl ?_
  intro p e s m args below meth c s₁ B hml hv
  obtain ⟨hargs, hP0, hK, hV⟩ := hv
  have hx := B.exec
  have hb := B.bytes
  have hr := B.returns
  have hts := atoms_spec (ws := wsL_lay) B.pre
  have hown : s.vm.findClass RL = some m.cls := findClass_of_methodNamed B.named
  have hlocks := B.notSynchronized
  have htab : c.exceptionTable.toList = tableOf [(0, 9, 12, 13), (0, 9, 15, 15)] := vx_table (x := yL_lay) B (hts (.codeWith yL_lay cL_lay 4 (some .int) [(0, 9, 12, 13), (0, 9, 15, 15)]) List.mem_cons_self)
  have hP := P_drop hP0
  have hO := P_last hP0
  have hS : va_S (inO ad o) s.heap s.heap [] := va_S.rf
  have hRf : 8 ≤ (headSpec wsL_lay ({ frames := 8, cells := 2, slots := 12, locals := 123 } : Room)).room.frames := Nat.le_refl _
  have hRl : 123 ≤ (headSpec wsL_lay ({ frames := 8, cells := 2, slots := 12, locals := 123 } : Room)).room.locals := Nat.le_refl _
  have hRc : 2 ≤ (headSpec wsL_lay ({ frames := 8, cells := 2, slots := 12, locals := 123 } : Room)).room.cells := Nat.le_refl _
  have hRs : 12 ≤ (headSpec wsL_lay ({ frames := 8, cells := 2, slots := 12, locals := 123 } : Room)).room.slots := Nat.le_refl _
  generalize (headSpec wsL_lay ({ frames := 8, cells := 2, slots := 12, locals := 123 } : Room)).room = R at hRf hRl hRc hRs ⊢
  have hl := lv_entry [.ref (ad 0), .int c0, .ref o] (n := 4) (Nat.le_of_ble_eq_true rfl)
  refine W.eq (show entryFrame m args 4 = _ from by rw [hargs, lg_entry_eq]) ?_
  generalize (lg_sl [.ref (ad 0), .int c0, .ref o] ++ List.replicate (4 - (lg_sl [.ref (ad 0), .int c0, .ref o]).length) Slot.unset).toArray = ls at hl ⊢
  have hl : lv_has ls 4 [(0, .ref (ad 0)), (1, .int c0), (2, .ref o)] := hl
  generalize hQ : MQ _ _ _ _ _ _ _ = Q
  refine lv_aload_n hx hb dL_lay_0 rfl (lv_at hl 2 rfl) ?_
  refine lv_iconst (v := nI 0) hx hb dL_lay_1 (by decide) ?_
  refine lv_aload_n hx hb dL_lay_2 rfl (lv_at hl 0 rfl) ?_
  refine lv_iload_n hx hb dL_lay_3 rfl (lv_at hl 1 rfl) ?_
  refine vx_calli (vx_runV (As := [.int c0]) (rest := [.int (nI 0), .ref o]) ⟨hx, hb, hml, hown, hts⟩ (c_X0_lay l hst D cI cZ cO ad n np nq F c0 hinj hn) (cwV 1 hts gL_lay_X0_lay rfl rfl rfl (by decide +kernel) ⟨Nat.le_trans (Nat.le_of_ble_eq_true rfl) hRf, Nat.le_trans (Nat.le_of_ble_eq_true rfl) hRl⟩) (pr_V hP (ci := 0) (q0 := 0) rfl g_at0 rfl hP hK [0, 1, 2] rfl (hV.1.at hS sub_id (fun _ h => Or.inl h)) EnvG_c) rfl rfl hl.1 rfl (lv_room (Nat.le_of_ble_eq_true rfl)) dL_lay_4 ⟨Nat.le_trans (Nat.le_of_ble_eq_true rfl) hRc, Nat.le_trans (Nat.le_of_ble_eq_true rfl) hRs⟩) hS (fun _ _ h => Or.inl h) (fun _ h => Or.inl h) (fun _ _ h => h.elim) (fun E ce q9 _ t H1 locs ht hvm hpx hbx _ hk hS hce hcv hcl => ?_) (fun r u t H1 locs ht hvm hw hB hz hk hS => ?_)
  · have hP := P_kept hP hk
    have hO := P_kept hO hk
    rcases hbx with ⟨rfl, e9⟩ | ⟨rfl, e9⟩
    · refine vx_catch hown [] (⟨0, 9, 12, 13⟩ : ExceptionTableEntry) [(⟨0, 9, 15, 15⟩ : ExceptionTableEntry)] htab (fun z hz => by simp at hz) (by decide) (by decide) (hts (.classLink RL 13 "java/lang/IllegalArgumentException") (by decide +kernel)) (va_any rfl hV.1.2.2.2.2.2.2.2.2.2.2.1) hce hcv hcl ?_
      refine lv_astore_n (lv' := [(3, .ref q9), (0, .ref (ad 0)), (1, .int c0), (2, .ref o)]) hx hb dL_lay_12 rfl hl (by decide) rfl (fun ls hl => ?_)
      refine lv_iconst (v := nI 1) hx hb dL_lay_13 (by decide) ?_
      rw [← hQ]
      refine W.widen (k := 2) (n := 12) (by omega) (by omega) ?_
      exact W.iret (v := nI 1) hx hb hr (fun t ht hW => ⟨⟨nI 1, (), rfl, (by rw [e9]), (by show va_P D vwCl (if (spLay n c0).1 = 0 then wG cI cZ cO ad (n + 1) np nq (layF F n c0) else wG cI cZ cO ad n np nq F) t.heap ∧ va_P D vwCl [(o, .inl (cL, 1, .inr (.inl (outG g (spLay n c0)))))] t.heap; rw [ht]; exact ⟨(by rw [e9, if_neg (by decide)]; exact hP), (by unfold outG; rw [e9, if_neg (by decide)]; exact hO)⟩)⟩, hS.F ht⟩) hS.2.2 dL_lay_14
    · refine vx_catch hown [(⟨0, 9, 12, 13⟩ : ExceptionTableEntry)] (⟨0, 9, 15, 15⟩ : ExceptionTableEntry) [] htab (fun z hz => by (have hz := List.mem_singleton.mp hz; subst hz; exact Or.inr ⟨by decide, "java/lang/IllegalArgumentException", hts (.classLink RL 13 "java/lang/IllegalArgumentException") (by decide +kernel), hV.2.2.2⟩)) (by decide) (by decide) (hts (.classLink RL 15 "java/lang/IllegalStateException") (by decide +kernel)) (va_any rfl hV.1.2.2.2.2.2.2.2.2.2.2.2) hce hcv hcl ?_
      refine lv_astore_n (lv' := [(3, .ref q9), (0, .ref (ad 0)), (1, .int c0), (2, .ref o)]) hx hb dL_lay_15 rfl hl (by decide) rfl (fun ls hl => ?_)
      refine lv_iconst (v := nI 2) hx hb dL_lay_16 (by decide) ?_
      rw [← hQ]
      refine W.widen (k := 2) (n := 12) (by omega) (by omega) ?_
      exact W.iret (v := nI 2) hx hb hr (fun t ht hW => ⟨⟨nI 2, (), rfl, (by rw [e9]), (by show va_P D vwCl (if (spLay n c0).1 = 0 then wG cI cZ cO ad (n + 1) np nq (layF F n c0) else wG cI cZ cO ad n np nq F) t.heap ∧ va_P D vwCl [(o, .inl (cL, 1, .inr (.inl (outG g (spLay n c0)))))] t.heap; rw [ht]; exact ⟨(by rw [e9, if_neg (by decide)]; exact hP), (by unfold outG; rw [e9, if_neg (by decide)]; exact hO)⟩)⟩, hS.F ht⟩) hS.2.2 dL_lay_17
  · rw [ht] at hB
    have hO := O_kept hO ho hk
    have hP := hB
    refine lv_i2l hx hb dL_lay_7 rfl ?_
    refine va_last (a := o) (cA := cL) (n := 1) (f := g) (i := nI 0) (x := r.toInt64) hx hb hK (hP.app hO) (gl_D hinj ho) hS 24 3 gl_at rfl (vp_in_nI (by decide) (by decide)) dL_lay_8 (fun H locs hP hD hS => ?_)
    rw [gl_set] at hP
    refine lv_goto (tgt := 18) hx hb dL_lay_9 (by decide) ?_
    refine lv_iconst (v := nI 0) hx hb dL_lay_18 (by decide) ?_
    rw [← hQ]
    refine W.widen (k := 2) (n := 12) (by omega) (by omega) ?_
    exact W.iret (v := nI 0) hx hb hr (fun t ht hW => ⟨⟨nI 0, (), rfl, (by rw [hw]), (by show va_P D vwCl (if (spLay n c0).1 = 0 then wG cI cZ cO ad (n + 1) np nq (layF F n c0) else wG cI cZ cO ad n np nq F) t.heap ∧ va_P D vwCl [(o, .inl (cL, 1, .inr (.inl (outG g (spLay n c0)))))] t.heap; rw [ht]; exact ⟨(by rw [hw, if_pos rfl]; exact P_drop hP), (by unfold outG; rw [hw, if_pos rfl]; exact P_last hP)⟩)⟩, hS.F ht⟩) hS.2.2 dL_lay_19
set_option maxHeartbeats 4000000 in
set_option maxRecDepth 100000 in
theorem c_L_mark (l : Launch) (hst : l.stackTraces = false) (D : va_G) (cI cZ cO cL : ClassId) (ad : Nat → Nat) (n np nq : Nat) (F : Nat → Nat → Int32) (o : Nat) (g : Nat → Int64) (s0 : Int32) (x0 : Int32) (y0 : Int32) (w0 : Int32) (h0 : Int32) (v0 : Int32) (hinj : inj ad 23) (ho : ∀ i, i ≤ 23 → ¬ o = ad i) (hn : n ≤ 10) : Met l yL_mark wsL_mark ({ frames := 8, cells := 5, slots := 30, locals := 131 } : Room) (va_Pc [.ref (ad 0), .int s0, .int x0, .int y0, .int w0, .int h0, .int v0, .ref o] (Pr D (gT cI cZ cO ++ [(cL, .long)]) (wG cI cZ cO ad n np nq F ++ [(o, .inl (cL, 1, .inr (.inl g)))]) (EnvL (inO ad o)))) (va_Qi (S := Unit) (fun (r : Int32) (_ : Unit) => r = nI (spMark n F s0 x0 y0 w0 h0 v0).1) (fun (_ : Unit) (t : State) => va_P D vwCl (if (spMark n F s0 x0 y0 w0 h0 v0).1 = 0 then wG cI cZ cO ad n np nq (stMark F s0 x0 y0 w0 h0 v0) else wG cI cZ cO ad n np nq F) t.heap ∧ va_P D vwCl [(o, .inl (cL, 1, .inr (.inl (outG g (spMark n F s0 x0 y0 w0 h0 v0)))))] t.heap) (inO ad o)) 5 30 (inO ad o) := by
  refine met_ofWH (cc := cL_mark) (maxL := 9) (ret := (some .int)) (hh := [(0, 18, 21, 21), (0, 18, 25, 13), (0, 18, 29, 15)]) (by decide) rfl ?_
  intro p e s m args below meth c s₁ B hml hv
  obtain ⟨hargs, hP0, hK, hV⟩ := hv
  have hx := B.exec
  have hb := B.bytes
  have hr := B.returns
  have hts := atoms_spec (ws := wsL_mark) B.pre
  have hown : s.vm.findClass RL = some m.cls := findClass_of_methodNamed B.named
  have hlocks := B.notSynchronized
  have htab : c.exceptionTable.toList = tableOf [(0, 18, 21, 21), (0, 18, 25, 13), (0, 18, 29, 15)] := vx_table (x := yL_mark) B (hts (.codeWith yL_mark cL_mark 9 (some .int) [(0, 18, 21, 21), (0, 18, 25, 13), (0, 18, 29, 15)]) List.mem_cons_self)
  have hP := P_drop hP0
  have hO := P_last hP0
  have hS : va_S (inO ad o) s.heap s.heap [] := va_S.rf
  have hRf : 8 ≤ (headSpec wsL_mark ({ frames := 8, cells := 5, slots := 30, locals := 131 } : Room)).room.frames := Nat.le_refl _
  have hRl : 131 ≤ (headSpec wsL_mark ({ frames := 8, cells := 5, slots := 30, locals := 131 } : Room)).room.locals := Nat.le_refl _
  have hRc : 5 ≤ (headSpec wsL_mark ({ frames := 8, cells := 5, slots := 30, locals := 131 } : Room)).room.cells := Nat.le_refl _
  have hRs : 30 ≤ (headSpec wsL_mark ({ frames := 8, cells := 5, slots := 30, locals := 131 } : Room)).room.slots := Nat.le_refl _
  generalize (headSpec wsL_mark ({ frames := 8, cells := 5, slots := 30, locals := 131 } : Room)).room = R at hRf hRl hRc hRs ⊢
  have hl := lv_entry [.ref (ad 0), .int s0, .int x0, .int y0, .int w0, .int h0, .int v0, .ref o] (n := 9) (Nat.le_of_ble_eq_true rfl)
  refine W.eq (show entryFrame m args 9 = _ from by rw [hargs, lg_entry_eq]) ?_
  generalize (lg_sl [.ref (ad 0), .int s0, .int x0, .int y0, .int w0, .int h0, .int v0, .ref o] ++ List.replicate (9 - (lg_sl [.ref (ad 0), .int s0, .int x0, .int y0, .int w0, .int h0, .int v0, .ref o]).length) Slot.unset).toArray = ls at hl ⊢
  have hl : lv_has ls 9 [(0, .ref (ad 0)), (1, .int s0), (2, .int x0), (3, .int y0), (4, .int w0), (5, .int h0), (6, .int v0), (7, .ref o)] := hl
  generalize hQ : MQ _ _ _ _ _ _ _ = Q
  refine lv_aload hx hb dL_mark_0 (lv_at hl 7 rfl) ?_
  refine lv_iconst (v := nI 0) hx hb dL_mark_2 (by decide) ?_
  refine lv_aload_n hx hb dL_mark_3 rfl (lv_at hl 0 rfl) ?_
  refine lv_iload_n hx hb dL_mark_4 rfl (lv_at hl 1 rfl) ?_
  refine lv_iload_n hx hb dL_mark_5 rfl (lv_at hl 2 rfl) ?_
  refine lv_iload_n hx hb dL_mark_6 rfl (lv_at hl 3 rfl) ?_
  refine lv_iload hx hb dL_mark_7 (lv_at hl 4 rfl) ?_
  refine lv_iload hx hb dL_mark_9 (lv_at hl 5 rfl) ?_
  refine lv_iload hx hb dL_mark_11 (lv_at hl 6 rfl) ?_
  refine vx_calli (vx_runV (As := [.int s0, .int x0, .int y0, .int w0, .int h0, .int v0]) (rest := [.int (nI 0), .ref o]) ⟨hx, hb, hml, hown, hts⟩ (c_X0_mark l hst D cI cZ cO ad n np nq F s0 x0 y0 w0 h0 v0 hinj hn) (cwV 6 hts gL_mark_X0_mark rfl rfl rfl (by decide +kernel) ⟨Nat.le_trans (Nat.le_of_ble_eq_true rfl) hRf, Nat.le_trans (Nat.le_of_ble_eq_true rfl) hRl⟩) (pr_V hP (ci := 0) (q0 := 0) rfl g_at0 rfl hP hK [0, 1, 2] rfl (hV.1.at hS sub_id (fun _ h => Or.inl h)) EnvG_c) rfl rfl hl.1 rfl (lv_room (Nat.le_of_ble_eq_true rfl)) dL_mark_13 ⟨Nat.le_trans (Nat.le_of_ble_eq_true rfl) hRc, Nat.le_trans (Nat.le_of_ble_eq_true rfl) hRs⟩) hS (fun _ _ h => Or.inl h) (fun _ h => Or.inl h) (fun _ _ h => h.elim) (fun E ce q9 _ t H1 locs ht hvm hpx hbx _ hk hS hce hcv hcl => ?_) (fun r u t H1 locs ht hvm hw hB hz hk hS => ?_)
  · have hP := P_kept hP hk
    have hO := P_kept hO hk
    rcases hbx with ⟨rfl, e9⟩ | ⟨rfl, e9⟩ | ⟨rfl, e9⟩
    · refine vx_catch hown [] (⟨0, 18, 21, 21⟩ : ExceptionTableEntry) [(⟨0, 18, 25, 13⟩ : ExceptionTableEntry), (⟨0, 18, 29, 15⟩ : ExceptionTableEntry)] htab (fun z hz => by simp at hz) (by decide) (by decide) (hts (.classLink RL 21 "java/lang/IndexOutOfBoundsException") (by decide +kernel)) (va_any rfl hV.1.2.2.2.2.2.2.2.2.2.1) hce hcv hcl ?_
      refine lv_astore (lv' := [(8, .ref q9), (0, .ref (ad 0)), (1, .int s0), (2, .int x0), (3, .int y0), (4, .int w0), (5, .int h0), (6, .int v0), (7, .ref o)]) hx hb dL_mark_21 hl (by decide) rfl (fun ls hl => ?_)
      refine lv_iconst (v := nI 1) hx hb dL_mark_23 (by decide) ?_
      rw [← hQ]
      refine W.widen (k := 5) (n := 30) (by omega) (by omega) ?_
      exact W.iret (v := nI 1) hx hb hr (fun t ht hW => ⟨⟨nI 1, (), rfl, (by rw [e9]), (by show va_P D vwCl (if (spMark n F s0 x0 y0 w0 h0 v0).1 = 0 then wG cI cZ cO ad n np nq (stMark F s0 x0 y0 w0 h0 v0) else wG cI cZ cO ad n np nq F) t.heap ∧ va_P D vwCl [(o, .inl (cL, 1, .inr (.inl (outG g (spMark n F s0 x0 y0 w0 h0 v0)))))] t.heap; rw [ht]; exact ⟨(by rw [e9, if_neg (by decide)]; exact hP), (by unfold outG; rw [e9, if_neg (by decide)]; exact hO)⟩)⟩, hS.F ht⟩) hS.2.2 dL_mark_24
    · refine vx_catch hown [(⟨0, 18, 21, 21⟩ : ExceptionTableEntry)] (⟨0, 18, 25, 13⟩ : ExceptionTableEntry) [(⟨0, 18, 29, 15⟩ : ExceptionTableEntry)] htab (fun z hz => by (have hz := List.mem_singleton.mp hz; subst hz; exact Or.inr ⟨by decide, "java/lang/IndexOutOfBoundsException", hts (.classLink RL 21 "java/lang/IndexOutOfBoundsException") (by decide +kernel), hV.2.1⟩)) (by decide) (by decide) (hts (.classLink RL 13 "java/lang/IllegalArgumentException") (by decide +kernel)) (va_any rfl hV.1.2.2.2.2.2.2.2.2.2.2.1) hce hcv hcl ?_
      refine lv_astore (lv' := [(8, .ref q9), (0, .ref (ad 0)), (1, .int s0), (2, .int x0), (3, .int y0), (4, .int w0), (5, .int h0), (6, .int v0), (7, .ref o)]) hx hb dL_mark_25 hl (by decide) rfl (fun ls hl => ?_)
      refine lv_iconst (v := nI 2) hx hb dL_mark_27 (by decide) ?_
      rw [← hQ]
      refine W.widen (k := 5) (n := 30) (by omega) (by omega) ?_
      exact W.iret (v := nI 2) hx hb hr (fun t ht hW => ⟨⟨nI 2, (), rfl, (by rw [e9]), (by show va_P D vwCl (if (spMark n F s0 x0 y0 w0 h0 v0).1 = 0 then wG cI cZ cO ad n np nq (stMark F s0 x0 y0 w0 h0 v0) else wG cI cZ cO ad n np nq F) t.heap ∧ va_P D vwCl [(o, .inl (cL, 1, .inr (.inl (outG g (spMark n F s0 x0 y0 w0 h0 v0)))))] t.heap; rw [ht]; exact ⟨(by rw [e9, if_neg (by decide)]; exact hP), (by unfold outG; rw [e9, if_neg (by decide)]; exact hO)⟩)⟩, hS.F ht⟩) hS.2.2 dL_mark_28
    · refine vx_catch hown [(⟨0, 18, 21, 21⟩ : ExceptionTableEntry), (⟨0, 18, 25, 13⟩ : ExceptionTableEntry)] (⟨0, 18, 29, 15⟩ : ExceptionTableEntry) [] htab (fun z hz => by (rcases List.mem_cons.mp hz with hz | hz; subst hz; exact Or.inr ⟨by decide, "java/lang/IndexOutOfBoundsException", hts (.classLink RL 21 "java/lang/IndexOutOfBoundsException") (by decide +kernel), hV.2.2.1⟩; have hz := List.mem_singleton.mp hz; subst hz; exact Or.inr ⟨by decide, "java/lang/IllegalArgumentException", hts (.classLink RL 13 "java/lang/IllegalArgumentException") (by decide +kernel), hV.2.2.2⟩)) (by decide) (by decide) (hts (.classLink RL 15 "java/lang/IllegalStateException") (by decide +kernel)) (va_any rfl hV.1.2.2.2.2.2.2.2.2.2.2.2) hce hcv hcl ?_
      refine lv_astore (lv' := [(8, .ref q9), (0, .ref (ad 0)), (1, .int s0), (2, .int x0), (3, .int y0), (4, .int w0), (5, .int h0), (6, .int v0), (7, .ref o)]) hx hb dL_mark_29 hl (by decide) rfl (fun ls hl => ?_)
      refine lv_iconst (v := nI 3) hx hb dL_mark_31 (by decide) ?_
      rw [← hQ]
      refine W.widen (k := 5) (n := 30) (by omega) (by omega) ?_
      exact W.iret (v := nI 3) hx hb hr (fun t ht hW => ⟨⟨nI 3, (), rfl, (by rw [e9]), (by show va_P D vwCl (if (spMark n F s0 x0 y0 w0 h0 v0).1 = 0 then wG cI cZ cO ad n np nq (stMark F s0 x0 y0 w0 h0 v0) else wG cI cZ cO ad n np nq F) t.heap ∧ va_P D vwCl [(o, .inl (cL, 1, .inr (.inl (outG g (spMark n F s0 x0 y0 w0 h0 v0)))))] t.heap; rw [ht]; exact ⟨(by rw [e9, if_neg (by decide)]; exact hP), (by unfold outG; rw [e9, if_neg (by decide)]; exact hO)⟩)⟩, hS.F ht⟩) hS.2.2 dL_mark_32
  · rw [ht] at hB
    have hO := O_kept hO ho hk
    have hP := hB
    refine lv_i2l hx hb dL_mark_16 rfl ?_
    refine va_last (a := o) (cA := cL) (n := 1) (f := g) (i := nI 0) (x := r.toInt64) hx hb hK (hP.app hO) (gl_D hinj ho) hS 24 3 gl_at rfl (vp_in_nI (by decide) (by decide)) dL_mark_17 (fun H locs hP hD hS => ?_)
    rw [gl_set] at hP
    refine lv_goto (tgt := 33) hx hb dL_mark_18 (by decide) ?_
    refine lv_iconst (v := nI 0) hx hb dL_mark_33 (by decide) ?_
    rw [← hQ]
    refine W.widen (k := 5) (n := 30) (by omega) (by omega) ?_
    exact W.iret (v := nI 0) hx hb hr (fun t ht hW => ⟨⟨nI 0, (), rfl, (by rw [hw]), (by show va_P D vwCl (if (spMark n F s0 x0 y0 w0 h0 v0).1 = 0 then wG cI cZ cO ad n np nq (stMark F s0 x0 y0 w0 h0 v0) else wG cI cZ cO ad n np nq F) t.heap ∧ va_P D vwCl [(o, .inl (cL, 1, .inr (.inl (outG g (spMark n F s0 x0 y0 w0 h0 v0)))))] t.heap; rw [ht]; exact ⟨(by rw [hw, if_pos rfl]; exact P_drop hP), (by unfold outG; rw [hw, if_pos rfl]; exact P_last hP)⟩)⟩, hS.F ht⟩) hS.2.2 dL_mark_34
set_option maxHeartbeats 4000000 in
set_option maxRecDepth 100000 in
theorem c_L_cell (l : Launch) (hst : l.stackTraces = false) (D : va_G) (cI cZ cO cL : ClassId) (ad : Nat → Nat) (n np nq : Nat) (F : Nat → Nat → Int32) (o : Nat) (g : Nat → Int64) (s0 : Int32) (x0 : Int32) (y0 : Int32) (hinj : inj ad 23) (ho : ∀ i, i ≤ 23 → ¬ o = ad i) (hn : n ≤ 10) : Met l yL_cell wsL_cell ({ frames := 8, cells := 2, slots := 12, locals := 126 } : Room) (va_Pc [.ref (ad 0), .int s0, .int x0, .int y0, .ref o] (Pr D (gT cI cZ cO ++ [(cL, .long)]) (wG cI cZ cO ad n np nq F ++ [(o, .inl (cL, 1, .inr (.inl g)))]) (EnvL (inO ad o)))) (va_Qi (S := Unit) (fun (r : Int32) (_ : Unit) => r = nI (spCell n F s0 x0 y0).1) (fun (_ : Unit) (t : State) => va_P D vwCl (wG cI cZ cO ad n np nq F) t.heap ∧ va_P D vwCl [(o, .inl (cL, 1, .inr (.inl (outG g (spCell n F s0 x0 y0)))))] t.heap) (inO ad o)) 2 12 (inO ad o) := by
  refine met_ofWH (cc := cL_cell) (maxL := 6) (ret := (some .int)) (hh := [(0, 12, 15, 21)]) (by decide) rfl ?_
  intro p e s m args below meth c s₁ B hml hv
  obtain ⟨hargs, hP0, hK, hV⟩ := hv
  have hx := B.exec
  have hb := B.bytes
  have hr := B.returns
  have hts := atoms_spec (ws := wsL_cell) B.pre
  have hown : s.vm.findClass RL = some m.cls := findClass_of_methodNamed B.named
  have hlocks := B.notSynchronized
  have htab : c.exceptionTable.toList = tableOf [(0, 12, 15, 21)] := vx_table (x := yL_cell) B (hts (.codeWith yL_cell cL_cell 6 (some .int) [(0, 12, 15, 21)]) List.mem_cons_self)
  have hP := P_drop hP0
  have hO := P_last hP0
  have hS : va_S (inO ad o) s.heap s.heap [] := va_S.rf
  have hRf : 8 ≤ (headSpec wsL_cell ({ frames := 8, cells := 2, slots := 12, locals := 126 } : Room)).room.frames := Nat.le_refl _
  have hRl : 126 ≤ (headSpec wsL_cell ({ frames := 8, cells := 2, slots := 12, locals := 126 } : Room)).room.locals := Nat.le_refl _
  have hRc : 2 ≤ (headSpec wsL_cell ({ frames := 8, cells := 2, slots := 12, locals := 126 } : Room)).room.cells := Nat.le_refl _
  have hRs : 12 ≤ (headSpec wsL_cell ({ frames := 8, cells := 2, slots := 12, locals := 126 } : Room)).room.slots := Nat.le_refl _
  generalize (headSpec wsL_cell ({ frames := 8, cells := 2, slots := 12, locals := 126 } : Room)).room = R at hRf hRl hRc hRs ⊢
  have hl := lv_entry [.ref (ad 0), .int s0, .int x0, .int y0, .ref o] (n := 6) (Nat.le_of_ble_eq_true rfl)
  refine W.eq (show entryFrame m args 6 = _ from by rw [hargs, lg_entry_eq]) ?_
  generalize (lg_sl [.ref (ad 0), .int s0, .int x0, .int y0, .ref o] ++ List.replicate (6 - (lg_sl [.ref (ad 0), .int s0, .int x0, .int y0, .ref o]).length) Slot.unset).toArray = ls at hl ⊢
  have hl : lv_has ls 6 [(0, .ref (ad 0)), (1, .int s0), (2, .int x0), (3, .int y0), (4, .ref o)] := hl
  generalize hQ : MQ _ _ _ _ _ _ _ = Q
  refine lv_aload hx hb dL_cell_0 (lv_at hl 4 rfl) ?_
  refine lv_iconst (v := nI 0) hx hb dL_cell_2 (by decide) ?_
  refine lv_aload_n hx hb dL_cell_3 rfl (lv_at hl 0 rfl) ?_
  refine lv_iload_n hx hb dL_cell_4 rfl (lv_at hl 1 rfl) ?_
  refine lv_iload_n hx hb dL_cell_5 rfl (lv_at hl 2 rfl) ?_
  refine lv_iload_n hx hb dL_cell_6 rfl (lv_at hl 3 rfl) ?_
  refine vx_calli (vx_runV (As := [.int s0, .int x0, .int y0]) (rest := [.int (nI 0), .ref o]) ⟨hx, hb, hml, hown, hts⟩ (c_X0_cell l hst D cI cZ cO ad n np nq F s0 x0 y0 hn) (cwV 3 hts gL_cell_X0_cell rfl rfl rfl (by decide +kernel) ⟨Nat.le_trans (Nat.le_of_ble_eq_true rfl) hRf, Nat.le_trans (Nat.le_of_ble_eq_true rfl) hRl⟩) (pr_V hP (ci := 0) (q0 := 0) rfl g_at0 rfl hP hK [0, 1, 2] rfl (hV.1.at hS sub_id sub_no) EnvG_c) rfl rfl hl.1 rfl (lv_room (Nat.le_of_ble_eq_true rfl)) dL_cell_7 ⟨Nat.le_trans (Nat.le_of_ble_eq_true rfl) hRc, Nat.le_trans (Nat.le_of_ble_eq_true rfl) hRs⟩) hS (fun _ _ h => h.elim) (fun _ h => h.elim) (fun _ _ h => h.elim) (fun E ce q9 _ t H1 locs ht hvm hpx hbx _ hk hS hce hcv hcl => ?_) (fun r u t H1 locs ht hvm hw hB hz hk hS => ?_)
  · have hP := P_kept hP hk
    have hO := P_kept hO hk
    obtain ⟨rfl, e9⟩ := hbx
    refine vx_catch hown [] (⟨0, 12, 15, 21⟩ : ExceptionTableEntry) [] htab (fun z hz => by simp at hz) (by decide) (by decide) (hts (.classLink RL 21 "java/lang/IndexOutOfBoundsException") (by decide +kernel)) (va_any rfl hV.1.2.2.2.2.2.2.2.2.2.1) hce hcv hcl ?_
    refine lv_astore (lv' := [(5, .ref q9), (0, .ref (ad 0)), (1, .int s0), (2, .int x0), (3, .int y0), (4, .ref o)]) hx hb dL_cell_15 hl (by decide) rfl (fun ls hl => ?_)
    refine lv_iconst (v := nI 1) hx hb dL_cell_17 (by decide) ?_
    rw [← hQ]
    refine W.widen (k := 2) (n := 12) (by omega) (by omega) ?_
    exact W.iret (v := nI 1) hx hb hr (fun t ht hW => ⟨⟨nI 1, (), rfl, (by rw [e9]), (by show va_P D vwCl (wG cI cZ cO ad n np nq F) t.heap ∧ va_P D vwCl [(o, .inl (cL, 1, .inr (.inl (outG g (spCell n F s0 x0 y0)))))] t.heap; rw [ht]; exact ⟨hP, (by unfold outG; rw [e9, if_neg (by decide)]; exact hO)⟩)⟩, hS.F ht⟩) hS.2.2 dL_cell_18
  · have hP := P_kept hP hk
    have hO := P_kept hO hk
    refine lv_i2l hx hb dL_cell_10 rfl ?_
    refine va_last (a := o) (cA := cL) (n := 1) (f := g) (i := nI 0) (x := r.toInt64) hx hb hK (hP.app hO) (gl_D hinj ho) hS 24 3 gl_at rfl (vp_in_nI (by decide) (by decide)) dL_cell_11 (fun H locs hP hD hS => ?_)
    rw [gl_set] at hP
    refine lv_goto (tgt := 19) hx hb dL_cell_12 (by decide) ?_
    refine lv_iconst (v := nI 0) hx hb dL_cell_19 (by decide) ?_
    rw [← hQ]
    refine W.widen (k := 2) (n := 12) (by omega) (by omega) ?_
    exact W.iret (v := nI 0) hx hb hr (fun t ht hW => ⟨⟨nI 0, (), rfl, (by rw [hw]), (by show va_P D vwCl (wG cI cZ cO ad n np nq F) t.heap ∧ va_P D vwCl [(o, .inl (cL, 1, .inr (.inl (outG g (spCell n F s0 x0 y0)))))] t.heap; rw [ht]; exact ⟨P_drop hP, (by unfold outG; rw [hw, if_pos rfl]; exact P_last hP)⟩)⟩, hS.F ht⟩) hS.2.2 dL_cell_20
set_option maxHeartbeats 4000000 in
set_option maxRecDepth 100000 in
theorem c_L_skin (l : Launch) (hst : l.stackTraces = false) (D : va_G) (cI cZ cO cL : ClassId) (ad : Nat → Nat) (n np nq : Nat) (F : Nat → Nat → Int32) (o : Nat) (g : Nat → Int64) (s0 : Int32) (w0 : Int32) (hinj : inj ad 23) (ho : ∀ i, i ≤ 23 → ¬ o = ad i) (hn : n ≤ 10) : Met l yL_skin wsL_skin ({ frames := 8, cells := 2, slots := 12, locals := 125 } : Room) (va_Pc [.ref (ad 0), .int s0, .int w0, .ref o] (Pr D (gT cI cZ cO ++ [(cL, .long)]) (wG cI cZ cO ad n np nq F ++ [(o, .inl (cL, 1, .inr (.inl g)))]) (EnvL (inO ad o)))) (va_Qi (S := Unit) (fun (r : Int32) (_ : Unit) => r = nI (spSkin n F s0 w0).1) (fun (_ : Unit) (t : State) => va_P D vwCl (wG cI cZ cO ad n np nq F) t.heap ∧ va_P D vwCl [(o, .inl (cL, 1, .inr (.inl (outG g (spSkin n F s0 w0)))))] t.heap) (inO ad o)) 2 12 (inO ad o) := by
  refine met_ofWH (cc := cL_skin) (maxL := 5) (ret := (some .int)) (hh := [(0, 10, 13, 21)]) (by decide) rfl ?_
  intro p e s m args below meth c s₁ B hml hv
  obtain ⟨hargs, hP0, hK, hV⟩ := hv
  have hx := B.exec
  have hb := B.bytes
  have hr := B.returns
  have hts := atoms_spec (ws := wsL_skin) B.pre
  have hown : s.vm.findClass RL = some m.cls := findClass_of_methodNamed B.named
  have hlocks := B.notSynchronized
  have htab : c.exceptionTable.toList = tableOf [(0, 10, 13, 21)] := vx_table (x := yL_skin) B (hts (.codeWith yL_skin cL_skin 5 (some .int) [(0, 10, 13, 21)]) List.mem_cons_self)
  have hP := P_drop hP0
  have hO := P_last hP0
  have hS : va_S (inO ad o) s.heap s.heap [] := va_S.rf
  have hRf : 8 ≤ (headSpec wsL_skin ({ frames := 8, cells := 2, slots := 12, locals := 125 } : Room)).room.frames := Nat.le_refl _
  have hRl : 125 ≤ (headSpec wsL_skin ({ frames := 8, cells := 2, slots := 12, locals := 125 } : Room)).room.locals := Nat.le_refl _
  have hRc : 2 ≤ (headSpec wsL_skin ({ frames := 8, cells := 2, slots := 12, locals := 125 } : Room)).room.cells := Nat.le_refl _
  have hRs : 12 ≤ (headSpec wsL_skin ({ frames := 8, cells := 2, slots := 12, locals := 125 } : Room)).room.slots := Nat.le_refl _
  generalize (headSpec wsL_skin ({ frames := 8, cells := 2, slots := 12, locals := 125 } : Room)).room = R at hRf hRl hRc hRs ⊢
  have hl := lv_entry [.ref (ad 0), .int s0, .int w0, .ref o] (n := 5) (Nat.le_of_ble_eq_true rfl)
  refine W.eq (show entryFrame m args 5 = _ from by rw [hargs, lg_entry_eq]) ?_
  generalize (lg_sl [.ref (ad 0), .int s0, .int w0, .ref o] ++ List.replicate (5 - (lg_sl [.ref (ad 0), .int s0, .int w0, .ref o]).length) Slot.unset).toArray = ls at hl ⊢
  have hl : lv_has ls 5 [(0, .ref (ad 0)), (1, .int s0), (2, .int w0), (3, .ref o)] := hl
  generalize hQ : MQ _ _ _ _ _ _ _ = Q
  refine lv_aload_n hx hb dL_skin_0 rfl (lv_at hl 3 rfl) ?_
  refine lv_iconst (v := nI 0) hx hb dL_skin_1 (by decide) ?_
  refine lv_aload_n hx hb dL_skin_2 rfl (lv_at hl 0 rfl) ?_
  refine lv_iload_n hx hb dL_skin_3 rfl (lv_at hl 1 rfl) ?_
  refine lv_iload_n hx hb dL_skin_4 rfl (lv_at hl 2 rfl) ?_
  refine vx_calli (vx_runV (As := [.int s0, .int w0]) (rest := [.int (nI 0), .ref o]) ⟨hx, hb, hml, hown, hts⟩ (c_X0_skin l hst D cI cZ cO ad n np nq F s0 w0 hn) (cwV 2 hts gL_skin_X0_skin rfl rfl rfl (by decide +kernel) ⟨Nat.le_trans (Nat.le_of_ble_eq_true rfl) hRf, Nat.le_trans (Nat.le_of_ble_eq_true rfl) hRl⟩) (pr_V hP (ci := 0) (q0 := 0) rfl g_at0 rfl hP hK [0, 1, 2] rfl (hV.1.at hS sub_id sub_no) EnvG_c) rfl rfl hl.1 rfl (lv_room (Nat.le_of_ble_eq_true rfl)) dL_skin_5 ⟨Nat.le_trans (Nat.le_of_ble_eq_true rfl) hRc, Nat.le_trans (Nat.le_of_ble_eq_true rfl) hRs⟩) hS (fun _ _ h => h.elim) (fun _ h => h.elim) (fun _ _ h => h.elim) (fun E ce q9 _ t H1 locs ht hvm hpx hbx _ hk hS hce hcv hcl => ?_) (fun r u t H1 locs ht hvm hw hB hz hk hS => ?_)
  · have hP := P_kept hP hk
    have hO := P_kept hO hk
    obtain ⟨rfl, e9⟩ := hbx
    refine vx_catch hown [] (⟨0, 10, 13, 21⟩ : ExceptionTableEntry) [] htab (fun z hz => by simp at hz) (by decide) (by decide) (hts (.classLink RL 21 "java/lang/IndexOutOfBoundsException") (by decide +kernel)) (va_any rfl hV.1.2.2.2.2.2.2.2.2.2.1) hce hcv hcl ?_
    refine lv_astore (lv' := [(4, .ref q9), (0, .ref (ad 0)), (1, .int s0), (2, .int w0), (3, .ref o)]) hx hb dL_skin_13 hl (by decide) rfl (fun ls hl => ?_)
    refine lv_iconst (v := nI 1) hx hb dL_skin_15 (by decide) ?_
    rw [← hQ]
    refine W.widen (k := 2) (n := 12) (by omega) (by omega) ?_
    exact W.iret (v := nI 1) hx hb hr (fun t ht hW => ⟨⟨nI 1, (), rfl, (by rw [e9]), (by show va_P D vwCl (wG cI cZ cO ad n np nq F) t.heap ∧ va_P D vwCl [(o, .inl (cL, 1, .inr (.inl (outG g (spSkin n F s0 w0)))))] t.heap; rw [ht]; exact ⟨hP, (by unfold outG; rw [e9, if_neg (by decide)]; exact hO)⟩)⟩, hS.F ht⟩) hS.2.2 dL_skin_16
  · have hP := P_kept hP hk
    have hO := P_kept hO hk
    refine lv_i2l hx hb dL_skin_8 rfl ?_
    refine va_last (a := o) (cA := cL) (n := 1) (f := g) (i := nI 0) (x := r.toInt64) hx hb hK (hP.app hO) (gl_D hinj ho) hS 24 3 gl_at rfl (vp_in_nI (by decide) (by decide)) dL_skin_9 (fun H locs hP hD hS => ?_)
    rw [gl_set] at hP
    refine lv_goto (tgt := 17) hx hb dL_skin_10 (by decide) ?_
    refine lv_iconst (v := nI 0) hx hb dL_skin_17 (by decide) ?_
    rw [← hQ]
    refine W.widen (k := 2) (n := 12) (by omega) (by omega) ?_
    exact W.iret (v := nI 0) hx hb hr (fun t ht hW => ⟨⟨nI 0, (), rfl, (by rw [hw]), (by show va_P D vwCl (wG cI cZ cO ad n np nq F) t.heap ∧ va_P D vwCl [(o, .inl (cL, 1, .inr (.inl (outG g (spSkin n F s0 w0)))))] t.heap; rw [ht]; exact ⟨P_drop hP, (by unfold outG; rw [hw, if_pos rfl]; exact P_last hP)⟩)⟩, hS.F ht⟩) hS.2.2 dL_skin_18
set_option maxHeartbeats 4000000 in
set_option maxRecDepth 100000 in
theorem c_L_cut (l : Launch) (hst : l.stackTraces = false) (D : va_G) (cI cZ cO cL : ClassId) (ad : Nat → Nat) (n np nq : Nat) (F : Nat → Nat → Int32) (o : Nat) (g : Nat → Int64) (s0 : Int32) (k0 : Int32) (tb : Bool) (x0 : Int32) (y0 : Int32) (hinj : inj ad 23) (ho : ∀ i, i ≤ 23 → ¬ o = ad i) (hn : n ≤ 10) (hnp : np ≤ 150) : Met l yL_cut wsL_cut ({ frames := 8, cells := 5, slots := 30, locals := 131 } : Room) (va_Pc [.ref (ad 0), .int s0, .int k0, .int (bI tb), .int x0, .int y0, .ref o] (Pr D (gT cI cZ cO ++ [(cL, .long)]) (wG cI cZ cO ad n np nq F ++ [(o, .inl (cL, 1, .inr (.inl g)))]) (EnvL (inO ad o)))) (va_Qi (S := Unit) (fun (r : Int32) (_ : Unit) => r = nI (spCut n np F s0 k0 tb x0 y0).1) (fun (_ : Unit) (t : State) => va_P D vwCl (if (spCut n np F s0 k0 tb x0 y0).1 = 0 then wG cI cZ cO ad n (np + 1) nq (stCut F np s0 k0 tb x0 y0) else wG cI cZ cO ad n np nq F) t.heap ∧ va_P D vwCl [(o, .inl (cL, 1, .inr (.inl (outG g (spCut n np F s0 k0 tb x0 y0)))))] t.heap) (inO ad o)) 5 30 (inO ad o) := by
  refine met_ofWH (cc := cL_cut) (maxL := 8) (ret := (some .int)) (hh := [(0, 16, 19, 21), (0, 16, 23, 13), (0, 16, 27, 15)]) (by decide) rfl ?_
  intro p e s m args below meth c s₁ B hml hv
  obtain ⟨hargs, hP0, hK, hV⟩ := hv
  have hx := B.exec
  have hb := B.bytes
  have hr := B.returns
  have hts := atoms_spec (ws := wsL_cut) B.pre
  have hown : s.vm.findClass RL = some m.cls := findClass_of_methodNamed B.named
  have hlocks := B.notSynchronized
  have htab : c.exceptionTable.toList = tableOf [(0, 16, 19, 21), (0, 16, 23, 13), (0, 16, 27, 15)] := vx_table (x := yL_cut) B (hts (.codeWith yL_cut cL_cut 8 (some .int) [(0, 16, 19, 21), (0, 16, 23, 13), (0, 16, 27, 15)]) List.mem_cons_self)
  have hP := P_drop hP0
  have hO := P_last hP0
  have hS : va_S (inO ad o) s.heap s.heap [] := va_S.rf
  have hRf : 8 ≤ (headSpec wsL_cut ({ frames := 8, cells := 5, slots := 30, locals := 131 } : Room)).room.frames := Nat.le_refl _
  have hRl : 131 ≤ (headSpec wsL_cut ({ frames := 8, cells := 5, slots := 30, locals := 131 } : Room)).room.locals := Nat.le_refl _
  have hRc : 5 ≤ (headSpec wsL_cut ({ frames := 8, cells := 5, slots := 30, locals := 131 } : Room)).room.cells := Nat.le_refl _
  have hRs : 30 ≤ (headSpec wsL_cut ({ frames := 8, cells := 5, slots := 30, locals := 131 } : Room)).room.slots := Nat.le_refl _
  generalize (headSpec wsL_cut ({ frames := 8, cells := 5, slots := 30, locals := 131 } : Room)).room = R at hRf hRl hRc hRs ⊢
  have hl := lv_entry [.ref (ad 0), .int s0, .int k0, .int (bI tb), .int x0, .int y0, .ref o] (n := 8) (Nat.le_of_ble_eq_true rfl)
  refine W.eq (show entryFrame m args 8 = _ from by rw [hargs, lg_entry_eq]) ?_
  generalize (lg_sl [.ref (ad 0), .int s0, .int k0, .int (bI tb), .int x0, .int y0, .ref o] ++ List.replicate (8 - (lg_sl [.ref (ad 0), .int s0, .int k0, .int (bI tb), .int x0, .int y0, .ref o]).length) Slot.unset).toArray = ls at hl ⊢
  have hl : lv_has ls 8 [(0, .ref (ad 0)), (1, .int s0), (2, .int k0), (3, .int (bI tb)), (4, .int x0), (5, .int y0), (6, .ref o)] := hl
  generalize hQ : MQ _ _ _ _ _ _ _ = Q
  refine lv_aload hx hb dL_cut_0 (lv_at hl 6 rfl) ?_
  refine lv_iconst (v := nI 0) hx hb dL_cut_2 (by decide) ?_
  refine lv_aload_n hx hb dL_cut_3 rfl (lv_at hl 0 rfl) ?_
  refine lv_iload_n hx hb dL_cut_4 rfl (lv_at hl 1 rfl) ?_
  refine lv_iload_n hx hb dL_cut_5 rfl (lv_at hl 2 rfl) ?_
  refine lv_iload_n hx hb dL_cut_6 rfl (lv_at hl 3 rfl) ?_
  refine lv_iload hx hb dL_cut_7 (lv_at hl 4 rfl) ?_
  refine lv_iload hx hb dL_cut_9 (lv_at hl 5 rfl) ?_
  refine vx_calli (vx_runV (As := [.int s0, .int k0, .int (bI tb), .int x0, .int y0]) (rest := [.int (nI 0), .ref o]) ⟨hx, hb, hml, hown, hts⟩ (c_X0_cut l hst D cI cZ cO ad n np nq F s0 k0 tb x0 y0 hinj hn hnp) (cwV 5 hts gL_cut_X0_cut rfl rfl rfl (by decide +kernel) ⟨Nat.le_trans (Nat.le_of_ble_eq_true rfl) hRf, Nat.le_trans (Nat.le_of_ble_eq_true rfl) hRl⟩) (pr_V hP (ci := 0) (q0 := 0) rfl g_at0 rfl hP hK [0, 1, 2] rfl (hV.1.at hS sub_id (fun _ h => Or.inl h)) EnvG_c) rfl rfl hl.1 rfl (lv_room (Nat.le_of_ble_eq_true rfl)) dL_cut_11 ⟨Nat.le_trans (Nat.le_of_ble_eq_true rfl) hRc, Nat.le_trans (Nat.le_of_ble_eq_true rfl) hRs⟩) hS (fun _ _ h => Or.inl h) (fun _ h => Or.inl h) (fun _ _ h => h.elim) (fun E ce q9 _ t H1 locs ht hvm hpx hbx _ hk hS hce hcv hcl => ?_) (fun r u t H1 locs ht hvm hw hB hz hk hS => ?_)
  · have hP := P_kept hP hk
    have hO := P_kept hO hk
    rcases hbx with ⟨rfl, e9⟩ | ⟨rfl, e9⟩ | ⟨rfl, e9⟩
    · refine vx_catch hown [] (⟨0, 16, 19, 21⟩ : ExceptionTableEntry) [(⟨0, 16, 23, 13⟩ : ExceptionTableEntry), (⟨0, 16, 27, 15⟩ : ExceptionTableEntry)] htab (fun z hz => by simp at hz) (by decide) (by decide) (hts (.classLink RL 21 "java/lang/IndexOutOfBoundsException") (by decide +kernel)) (va_any rfl hV.1.2.2.2.2.2.2.2.2.2.1) hce hcv hcl ?_
      refine lv_astore (lv' := [(7, .ref q9), (0, .ref (ad 0)), (1, .int s0), (2, .int k0), (3, .int (bI tb)), (4, .int x0), (5, .int y0), (6, .ref o)]) hx hb dL_cut_19 hl (by decide) rfl (fun ls hl => ?_)
      refine lv_iconst (v := nI 1) hx hb dL_cut_21 (by decide) ?_
      rw [← hQ]
      refine W.widen (k := 5) (n := 30) (by omega) (by omega) ?_
      exact W.iret (v := nI 1) hx hb hr (fun t ht hW => ⟨⟨nI 1, (), rfl, (by rw [e9]), (by show va_P D vwCl (if (spCut n np F s0 k0 tb x0 y0).1 = 0 then wG cI cZ cO ad n (np + 1) nq (stCut F np s0 k0 tb x0 y0) else wG cI cZ cO ad n np nq F) t.heap ∧ va_P D vwCl [(o, .inl (cL, 1, .inr (.inl (outG g (spCut n np F s0 k0 tb x0 y0)))))] t.heap; rw [ht]; exact ⟨(by rw [e9, if_neg (by decide)]; exact hP), (by unfold outG; rw [e9, if_neg (by decide)]; exact hO)⟩)⟩, hS.F ht⟩) hS.2.2 dL_cut_22
    · refine vx_catch hown [(⟨0, 16, 19, 21⟩ : ExceptionTableEntry)] (⟨0, 16, 23, 13⟩ : ExceptionTableEntry) [(⟨0, 16, 27, 15⟩ : ExceptionTableEntry)] htab (fun z hz => by (have hz := List.mem_singleton.mp hz; subst hz; exact Or.inr ⟨by decide, "java/lang/IndexOutOfBoundsException", hts (.classLink RL 21 "java/lang/IndexOutOfBoundsException") (by decide +kernel), hV.2.1⟩)) (by decide) (by decide) (hts (.classLink RL 13 "java/lang/IllegalArgumentException") (by decide +kernel)) (va_any rfl hV.1.2.2.2.2.2.2.2.2.2.2.1) hce hcv hcl ?_
      refine lv_astore (lv' := [(7, .ref q9), (0, .ref (ad 0)), (1, .int s0), (2, .int k0), (3, .int (bI tb)), (4, .int x0), (5, .int y0), (6, .ref o)]) hx hb dL_cut_23 hl (by decide) rfl (fun ls hl => ?_)
      refine lv_iconst (v := nI 2) hx hb dL_cut_25 (by decide) ?_
      rw [← hQ]
      refine W.widen (k := 5) (n := 30) (by omega) (by omega) ?_
      exact W.iret (v := nI 2) hx hb hr (fun t ht hW => ⟨⟨nI 2, (), rfl, (by rw [e9]), (by show va_P D vwCl (if (spCut n np F s0 k0 tb x0 y0).1 = 0 then wG cI cZ cO ad n (np + 1) nq (stCut F np s0 k0 tb x0 y0) else wG cI cZ cO ad n np nq F) t.heap ∧ va_P D vwCl [(o, .inl (cL, 1, .inr (.inl (outG g (spCut n np F s0 k0 tb x0 y0)))))] t.heap; rw [ht]; exact ⟨(by rw [e9, if_neg (by decide)]; exact hP), (by unfold outG; rw [e9, if_neg (by decide)]; exact hO)⟩)⟩, hS.F ht⟩) hS.2.2 dL_cut_26
    · refine vx_catch hown [(⟨0, 16, 19, 21⟩ : ExceptionTableEntry), (⟨0, 16, 23, 13⟩ : ExceptionTableEntry)] (⟨0, 16, 27, 15⟩ : ExceptionTableEntry) [] htab (fun z hz => by (rcases List.mem_cons.mp hz with hz | hz; subst hz; exact Or.inr ⟨by decide, "java/lang/IndexOutOfBoundsException", hts (.classLink RL 21 "java/lang/IndexOutOfBoundsException") (by decide +kernel), hV.2.2.1⟩; have hz := List.mem_singleton.mp hz; subst hz; exact Or.inr ⟨by decide, "java/lang/IllegalArgumentException", hts (.classLink RL 13 "java/lang/IllegalArgumentException") (by decide +kernel), hV.2.2.2⟩)) (by decide) (by decide) (hts (.classLink RL 15 "java/lang/IllegalStateException") (by decide +kernel)) (va_any rfl hV.1.2.2.2.2.2.2.2.2.2.2.2) hce hcv hcl ?_
      refine lv_astore (lv' := [(7, .ref q9), (0, .ref (ad 0)), (1, .int s0), (2, .int k0), (3, .int (bI tb)), (4, .int x0), (5, .int y0), (6, .ref o)]) hx hb dL_cut_27 hl (by decide) rfl (fun ls hl => ?_)
      refine lv_iconst (v := nI 3) hx hb dL_cut_29 (by decide) ?_
      rw [← hQ]
      refine W.widen (k := 5) (n := 30) (by omega) (by omega) ?_
      exact W.iret (v := nI 3) hx hb hr (fun t ht hW => ⟨⟨nI 3, (), rfl, (by rw [e9]), (by show va_P D vwCl (if (spCut n np F s0 k0 tb x0 y0).1 = 0 then wG cI cZ cO ad n (np + 1) nq (stCut F np s0 k0 tb x0 y0) else wG cI cZ cO ad n np nq F) t.heap ∧ va_P D vwCl [(o, .inl (cL, 1, .inr (.inl (outG g (spCut n np F s0 k0 tb x0 y0)))))] t.heap; rw [ht]; exact ⟨(by rw [e9, if_neg (by decide)]; exact hP), (by unfold outG; rw [e9, if_neg (by decide)]; exact hO)⟩)⟩, hS.F ht⟩) hS.2.2 dL_cut_30
  · rw [ht] at hB
    have hO := O_kept hO ho hk
    have hP := hB
    refine lv_i2l hx hb dL_cut_14 rfl ?_
    refine va_last (a := o) (cA := cL) (n := 1) (f := g) (i := nI 0) (x := r.toInt64) hx hb hK (hP.app hO) (gl_D hinj ho) hS 24 3 gl_at rfl (vp_in_nI (by decide) (by decide)) dL_cut_15 (fun H locs hP hD hS => ?_)
    rw [gl_set] at hP
    refine lv_goto (tgt := 31) hx hb dL_cut_16 (by decide) ?_
    refine lv_iconst (v := nI 0) hx hb dL_cut_31 (by decide) ?_
    rw [← hQ]
    refine W.widen (k := 5) (n := 30) (by omega) (by omega) ?_
    exact W.iret (v := nI 0) hx hb hr (fun t ht hW => ⟨⟨nI 0, (), rfl, (by rw [hw]), (by show va_P D vwCl (if (spCut n np F s0 k0 tb x0 y0).1 = 0 then wG cI cZ cO ad n (np + 1) nq (stCut F np s0 k0 tb x0 y0) else wG cI cZ cO ad n np nq F) t.heap ∧ va_P D vwCl [(o, .inl (cL, 1, .inr (.inl (outG g (spCut n np F s0 k0 tb x0 y0)))))] t.heap; rw [ht]; exact ⟨(by rw [hw, if_pos rfl]; exact P_drop hP), (by unfold outG; rw [hw, if_pos rfl]; exact P_last hP)⟩)⟩, hS.F ht⟩) hS.2.2 dL_cut_32
set_option maxHeartbeats 4000000 in
set_option maxRecDepth 100000 in
theorem c_L_place (l : Launch) (hst : l.stackTraces = false) (D : va_G) (cI cZ cO cL : ClassId) (ad : Nat → Nat) (n np nq : Nat) (F : Nat → Nat → Int32) (o : Nat) (g : Nat → Int64) (s0 : Int32) (k0 : Int32) (tb : Bool) (hinj : inj ad 23) (ho : ∀ i, i ≤ 23 → ¬ o = ad i) (hn : n ≤ 10) : Met l yL_place wsL_place ({ frames := 8, cells := 2, slots := 12, locals := 126 } : Room) (va_Pc [.ref (ad 0), .int s0, .int k0, .int (bI tb), .ref o] (Pr D (gT cI cZ cO ++ [(cL, .long)]) (wG cI cZ cO ad n np nq F ++ [(o, .inl (cL, 1, .inr (.inl g)))]) (EnvL (inO ad o)))) (va_Qi (S := Unit) (fun (r : Int32) (_ : Unit) => r = nI (spPlace n F s0 k0 tb).1) (fun (_ : Unit) (t : State) => va_P D vwCl (wG cI cZ cO ad n np nq F) t.heap ∧ va_P D vwCl [(o, .inl (cL, 1, .inr (.inl (outG g (spPlace n F s0 k0 tb)))))] t.heap) (inO ad o)) 2 12 (inO ad o) := by
  refine met_ofWH (cc := cL_place) (maxL := 6) (ret := (some .int)) (hh := [(0, 12, 15, 21), (0, 12, 19, 13)]) (by decide) rfl ?_
  intro p e s m args below meth c s₁ B hml hv
  obtain ⟨hargs, hP0, hK, hV⟩ := hv
  have hx := B.exec
  have hb := B.bytes
  have hr := B.returns
  have hts := atoms_spec (ws := wsL_place) B.pre
  have hown : s.vm.findClass RL = some m.cls := findClass_of_methodNamed B.named
  have hlocks := B.notSynchronized
  have htab : c.exceptionTable.toList = tableOf [(0, 12, 15, 21), (0, 12, 19, 13)] := vx_table (x := yL_place) B (hts (.codeWith yL_place cL_place 6 (some .int) [(0, 12, 15, 21), (0, 12, 19, 13)]) List.mem_cons_self)
  have hP := P_drop hP0
  have hO := P_last hP0
  have hS : va_S (inO ad o) s.heap s.heap [] := va_S.rf
  have hRf : 8 ≤ (headSpec wsL_place ({ frames := 8, cells := 2, slots := 12, locals := 126 } : Room)).room.frames := Nat.le_refl _
  have hRl : 126 ≤ (headSpec wsL_place ({ frames := 8, cells := 2, slots := 12, locals := 126 } : Room)).room.locals := Nat.le_refl _
  have hRc : 2 ≤ (headSpec wsL_place ({ frames := 8, cells := 2, slots := 12, locals := 126 } : Room)).room.cells := Nat.le_refl _
  have hRs : 12 ≤ (headSpec wsL_place ({ frames := 8, cells := 2, slots := 12, locals := 126 } : Room)).room.slots := Nat.le_refl _
  generalize (headSpec wsL_place ({ frames := 8, cells := 2, slots := 12, locals := 126 } : Room)).room = R at hRf hRl hRc hRs ⊢
  have hl := lv_entry [.ref (ad 0), .int s0, .int k0, .int (bI tb), .ref o] (n := 6) (Nat.le_of_ble_eq_true rfl)
  refine W.eq (show entryFrame m args 6 = _ from by rw [hargs, lg_entry_eq]) ?_
  generalize (lg_sl [.ref (ad 0), .int s0, .int k0, .int (bI tb), .ref o] ++ List.replicate (6 - (lg_sl [.ref (ad 0), .int s0, .int k0, .int (bI tb), .ref o]).length) Slot.unset).toArray = ls at hl ⊢
  have hl : lv_has ls 6 [(0, .ref (ad 0)), (1, .int s0), (2, .int k0), (3, .int (bI tb)), (4, .ref o)] := hl
  generalize hQ : MQ _ _ _ _ _ _ _ = Q
  refine lv_aload hx hb dL_place_0 (lv_at hl 4 rfl) ?_
  refine lv_iconst (v := nI 0) hx hb dL_place_2 (by decide) ?_
  refine lv_aload_n hx hb dL_place_3 rfl (lv_at hl 0 rfl) ?_
  refine lv_iload_n hx hb dL_place_4 rfl (lv_at hl 1 rfl) ?_
  refine lv_iload_n hx hb dL_place_5 rfl (lv_at hl 2 rfl) ?_
  refine lv_iload_n hx hb dL_place_6 rfl (lv_at hl 3 rfl) ?_
  refine vx_calli (vx_runV (As := [.int s0, .int k0, .int (bI tb)]) (rest := [.int (nI 0), .ref o]) ⟨hx, hb, hml, hown, hts⟩ (c_X0_place l hst D cI cZ cO ad n np nq F s0 k0 tb hn) (cwV 3 hts gL_place_X0_place rfl rfl rfl (by decide +kernel) ⟨Nat.le_trans (Nat.le_of_ble_eq_true rfl) hRf, Nat.le_trans (Nat.le_of_ble_eq_true rfl) hRl⟩) (pr_V hP (ci := 0) (q0 := 0) rfl g_at0 rfl hP hK [0, 1, 2] rfl (hV.1.at hS sub_id sub_no) EnvG_c) rfl rfl hl.1 rfl (lv_room (Nat.le_of_ble_eq_true rfl)) dL_place_7 ⟨Nat.le_trans (Nat.le_of_ble_eq_true rfl) hRc, Nat.le_trans (Nat.le_of_ble_eq_true rfl) hRs⟩) hS (fun _ _ h => h.elim) (fun _ h => h.elim) (fun _ _ h => h.elim) (fun E ce q9 _ t H1 locs ht hvm hpx hbx _ hk hS hce hcv hcl => ?_) (fun r u t H1 locs ht hvm hw hB hz hk hS => ?_)
  · have hP := P_kept hP hk
    have hO := P_kept hO hk
    rcases hbx with ⟨rfl, e9⟩ | ⟨rfl, e9⟩
    · refine vx_catch hown [] (⟨0, 12, 15, 21⟩ : ExceptionTableEntry) [(⟨0, 12, 19, 13⟩ : ExceptionTableEntry)] htab (fun z hz => by simp at hz) (by decide) (by decide) (hts (.classLink RL 21 "java/lang/IndexOutOfBoundsException") (by decide +kernel)) (va_any rfl hV.1.2.2.2.2.2.2.2.2.2.1) hce hcv hcl ?_
      refine lv_astore (lv' := [(5, .ref q9), (0, .ref (ad 0)), (1, .int s0), (2, .int k0), (3, .int (bI tb)), (4, .ref o)]) hx hb dL_place_15 hl (by decide) rfl (fun ls hl => ?_)
      refine lv_iconst (v := nI 1) hx hb dL_place_17 (by decide) ?_
      rw [← hQ]
      refine W.widen (k := 2) (n := 12) (by omega) (by omega) ?_
      exact W.iret (v := nI 1) hx hb hr (fun t ht hW => ⟨⟨nI 1, (), rfl, (by rw [e9]), (by show va_P D vwCl (wG cI cZ cO ad n np nq F) t.heap ∧ va_P D vwCl [(o, .inl (cL, 1, .inr (.inl (outG g (spPlace n F s0 k0 tb)))))] t.heap; rw [ht]; exact ⟨hP, (by unfold outG; rw [e9, if_neg (by decide)]; exact hO)⟩)⟩, hS.F ht⟩) hS.2.2 dL_place_18
    · refine vx_catch hown [(⟨0, 12, 15, 21⟩ : ExceptionTableEntry)] (⟨0, 12, 19, 13⟩ : ExceptionTableEntry) [] htab (fun z hz => by (have hz := List.mem_singleton.mp hz; subst hz; exact Or.inr ⟨by decide, "java/lang/IndexOutOfBoundsException", hts (.classLink RL 21 "java/lang/IndexOutOfBoundsException") (by decide +kernel), hV.2.1⟩)) (by decide) (by decide) (hts (.classLink RL 13 "java/lang/IllegalArgumentException") (by decide +kernel)) (va_any rfl hV.1.2.2.2.2.2.2.2.2.2.2.1) hce hcv hcl ?_
      refine lv_astore (lv' := [(5, .ref q9), (0, .ref (ad 0)), (1, .int s0), (2, .int k0), (3, .int (bI tb)), (4, .ref o)]) hx hb dL_place_19 hl (by decide) rfl (fun ls hl => ?_)
      refine lv_iconst (v := nI 2) hx hb dL_place_21 (by decide) ?_
      rw [← hQ]
      refine W.widen (k := 2) (n := 12) (by omega) (by omega) ?_
      exact W.iret (v := nI 2) hx hb hr (fun t ht hW => ⟨⟨nI 2, (), rfl, (by rw [e9]), (by show va_P D vwCl (wG cI cZ cO ad n np nq F) t.heap ∧ va_P D vwCl [(o, .inl (cL, 1, .inr (.inl (outG g (spPlace n F s0 k0 tb)))))] t.heap; rw [ht]; exact ⟨hP, (by unfold outG; rw [e9, if_neg (by decide)]; exact hO)⟩)⟩, hS.F ht⟩) hS.2.2 dL_place_22
  · have hP := P_kept hP hk
    have hO := P_kept hO hk
    refine lv_i2l hx hb dL_place_10 rfl ?_
    refine va_last (a := o) (cA := cL) (n := 1) (f := g) (i := nI 0) (x := r.toInt64) hx hb hK (hP.app hO) (gl_D hinj ho) hS 24 3 gl_at rfl (vp_in_nI (by decide) (by decide)) dL_place_11 (fun H locs hP hD hS => ?_)
    rw [gl_set] at hP
    refine lv_goto (tgt := 23) hx hb dL_place_12 (by decide) ?_
    refine lv_iconst (v := nI 0) hx hb dL_place_23 (by decide) ?_
    rw [← hQ]
    refine W.widen (k := 2) (n := 12) (by omega) (by omega) ?_
    exact W.iret (v := nI 0) hx hb hr (fun t ht hW => ⟨⟨nI 0, (), rfl, (by rw [hw]), (by show va_P D vwCl (wG cI cZ cO ad n np nq F) t.heap ∧ va_P D vwCl [(o, .inl (cL, 1, .inr (.inl (outG g (spPlace n F s0 k0 tb)))))] t.heap; rw [ht]; exact ⟨P_drop hP, (by unfold outG; rw [hw, if_pos rfl]; exact P_last hP)⟩)⟩, hS.F ht⟩) hS.2.2 dL_place_24
set_option maxHeartbeats 4000000 in
set_option maxRecDepth 100000 in
theorem c_L_piece (l : Launch) (hst : l.stackTraces = false) (D : va_G) (cI cZ cO cL : ClassId) (ad : Nat → Nat) (n np nq : Nat) (F : Nat → Nat → Int32) (o : Nat) (g : Nat → Int64) (p0 : Int32) (w0 : Int32) (hinj : inj ad 23) (ho : ∀ i, i ≤ 23 → ¬ o = ad i) (hnp : np ≤ 150) : Met l yL_piece wsL_piece ({ frames := 8, cells := 2, slots := 12, locals := 125 } : Room) (va_Pc [.ref (ad 0), .int p0, .int w0, .ref o] (Pr D (gT cI cZ cO ++ [(cL, .long)]) (wG cI cZ cO ad n np nq F ++ [(o, .inl (cL, 1, .inr (.inl g)))]) (EnvL (inO ad o)))) (va_Qi (S := Unit) (fun (r : Int32) (_ : Unit) => r = nI (spPiece np F p0 w0).1) (fun (_ : Unit) (t : State) => va_P D vwCl (wG cI cZ cO ad n np nq F) t.heap ∧ va_P D vwCl [(o, .inl (cL, 1, .inr (.inl (outG g (spPiece np F p0 w0)))))] t.heap) (inO ad o)) 2 12 (inO ad o) := by
  refine met_ofWH (cc := cL_piece) (maxL := 5) (ret := (some .int)) (hh := [(0, 10, 13, 21)]) (by decide) rfl ?_
  intro p e s m args below meth c s₁ B hml hv
  obtain ⟨hargs, hP0, hK, hV⟩ := hv
  have hx := B.exec
  have hb := B.bytes
  have hr := B.returns
  have hts := atoms_spec (ws := wsL_piece) B.pre
  have hown : s.vm.findClass RL = some m.cls := findClass_of_methodNamed B.named
  have hlocks := B.notSynchronized
  have htab : c.exceptionTable.toList = tableOf [(0, 10, 13, 21)] := vx_table (x := yL_piece) B (hts (.codeWith yL_piece cL_piece 5 (some .int) [(0, 10, 13, 21)]) List.mem_cons_self)
  have hP := P_drop hP0
  have hO := P_last hP0
  have hS : va_S (inO ad o) s.heap s.heap [] := va_S.rf
  have hRf : 8 ≤ (headSpec wsL_piece ({ frames := 8, cells := 2, slots := 12, locals := 125 } : Room)).room.frames := Nat.le_refl _
  have hRl : 125 ≤ (headSpec wsL_piece ({ frames := 8, cells := 2, slots := 12, locals := 125 } : Room)).room.locals := Nat.le_refl _
  have hRc : 2 ≤ (headSpec wsL_piece ({ frames := 8, cells := 2, slots := 12, locals := 125 } : Room)).room.cells := Nat.le_refl _
  have hRs : 12 ≤ (headSpec wsL_piece ({ frames := 8, cells := 2, slots := 12, locals := 125 } : Room)).room.slots := Nat.le_refl _
  generalize (headSpec wsL_piece ({ frames := 8, cells := 2, slots := 12, locals := 125 } : Room)).room = R at hRf hRl hRc hRs ⊢
  have hl := lv_entry [.ref (ad 0), .int p0, .int w0, .ref o] (n := 5) (Nat.le_of_ble_eq_true rfl)
  refine W.eq (show entryFrame m args 5 = _ from by rw [hargs, lg_entry_eq]) ?_
  generalize (lg_sl [.ref (ad 0), .int p0, .int w0, .ref o] ++ List.replicate (5 - (lg_sl [.ref (ad 0), .int p0, .int w0, .ref o]).length) Slot.unset).toArray = ls at hl ⊢
  have hl : lv_has ls 5 [(0, .ref (ad 0)), (1, .int p0), (2, .int w0), (3, .ref o)] := hl
  generalize hQ : MQ _ _ _ _ _ _ _ = Q
  refine lv_aload_n hx hb dL_piece_0 rfl (lv_at hl 3 rfl) ?_
  refine lv_iconst (v := nI 0) hx hb dL_piece_1 (by decide) ?_
  refine lv_aload_n hx hb dL_piece_2 rfl (lv_at hl 0 rfl) ?_
  refine lv_iload_n hx hb dL_piece_3 rfl (lv_at hl 1 rfl) ?_
  refine lv_iload_n hx hb dL_piece_4 rfl (lv_at hl 2 rfl) ?_
  refine vx_calli (vx_runV (As := [.int p0, .int w0]) (rest := [.int (nI 0), .ref o]) ⟨hx, hb, hml, hown, hts⟩ (c_X0_piece l hst D cI cZ cO ad n np nq F p0 w0 hnp) (cwV 2 hts gL_piece_X0_piece rfl rfl rfl (by decide +kernel) ⟨Nat.le_trans (Nat.le_of_ble_eq_true rfl) hRf, Nat.le_trans (Nat.le_of_ble_eq_true rfl) hRl⟩) (pr_V hP (ci := 0) (q0 := 0) rfl g_at0 rfl hP hK [0, 1, 2] rfl (hV.1.at hS sub_id sub_no) EnvG_c) rfl rfl hl.1 rfl (lv_room (Nat.le_of_ble_eq_true rfl)) dL_piece_5 ⟨Nat.le_trans (Nat.le_of_ble_eq_true rfl) hRc, Nat.le_trans (Nat.le_of_ble_eq_true rfl) hRs⟩) hS (fun _ _ h => h.elim) (fun _ h => h.elim) (fun _ _ h => h.elim) (fun E ce q9 _ t H1 locs ht hvm hpx hbx _ hk hS hce hcv hcl => ?_) (fun r u t H1 locs ht hvm hw hB hz hk hS => ?_)
  · have hP := P_kept hP hk
    have hO := P_kept hO hk
    obtain ⟨rfl, e9⟩ := hbx
    refine vx_catch hown [] (⟨0, 10, 13, 21⟩ : ExceptionTableEntry) [] htab (fun z hz => by simp at hz) (by decide) (by decide) (hts (.classLink RL 21 "java/lang/IndexOutOfBoundsException") (by decide +kernel)) (va_any rfl hV.1.2.2.2.2.2.2.2.2.2.1) hce hcv hcl ?_
    refine lv_astore (lv' := [(4, .ref q9), (0, .ref (ad 0)), (1, .int p0), (2, .int w0), (3, .ref o)]) hx hb dL_piece_13 hl (by decide) rfl (fun ls hl => ?_)
    refine lv_iconst (v := nI 1) hx hb dL_piece_15 (by decide) ?_
    rw [← hQ]
    refine W.widen (k := 2) (n := 12) (by omega) (by omega) ?_
    exact W.iret (v := nI 1) hx hb hr (fun t ht hW => ⟨⟨nI 1, (), rfl, (by rw [e9]), (by show va_P D vwCl (wG cI cZ cO ad n np nq F) t.heap ∧ va_P D vwCl [(o, .inl (cL, 1, .inr (.inl (outG g (spPiece np F p0 w0)))))] t.heap; rw [ht]; exact ⟨hP, (by unfold outG; rw [e9, if_neg (by decide)]; exact hO)⟩)⟩, hS.F ht⟩) hS.2.2 dL_piece_16
  · have hP := P_kept hP hk
    have hO := P_kept hO hk
    refine lv_i2l hx hb dL_piece_8 rfl ?_
    refine va_last (a := o) (cA := cL) (n := 1) (f := g) (i := nI 0) (x := r.toInt64) hx hb hK (hP.app hO) (gl_D hinj ho) hS 24 3 gl_at rfl (vp_in_nI (by decide) (by decide)) dL_piece_9 (fun H locs hP hD hS => ?_)
    rw [gl_set] at hP
    refine lv_goto (tgt := 17) hx hb dL_piece_10 (by decide) ?_
    refine lv_iconst (v := nI 0) hx hb dL_piece_17 (by decide) ?_
    rw [← hQ]
    refine W.widen (k := 2) (n := 12) (by omega) (by omega) ?_
    exact W.iret (v := nI 0) hx hb hr (fun t ht hW => ⟨⟨nI 0, (), rfl, (by rw [hw]), (by show va_P D vwCl (wG cI cZ cO ad n np nq F) t.heap ∧ va_P D vwCl [(o, .inl (cL, 1, .inr (.inl (outG g (spPiece np F p0 w0)))))] t.heap; rw [ht]; exact ⟨P_drop hP, (by unfold outG; rw [hw, if_pos rfl]; exact P_last hP)⟩)⟩, hS.F ht⟩) hS.2.2 dL_piece_18
set_option maxHeartbeats 4000000 in
set_option maxRecDepth 100000 in
theorem c_L_sew (l : Launch) (hst : l.stackTraces = false) (D : va_G) (cI cZ cO cL : ClassId) (ad : Nat → Nat) (n np nq : Nat) (F : Nat → Nat → Int32) (o : Nat) (g : Nat → Int64) (c0 : Int32) (hinj : inj ad 23) (ho : ∀ i, i ≤ 23 → ¬ o = ad i) (hn : n ≤ 10) (hnp : np ≤ 150) (hnq : nq ≤ 20) (hsk : ∀ p, p < np → ∃ k, k < n ∧ F 4 p = nI k) (hfr : ∀ p, p < np → ¬ F 6 p = nI nq) (h11b : ∀ q, nq ≤ q → q < 20 → F 11 q = 0) : Met l yL_sew wsL_sew ({ frames := 8, cells := 3, slots := 18, locals := 124 } : Room) (va_Pc [.ref (ad 0), .int c0, .ref o] (Pr D (gT cI cZ cO ++ [(cL, .long)]) (wG cI cZ cO ad n np nq F ++ [(o, .inl (cL, 1, .inr (.inl g)))]) (EnvL (inO ad o)))) (va_Qi (S := Unit) (fun (r : Int32) (_ : Unit) => r = nI (spSew n np nq F c0).1) (fun (_ : Unit) (t : State) => va_P D vwCl (if (spSew n np nq F c0).1 = 0 then wG cI cZ cO ad n np (nq + 1) (swF F n np nq c0) else wG cI cZ cO ad n np nq F) t.heap ∧ va_P D vwCl [(o, .inl (cL, 1, .inr (.inl (outG g (spSew n np nq F c0)))))] t.heap) (inO ad o)) 3 18 (inO ad o) := by
  refine met_ofWH (cc := cL_sew) (maxL := 4) (ret := (some .int)) (hh := [(0, 9, 12, 13), (0, 9, 15, 15)]) (by decide) rfl ?_
  intro p e s m args below meth c s₁ B hml hv
  obtain ⟨hargs, hP0, hK, hV⟩ := hv
  have hx := B.exec
  have hb := B.bytes
  have hr := B.returns
  have hts := atoms_spec (ws := wsL_sew) B.pre
  have hown : s.vm.findClass RL = some m.cls := findClass_of_methodNamed B.named
  have hlocks := B.notSynchronized
  have htab : c.exceptionTable.toList = tableOf [(0, 9, 12, 13), (0, 9, 15, 15)] := vx_table (x := yL_sew) B (hts (.codeWith yL_sew cL_sew 4 (some .int) [(0, 9, 12, 13), (0, 9, 15, 15)]) List.mem_cons_self)
  have hP := P_drop hP0
  have hO := P_last hP0
  have hS : va_S (inO ad o) s.heap s.heap [] := va_S.rf
  have hRf : 8 ≤ (headSpec wsL_sew ({ frames := 8, cells := 3, slots := 18, locals := 124 } : Room)).room.frames := Nat.le_refl _
  have hRl : 124 ≤ (headSpec wsL_sew ({ frames := 8, cells := 3, slots := 18, locals := 124 } : Room)).room.locals := Nat.le_refl _
  have hRc : 3 ≤ (headSpec wsL_sew ({ frames := 8, cells := 3, slots := 18, locals := 124 } : Room)).room.cells := Nat.le_refl _
  have hRs : 18 ≤ (headSpec wsL_sew ({ frames := 8, cells := 3, slots := 18, locals := 124 } : Room)).room.slots := Nat.le_refl _
  generalize (headSpec wsL_sew ({ frames := 8, cells := 3, slots := 18, locals := 124 } : Room)).room = R at hRf hRl hRc hRs ⊢
  have hl := lv_entry [.ref (ad 0), .int c0, .ref o] (n := 4) (Nat.le_of_ble_eq_true rfl)
  refine W.eq (show entryFrame m args 4 = _ from by rw [hargs, lg_entry_eq]) ?_
  generalize (lg_sl [.ref (ad 0), .int c0, .ref o] ++ List.replicate (4 - (lg_sl [.ref (ad 0), .int c0, .ref o]).length) Slot.unset).toArray = ls at hl ⊢
  have hl : lv_has ls 4 [(0, .ref (ad 0)), (1, .int c0), (2, .ref o)] := hl
  generalize hQ : MQ _ _ _ _ _ _ _ = Q
  refine lv_aload_n hx hb dL_sew_0 rfl (lv_at hl 2 rfl) ?_
  refine lv_iconst (v := nI 0) hx hb dL_sew_1 (by decide) ?_
  refine lv_aload_n hx hb dL_sew_2 rfl (lv_at hl 0 rfl) ?_
  refine lv_iload_n hx hb dL_sew_3 rfl (lv_at hl 1 rfl) ?_
  refine vx_calli (vx_runV (As := [.int c0]) (rest := [.int (nI 0), .ref o]) ⟨hx, hb, hml, hown, hts⟩ (c_X0_sew l hst D cI cZ cO ad n np nq F c0 hinj hn hnp hnq hsk hfr h11b) (cwV 1 hts gL_sew_X0_sew rfl rfl rfl (by decide +kernel) ⟨Nat.le_trans (Nat.le_of_ble_eq_true rfl) hRf, Nat.le_trans (Nat.le_of_ble_eq_true rfl) hRl⟩) (pr_V hP (ci := 0) (q0 := 0) rfl g_at0 rfl hP hK [0, 1, 2] rfl (hV.1.at hS sub_id (fun _ h => Or.inl h)) EnvG_c) rfl rfl hl.1 rfl (lv_room (Nat.le_of_ble_eq_true rfl)) dL_sew_4 ⟨Nat.le_trans (Nat.le_of_ble_eq_true rfl) hRc, Nat.le_trans (Nat.le_of_ble_eq_true rfl) hRs⟩) hS (fun _ _ h => Or.inl h) (fun _ h => Or.inl h) (fun _ _ h => h.elim) (fun E ce q9 _ t H1 locs ht hvm hpx hbx _ hk hS hce hcv hcl => ?_) (fun r u t H1 locs ht hvm hw hB hz hk hS => ?_)
  · have hP := P_kept hP hk
    have hO := P_kept hO hk
    rcases hbx with ⟨rfl, e9⟩ | ⟨rfl, e9⟩
    · refine vx_catch hown [] (⟨0, 9, 12, 13⟩ : ExceptionTableEntry) [(⟨0, 9, 15, 15⟩ : ExceptionTableEntry)] htab (fun z hz => by simp at hz) (by decide) (by decide) (hts (.classLink RL 13 "java/lang/IllegalArgumentException") (by decide +kernel)) (va_any rfl hV.1.2.2.2.2.2.2.2.2.2.2.1) hce hcv hcl ?_
      refine lv_astore_n (lv' := [(3, .ref q9), (0, .ref (ad 0)), (1, .int c0), (2, .ref o)]) hx hb dL_sew_12 rfl hl (by decide) rfl (fun ls hl => ?_)
      refine lv_iconst (v := nI 1) hx hb dL_sew_13 (by decide) ?_
      rw [← hQ]
      refine W.widen (k := 3) (n := 18) (by omega) (by omega) ?_
      exact W.iret (v := nI 1) hx hb hr (fun t ht hW => ⟨⟨nI 1, (), rfl, (by rw [e9]), (by show va_P D vwCl (if (spSew n np nq F c0).1 = 0 then wG cI cZ cO ad n np (nq + 1) (swF F n np nq c0) else wG cI cZ cO ad n np nq F) t.heap ∧ va_P D vwCl [(o, .inl (cL, 1, .inr (.inl (outG g (spSew n np nq F c0)))))] t.heap; rw [ht]; exact ⟨(by rw [e9, if_neg (by decide)]; exact hP), (by unfold outG; rw [e9, if_neg (by decide)]; exact hO)⟩)⟩, hS.F ht⟩) hS.2.2 dL_sew_14
    · refine vx_catch hown [(⟨0, 9, 12, 13⟩ : ExceptionTableEntry)] (⟨0, 9, 15, 15⟩ : ExceptionTableEntry) [] htab (fun z hz => by (have hz := List.mem_singleton.mp hz; subst hz; exact Or.inr ⟨by decide, "java/lang/IllegalArgumentException", hts (.classLink RL 13 "java/lang/IllegalArgumentException") (by decide +kernel), hV.2.2.2⟩)) (by decide) (by decide) (hts (.classLink RL 15 "java/lang/IllegalStateException") (by decide +kernel)) (va_any rfl hV.1.2.2.2.2.2.2.2.2.2.2.2) hce hcv hcl ?_
      refine lv_astore_n (lv' := [(3, .ref q9), (0, .ref (ad 0)), (1, .int c0), (2, .ref o)]) hx hb dL_sew_15 rfl hl (by decide) rfl (fun ls hl => ?_)
      refine lv_iconst (v := nI 2) hx hb dL_sew_16 (by decide) ?_
      rw [← hQ]
      refine W.widen (k := 3) (n := 18) (by omega) (by omega) ?_
      exact W.iret (v := nI 2) hx hb hr (fun t ht hW => ⟨⟨nI 2, (), rfl, (by rw [e9]), (by show va_P D vwCl (if (spSew n np nq F c0).1 = 0 then wG cI cZ cO ad n np (nq + 1) (swF F n np nq c0) else wG cI cZ cO ad n np nq F) t.heap ∧ va_P D vwCl [(o, .inl (cL, 1, .inr (.inl (outG g (spSew n np nq F c0)))))] t.heap; rw [ht]; exact ⟨(by rw [e9, if_neg (by decide)]; exact hP), (by unfold outG; rw [e9, if_neg (by decide)]; exact hO)⟩)⟩, hS.F ht⟩) hS.2.2 dL_sew_17
  · rw [ht] at hB
    have hO := O_kept hO ho hk
    have hP := hB
    refine lv_i2l hx hb dL_sew_7 rfl ?_
    refine va_last (a := o) (cA := cL) (n := 1) (f := g) (i := nI 0) (x := r.toInt64) hx hb hK (hP.app hO) (gl_D hinj ho) hS 24 3 gl_at rfl (vp_in_nI (by decide) (by decide)) dL_sew_8 (fun H locs hP hD hS => ?_)
    rw [gl_set] at hP
    refine lv_goto (tgt := 18) hx hb dL_sew_9 (by decide) ?_
    refine lv_iconst (v := nI 0) hx hb dL_sew_18 (by decide) ?_
    rw [← hQ]
    refine W.widen (k := 3) (n := 18) (by omega) (by omega) ?_
    exact W.iret (v := nI 0) hx hb hr (fun t ht hW => ⟨⟨nI 0, (), rfl, (by rw [hw]), (by show va_P D vwCl (if (spSew n np nq F c0).1 = 0 then wG cI cZ cO ad n np (nq + 1) (swF F n np nq c0) else wG cI cZ cO ad n np nq F) t.heap ∧ va_P D vwCl [(o, .inl (cL, 1, .inr (.inl (outG g (spSew n np nq F c0)))))] t.heap; rw [ht]; exact ⟨(by rw [hw, if_pos rfl]; exact P_drop hP), (by unfold outG; rw [hw, if_pos rfl]; exact P_last hP)⟩)⟩, hS.F ht⟩) hS.2.2 dL_sew_19
set_option maxHeartbeats 4000000 in
set_option maxRecDepth 100000 in
theorem c_L_rip (l : Launch) (hst : l.stackTraces = false) (D : va_G) (cI cZ cO cL : ClassId) (ad : Nat → Nat) (n np nq : Nat) (F : Nat → Nat → Int32) (o : Nat) (g : Nat → Int64) (q0 : Int32) (hinj : inj ad 23) (ho : ∀ i, i ≤ 23 → ¬ o = ad i) (hnp : np ≤ 150) (hnq : nq ≤ 20) : Met l yL_rip wsL_rip ({ frames := 8, cells := 2, slots := 12, locals := 127 } : Room) (va_Pc [.ref (ad 0), .int q0, .ref o] (Pr D (gT cI cZ cO ++ [(cL, .long)]) (wG cI cZ cO ad n np nq F ++ [(o, .inl (cL, 1, .inr (.inl g)))]) (EnvL (inO ad o)))) (va_Qi (S := Unit) (fun (r : Int32) (_ : Unit) => r = nI (spRip np nq F q0).1) (fun (_ : Unit) (t : State) => va_P D vwCl (if (spRip np nq F q0).1 = 0 then wG cI cZ cO ad n np nq (ripF F np (cl q0)) else wG cI cZ cO ad n np nq F) t.heap ∧ va_P D vwCl [(o, .inl (cL, 1, .inr (.inl (outG g (spRip np nq F q0)))))] t.heap) (inO ad o)) 2 12 (inO ad o) := by
  refine met_ofWH (cc := cL_rip) (maxL := 4) (ret := (some .int)) (hh := [(0, 9, 12, 21), (0, 9, 15, 15)]) (by decide) rfl ?_
  intro p e s m args below meth c s₁ B hml hv
  obtain ⟨hargs, hP0, hK, hV⟩ := hv
  have hx := B.exec
  have hb := B.bytes
  have hr := B.returns
  have hts := atoms_spec (ws := wsL_rip) B.pre
  have hown : s.vm.findClass RL = some m.cls := findClass_of_methodNamed B.named
  have hlocks := B.notSynchronized
  have htab : c.exceptionTable.toList = tableOf [(0, 9, 12, 21), (0, 9, 15, 15)] := vx_table (x := yL_rip) B (hts (.codeWith yL_rip cL_rip 4 (some .int) [(0, 9, 12, 21), (0, 9, 15, 15)]) List.mem_cons_self)
  have hP := P_drop hP0
  have hO := P_last hP0
  have hS : va_S (inO ad o) s.heap s.heap [] := va_S.rf
  have hRf : 8 ≤ (headSpec wsL_rip ({ frames := 8, cells := 2, slots := 12, locals := 127 } : Room)).room.frames := Nat.le_refl _
  have hRl : 127 ≤ (headSpec wsL_rip ({ frames := 8, cells := 2, slots := 12, locals := 127 } : Room)).room.locals := Nat.le_refl _
  have hRc : 2 ≤ (headSpec wsL_rip ({ frames := 8, cells := 2, slots := 12, locals := 127 } : Room)).room.cells := Nat.le_refl _
  have hRs : 12 ≤ (headSpec wsL_rip ({ frames := 8, cells := 2, slots := 12, locals := 127 } : Room)).room.slots := Nat.le_refl _
  generalize (headSpec wsL_rip ({ frames := 8, cells := 2, slots := 12, locals := 127 } : Room)).room = R at hRf hRl hRc hRs ⊢
  have hl := lv_entry [.ref (ad 0), .int q0, .ref o] (n := 4) (Nat.le_of_ble_eq_true rfl)
  refine W.eq (show entryFrame m args 4 = _ from by rw [hargs, lg_entry_eq]) ?_
  generalize (lg_sl [.ref (ad 0), .int q0, .ref o] ++ List.replicate (4 - (lg_sl [.ref (ad 0), .int q0, .ref o]).length) Slot.unset).toArray = ls at hl ⊢
  have hl : lv_has ls 4 [(0, .ref (ad 0)), (1, .int q0), (2, .ref o)] := hl
  generalize hQ : MQ _ _ _ _ _ _ _ = Q
  refine lv_aload_n hx hb dL_rip_0 rfl (lv_at hl 2 rfl) ?_
  refine lv_iconst (v := nI 0) hx hb dL_rip_1 (by decide) ?_
  refine lv_aload_n hx hb dL_rip_2 rfl (lv_at hl 0 rfl) ?_
  refine lv_iload_n hx hb dL_rip_3 rfl (lv_at hl 1 rfl) ?_
  refine vx_calli (vx_runV (As := [.int q0]) (rest := [.int (nI 0), .ref o]) ⟨hx, hb, hml, hown, hts⟩ (c_X0_rip l hst D cI cZ cO ad n np nq F q0 hinj hnp hnq) (cwV 1 hts gL_rip_X0_rip rfl rfl rfl (by decide +kernel) ⟨Nat.le_trans (Nat.le_of_ble_eq_true rfl) hRf, Nat.le_trans (Nat.le_of_ble_eq_true rfl) hRl⟩) (pr_V hP (ci := 0) (q0 := 0) rfl g_at0 rfl hP hK [0, 1, 2] rfl (hV.1.at hS sub_id (fun _ h => Or.inl h)) EnvG_c) rfl rfl hl.1 rfl (lv_room (Nat.le_of_ble_eq_true rfl)) dL_rip_4 ⟨Nat.le_trans (Nat.le_of_ble_eq_true rfl) hRc, Nat.le_trans (Nat.le_of_ble_eq_true rfl) hRs⟩) hS (fun _ _ h => Or.inl h) (fun _ h => Or.inl h) (fun _ _ h => h.elim) (fun E ce q9 _ t H1 locs ht hvm hpx hbx _ hk hS hce hcv hcl => ?_) (fun r u t H1 locs ht hvm hw hB hz hk hS => ?_)
  · have hP := P_kept hP hk
    have hO := P_kept hO hk
    rcases hbx with ⟨rfl, e9⟩ | ⟨rfl, e9⟩
    · refine vx_catch hown [] (⟨0, 9, 12, 21⟩ : ExceptionTableEntry) [(⟨0, 9, 15, 15⟩ : ExceptionTableEntry)] htab (fun z hz => by simp at hz) (by decide) (by decide) (hts (.classLink RL 21 "java/lang/IndexOutOfBoundsException") (by decide +kernel)) (va_any rfl hV.1.2.2.2.2.2.2.2.2.2.1) hce hcv hcl ?_
      refine lv_astore_n (lv' := [(3, .ref q9), (0, .ref (ad 0)), (1, .int q0), (2, .ref o)]) hx hb dL_rip_12 rfl hl (by decide) rfl (fun ls hl => ?_)
      refine lv_iconst (v := nI 1) hx hb dL_rip_13 (by decide) ?_
      rw [← hQ]
      refine W.widen (k := 2) (n := 12) (by omega) (by omega) ?_
      exact W.iret (v := nI 1) hx hb hr (fun t ht hW => ⟨⟨nI 1, (), rfl, (by rw [e9]), (by show va_P D vwCl (if (spRip np nq F q0).1 = 0 then wG cI cZ cO ad n np nq (ripF F np (cl q0)) else wG cI cZ cO ad n np nq F) t.heap ∧ va_P D vwCl [(o, .inl (cL, 1, .inr (.inl (outG g (spRip np nq F q0)))))] t.heap; rw [ht]; exact ⟨(by rw [e9, if_neg (by decide)]; exact hP), (by unfold outG; rw [e9, if_neg (by decide)]; exact hO)⟩)⟩, hS.F ht⟩) hS.2.2 dL_rip_14
    · refine vx_catch hown [(⟨0, 9, 12, 21⟩ : ExceptionTableEntry)] (⟨0, 9, 15, 15⟩ : ExceptionTableEntry) [] htab (fun z hz => by (have hz := List.mem_singleton.mp hz; subst hz; exact Or.inr ⟨by decide, "java/lang/IndexOutOfBoundsException", hts (.classLink RL 21 "java/lang/IndexOutOfBoundsException") (by decide +kernel), hV.2.2.1⟩)) (by decide) (by decide) (hts (.classLink RL 15 "java/lang/IllegalStateException") (by decide +kernel)) (va_any rfl hV.1.2.2.2.2.2.2.2.2.2.2.2) hce hcv hcl ?_
      refine lv_astore_n (lv' := [(3, .ref q9), (0, .ref (ad 0)), (1, .int q0), (2, .ref o)]) hx hb dL_rip_15 rfl hl (by decide) rfl (fun ls hl => ?_)
      refine lv_iconst (v := nI 2) hx hb dL_rip_16 (by decide) ?_
      rw [← hQ]
      refine W.widen (k := 2) (n := 12) (by omega) (by omega) ?_
      exact W.iret (v := nI 2) hx hb hr (fun t ht hW => ⟨⟨nI 2, (), rfl, (by rw [e9]), (by show va_P D vwCl (if (spRip np nq F q0).1 = 0 then wG cI cZ cO ad n np nq (ripF F np (cl q0)) else wG cI cZ cO ad n np nq F) t.heap ∧ va_P D vwCl [(o, .inl (cL, 1, .inr (.inl (outG g (spRip np nq F q0)))))] t.heap; rw [ht]; exact ⟨(by rw [e9, if_neg (by decide)]; exact hP), (by unfold outG; rw [e9, if_neg (by decide)]; exact hO)⟩)⟩, hS.F ht⟩) hS.2.2 dL_rip_17
  · rw [ht] at hB
    have hO := O_kept hO ho hk
    have hP := hB
    refine lv_i2l hx hb dL_rip_7 rfl ?_
    refine va_last (a := o) (cA := cL) (n := 1) (f := g) (i := nI 0) (x := r.toInt64) hx hb hK (hP.app hO) (gl_D hinj ho) hS 24 3 gl_at rfl (vp_in_nI (by decide) (by decide)) dL_rip_8 (fun H locs hP hD hS => ?_)
    rw [gl_set] at hP
    refine lv_goto (tgt := 18) hx hb dL_rip_9 (by decide) ?_
    refine lv_iconst (v := nI 0) hx hb dL_rip_18 (by decide) ?_
    rw [← hQ]
    refine W.widen (k := 2) (n := 12) (by omega) (by omega) ?_
    exact W.iret (v := nI 0) hx hb hr (fun t ht hW => ⟨⟨nI 0, (), rfl, (by rw [hw]), (by show va_P D vwCl (if (spRip np nq F q0).1 = 0 then wG cI cZ cO ad n np nq (ripF F np (cl q0)) else wG cI cZ cO ad n np nq F) t.heap ∧ va_P D vwCl [(o, .inl (cL, 1, .inr (.inl (outG g (spRip np nq F q0)))))] t.heap; rw [ht]; exact ⟨(by rw [hw, if_pos rfl]; exact P_drop hP), (by unfold outG; rw [hw, if_pos rfl]; exact P_last hP)⟩)⟩, hS.F ht⟩) hS.2.2 dL_rip_19
set_option maxHeartbeats 4000000 in
set_option maxRecDepth 100000 in
theorem c_L_pair (l : Launch) (hst : l.stackTraces = false) (D : va_G) (cI cZ cO cL : ClassId) (ad : Nat → Nat) (n np nq : Nat) (F : Nat → Nat → Int32) (o : Nat) (g : Nat → Int64) (p0 : Int32) (w0 : Int32) (hinj : inj ad 23) (ho : ∀ i, i ≤ 23 → ¬ o = ad i) (hnq : nq ≤ 20) (hrip : ∀ q, q < nq → F 12 q = 0 ∨ F 12 q = 1) : Met l yL_pair wsL_pair ({ frames := 8, cells := 2, slots := 12, locals := 125 } : Room) (va_Pc [.ref (ad 0), .int p0, .int w0, .ref o] (Pr D (gT cI cZ cO ++ [(cL, .long)]) (wG cI cZ cO ad n np nq F ++ [(o, .inl (cL, 1, .inr (.inl g)))]) (EnvL (inO ad o)))) (va_Qi (S := Unit) (fun (r : Int32) (_ : Unit) => r = nI (spPair nq F p0 w0).1) (fun (_ : Unit) (t : State) => va_P D vwCl (wG cI cZ cO ad n np nq F) t.heap ∧ va_P D vwCl [(o, .inl (cL, 1, .inr (.inl (outG g (spPair nq F p0 w0)))))] t.heap) (inO ad o)) 2 12 (inO ad o) := by
  refine met_ofWH (cc := cL_pair) (maxL := 5) (ret := (some .int)) (hh := [(0, 10, 13, 21)]) (by decide) rfl ?_
  intro p e s m args below meth c s₁ B hml hv
  obtain ⟨hargs, hP0, hK, hV⟩ := hv
  have hx := B.exec
  have hb := B.bytes
  have hr := B.returns
  have hts := atoms_spec (ws := wsL_pair) B.pre
  have hown : s.vm.findClass RL = some m.cls := findClass_of_methodNamed B.named
  have hlocks := B.notSynchronized
  have htab : c.exceptionTable.toList = tableOf [(0, 10, 13, 21)] := vx_table (x := yL_pair) B (hts (.codeWith yL_pair cL_pair 5 (some .int) [(0, 10, 13, 21)]) List.mem_cons_self)
  have hP := P_drop hP0
  have hO := P_last hP0
  have hS : va_S (inO ad o) s.heap s.heap [] := va_S.rf
  have hRf : 8 ≤ (headSpec wsL_pair ({ frames := 8, cells := 2, slots := 12, locals := 125 } : Room)).room.frames := Nat.le_refl _
  have hRl : 125 ≤ (headSpec wsL_pair ({ frames := 8, cells := 2, slots := 12, locals := 125 } : Room)).room.locals := Nat.le_refl _
  have hRc : 2 ≤ (headSpec wsL_pair ({ frames := 8, cells := 2, slots := 12, locals := 125 } : Room)).room.cells := Nat.le_refl _
  have hRs : 12 ≤ (headSpec wsL_pair ({ frames := 8, cells := 2, slots := 12, locals := 125 } : Room)).room.slots := Nat.le_refl _
  generalize (headSpec wsL_pair ({ frames := 8, cells := 2, slots := 12, locals := 125 } : Room)).room = R at hRf hRl hRc hRs ⊢
  have hl := lv_entry [.ref (ad 0), .int p0, .int w0, .ref o] (n := 5) (Nat.le_of_ble_eq_true rfl)
  refine W.eq (show entryFrame m args 5 = _ from by rw [hargs, lg_entry_eq]) ?_
  generalize (lg_sl [.ref (ad 0), .int p0, .int w0, .ref o] ++ List.replicate (5 - (lg_sl [.ref (ad 0), .int p0, .int w0, .ref o]).length) Slot.unset).toArray = ls at hl ⊢
  have hl : lv_has ls 5 [(0, .ref (ad 0)), (1, .int p0), (2, .int w0), (3, .ref o)] := hl
  generalize hQ : MQ _ _ _ _ _ _ _ = Q
  refine lv_aload_n hx hb dL_pair_0 rfl (lv_at hl 3 rfl) ?_
  refine lv_iconst (v := nI 0) hx hb dL_pair_1 (by decide) ?_
  refine lv_aload_n hx hb dL_pair_2 rfl (lv_at hl 0 rfl) ?_
  refine lv_iload_n hx hb dL_pair_3 rfl (lv_at hl 1 rfl) ?_
  refine lv_iload_n hx hb dL_pair_4 rfl (lv_at hl 2 rfl) ?_
  refine vx_calli (vx_runV (As := [.int p0, .int w0]) (rest := [.int (nI 0), .ref o]) ⟨hx, hb, hml, hown, hts⟩ (c_X0_pair l hst D cI cZ cO ad n np nq F p0 w0 hnq hrip) (cwV 2 hts gL_pair_X0_pair rfl rfl rfl (by decide +kernel) ⟨Nat.le_trans (Nat.le_of_ble_eq_true rfl) hRf, Nat.le_trans (Nat.le_of_ble_eq_true rfl) hRl⟩) (pr_V hP (ci := 0) (q0 := 0) rfl g_at0 rfl hP hK [0, 1, 2] rfl (hV.1.at hS sub_id sub_no) EnvG_c) rfl rfl hl.1 rfl (lv_room (Nat.le_of_ble_eq_true rfl)) dL_pair_5 ⟨Nat.le_trans (Nat.le_of_ble_eq_true rfl) hRc, Nat.le_trans (Nat.le_of_ble_eq_true rfl) hRs⟩) hS (fun _ _ h => h.elim) (fun _ h => h.elim) (fun _ _ h => h.elim) (fun E ce q9 _ t H1 locs ht hvm hpx hbx _ hk hS hce hcv hcl => ?_) (fun r u t H1 locs ht hvm hw hB hz hk hS => ?_)
  · have hP := P_kept hP hk
    have hO := P_kept hO hk
    obtain ⟨rfl, e9⟩ := hbx
    refine vx_catch hown [] (⟨0, 10, 13, 21⟩ : ExceptionTableEntry) [] htab (fun z hz => by simp at hz) (by decide) (by decide) (hts (.classLink RL 21 "java/lang/IndexOutOfBoundsException") (by decide +kernel)) (va_any rfl hV.1.2.2.2.2.2.2.2.2.2.1) hce hcv hcl ?_
    refine lv_astore (lv' := [(4, .ref q9), (0, .ref (ad 0)), (1, .int p0), (2, .int w0), (3, .ref o)]) hx hb dL_pair_13 hl (by decide) rfl (fun ls hl => ?_)
    refine lv_iconst (v := nI 1) hx hb dL_pair_15 (by decide) ?_
    rw [← hQ]
    refine W.widen (k := 2) (n := 12) (by omega) (by omega) ?_
    exact W.iret (v := nI 1) hx hb hr (fun t ht hW => ⟨⟨nI 1, (), rfl, (by rw [e9]), (by show va_P D vwCl (wG cI cZ cO ad n np nq F) t.heap ∧ va_P D vwCl [(o, .inl (cL, 1, .inr (.inl (outG g (spPair nq F p0 w0)))))] t.heap; rw [ht]; exact ⟨hP, (by unfold outG; rw [e9, if_neg (by decide)]; exact hO)⟩)⟩, hS.F ht⟩) hS.2.2 dL_pair_16
  · have hP := P_kept hP hk
    have hO := P_kept hO hk
    refine lv_i2l hx hb dL_pair_8 rfl ?_
    refine va_last (a := o) (cA := cL) (n := 1) (f := g) (i := nI 0) (x := r.toInt64) hx hb hK (hP.app hO) (gl_D hinj ho) hS 24 3 gl_at rfl (vp_in_nI (by decide) (by decide)) dL_pair_9 (fun H locs hP hD hS => ?_)
    rw [gl_set] at hP
    refine lv_goto (tgt := 17) hx hb dL_pair_10 (by decide) ?_
    refine lv_iconst (v := nI 0) hx hb dL_pair_17 (by decide) ?_
    rw [← hQ]
    refine W.widen (k := 2) (n := 12) (by omega) (by omega) ?_
    exact W.iret (v := nI 0) hx hb hr (fun t ht hW => ⟨⟨nI 0, (), rfl, (by rw [hw]), (by show va_P D vwCl (wG cI cZ cO ad n np nq F) t.heap ∧ va_P D vwCl [(o, .inl (cL, 1, .inr (.inl (outG g (spPair nq F p0 w0)))))] t.heap; rw [ht]; exact ⟨P_drop hP, (by unfold outG; rw [hw, if_pos rfl]; exact P_last hP)⟩)⟩, hS.F ht⟩) hS.2.2 dL_pair_18
set_option maxHeartbeats 4000000 in
set_option maxRecDepth 100000 in
theorem c_L_count (l : Launch) (hst : l.stackTraces = false) (D : va_G) (cI cZ cO cL : ClassId) (ad : Nat → Nat) (n np nq : Nat) (F : Nat → Nat → Int32) (o : Nat) (g : Nat → Int64) (w0 : Int32) (hinj : inj ad 23) (ho : ∀ i, i ≤ 23 → ¬ o = ad i) (hnp : np ≤ 150) (hnq : nq ≤ 20) : Met l yL_count wsL_count ({ frames := 8, cells := 1, slots := 6, locals := 124 } : Room) (va_Pc [.ref (ad 0), .int w0, .ref o] (Pr D (gT cI cZ cO ++ [(cL, .long)]) (wG cI cZ cO ad n np nq F ++ [(o, .inl (cL, 1, .inr (.inl g)))]) (EnvL (inO ad o)))) (va_Qi (S := Unit) (fun (r : Int32) (_ : Unit) => r = nI (spCount n np nq F w0).1) (fun (_ : Unit) (t : State) => va_P D vwCl (wG cI cZ cO ad n np nq F) t.heap ∧ va_P D vwCl [(o, .inl (cL, 1, .inr (.inl (outG g (spCount n np nq F w0)))))] t.heap) (inO ad o)) 1 6 (inO ad o) := by
  refine met_ofWH (cc := cL_count) (maxL := 4) (ret := (some .int)) (hh := [(0, 9, 12, 21)]) (by decide) rfl ?_
  intro p e s m args below meth c s₁ B hml hv
  obtain ⟨hargs, hP0, hK, hV⟩ := hv
  have hx := B.exec
  have hb := B.bytes
  have hr := B.returns
  have hts := atoms_spec (ws := wsL_count) B.pre
  have hown : s.vm.findClass RL = some m.cls := findClass_of_methodNamed B.named
  have hlocks := B.notSynchronized
  have htab : c.exceptionTable.toList = tableOf [(0, 9, 12, 21)] := vx_table (x := yL_count) B (hts (.codeWith yL_count cL_count 4 (some .int) [(0, 9, 12, 21)]) List.mem_cons_self)
  have hP := P_drop hP0
  have hO := P_last hP0
  have hS : va_S (inO ad o) s.heap s.heap [] := va_S.rf
  have hRf : 8 ≤ (headSpec wsL_count ({ frames := 8, cells := 1, slots := 6, locals := 124 } : Room)).room.frames := Nat.le_refl _
  have hRl : 124 ≤ (headSpec wsL_count ({ frames := 8, cells := 1, slots := 6, locals := 124 } : Room)).room.locals := Nat.le_refl _
  have hRc : 1 ≤ (headSpec wsL_count ({ frames := 8, cells := 1, slots := 6, locals := 124 } : Room)).room.cells := Nat.le_refl _
  have hRs : 6 ≤ (headSpec wsL_count ({ frames := 8, cells := 1, slots := 6, locals := 124 } : Room)).room.slots := Nat.le_refl _
  generalize (headSpec wsL_count ({ frames := 8, cells := 1, slots := 6, locals := 124 } : Room)).room = R at hRf hRl hRc hRs ⊢
  have hl := lv_entry [.ref (ad 0), .int w0, .ref o] (n := 4) (Nat.le_of_ble_eq_true rfl)
  refine W.eq (show entryFrame m args 4 = _ from by rw [hargs, lg_entry_eq]) ?_
  generalize (lg_sl [.ref (ad 0), .int w0, .ref o] ++ List.replicate (4 - (lg_sl [.ref (ad 0), .int w0, .ref o]).length) Slot.unset).toArray = ls at hl ⊢
  have hl : lv_has ls 4 [(0, .ref (ad 0)), (1, .int w0), (2, .ref o)] := hl
  generalize hQ : MQ _ _ _ _ _ _ _ = Q
  refine lv_aload_n hx hb dL_count_0 rfl (lv_at hl 2 rfl) ?_
  refine lv_iconst (v := nI 0) hx hb dL_count_1 (by decide) ?_
  refine lv_aload_n hx hb dL_count_2 rfl (lv_at hl 0 rfl) ?_
  refine lv_iload_n hx hb dL_count_3 rfl (lv_at hl 1 rfl) ?_
  refine vx_calli (vx_runV (As := [.int w0]) (rest := [.int (nI 0), .ref o]) ⟨hx, hb, hml, hown, hts⟩ (c_X0_count l hst D cI cZ cO ad n np nq F w0 hnp hnq) (cwV 1 hts gL_count_X0_count rfl rfl rfl (by decide +kernel) ⟨Nat.le_trans (Nat.le_of_ble_eq_true rfl) hRf, Nat.le_trans (Nat.le_of_ble_eq_true rfl) hRl⟩) (pr_V hP (ci := 0) (q0 := 0) rfl g_at0 rfl hP hK [0, 1, 2] rfl (hV.1.at hS sub_id sub_no) EnvG_c) rfl rfl hl.1 rfl (lv_room (Nat.le_of_ble_eq_true rfl)) dL_count_4 ⟨Nat.le_trans (Nat.le_of_ble_eq_true rfl) hRc, Nat.le_trans (Nat.le_of_ble_eq_true rfl) hRs⟩) hS (fun _ _ h => h.elim) (fun _ h => h.elim) (fun _ _ h => h.elim) (fun E ce q9 _ t H1 locs ht hvm hpx hbx _ hk hS hce hcv hcl => ?_) (fun r u t H1 locs ht hvm hw hB hz hk hS => ?_)
  · have hP := P_kept hP hk
    have hO := P_kept hO hk
    obtain ⟨rfl, e9⟩ := hbx
    refine vx_catch hown [] (⟨0, 9, 12, 21⟩ : ExceptionTableEntry) [] htab (fun z hz => by simp at hz) (by decide) (by decide) (hts (.classLink RL 21 "java/lang/IndexOutOfBoundsException") (by decide +kernel)) (va_any rfl hV.1.2.2.2.2.2.2.2.2.2.1) hce hcv hcl ?_
    refine lv_astore_n (lv' := [(3, .ref q9), (0, .ref (ad 0)), (1, .int w0), (2, .ref o)]) hx hb dL_count_12 rfl hl (by decide) rfl (fun ls hl => ?_)
    refine lv_iconst (v := nI 1) hx hb dL_count_13 (by decide) ?_
    rw [← hQ]
    refine W.widen (k := 1) (n := 6) (by omega) (by omega) ?_
    exact W.iret (v := nI 1) hx hb hr (fun t ht hW => ⟨⟨nI 1, (), rfl, (by rw [e9]), (by show va_P D vwCl (wG cI cZ cO ad n np nq F) t.heap ∧ va_P D vwCl [(o, .inl (cL, 1, .inr (.inl (outG g (spCount n np nq F w0)))))] t.heap; rw [ht]; exact ⟨hP, (by unfold outG; rw [e9, if_neg (by decide)]; exact hO)⟩)⟩, hS.F ht⟩) hS.2.2 dL_count_14
  · have hP := P_kept hP hk
    have hO := P_kept hO hk
    refine lv_i2l hx hb dL_count_7 rfl ?_
    refine va_last (a := o) (cA := cL) (n := 1) (f := g) (i := nI 0) (x := r.toInt64) hx hb hK (hP.app hO) (gl_D hinj ho) hS 24 3 gl_at rfl (vp_in_nI (by decide) (by decide)) dL_count_8 (fun H locs hP hD hS => ?_)
    rw [gl_set] at hP
    refine lv_goto (tgt := 15) hx hb dL_count_9 (by decide) ?_
    refine lv_iconst (v := nI 0) hx hb dL_count_15 (by decide) ?_
    rw [← hQ]
    refine W.widen (k := 1) (n := 6) (by omega) (by omega) ?_
    exact W.iret (v := nI 0) hx hb hr (fun t ht hW => ⟨⟨nI 0, (), rfl, (by rw [hw]), (by show va_P D vwCl (wG cI cZ cO ad n np nq F) t.heap ∧ va_P D vwCl [(o, .inl (cL, 1, .inr (.inl (outG g (spCount n np nq F w0)))))] t.heap; rw [ht]; exact ⟨P_drop hP, (by unfold outG; rw [hw, if_pos rfl]; exact P_last hP)⟩)⟩, hS.F ht⟩) hS.2.2 dL_count_16
set_option maxHeartbeats 4000000 in
set_option maxRecDepth 100000 in
theorem c_L_gives (l : Launch) (hst : l.stackTraces = false) (D : va_G) (cI cZ cO cL : ClassId) (ad : Nat → Nat) (n np nq : Nat) (F : Nat → Nat → Int32) (o : Nat) (g : Nat → Int64) (s0 : Int32) (k0 : Int32) (tb : Bool) (hinj : inj ad 23) (ho : ∀ i, i ≤ 23 → ¬ o = ad i) (hn : n ≤ 10) : Met l yL_gives wsL_gives ({ frames := 8, cells := 2, slots := 12, locals := 128 } : Room) (va_Pc [.ref (ad 0), .int s0, .int k0, .int (bI tb), .ref o] (Pr D (gT cI cZ cO ++ [(cL, .long)]) (wG cI cZ cO ad n np nq F ++ [(o, .inl (cL, 1, .inr (.inl g)))]) (EnvL (inO ad o)))) (va_Qi (S := (Nat → Int32)) (fun (r : Int32) (_ : (Nat → Int32)) => r = nI (spGives n F s0 k0 tb).1) (fun (u : (Nat → Int32)) (t : State) => va_P D vwCl (wG cI cZ cO ad n np nq (va_up F 13 u)) t.heap ∧ va_P D vwCl [(o, .inl (cL, 1, .inr (.inl (outG g (spGives n F s0 k0 tb)))))] t.heap) (inO ad o)) 2 12 (inO ad o) := by
  refine met_ofWH (cc := cL_gives) (maxL := 6) (ret := (some .int)) (hh := [(0, 12, 15, 21), (0, 12, 19, 13)]) (by decide) rfl ?_
  intro p e s m args below meth c s₁ B hml hv
  obtain ⟨hargs, hP0, hK, hV⟩ := hv
  have hx := B.exec
  have hb := B.bytes
  have hr := B.returns
  have hts := atoms_spec (ws := wsL_gives) B.pre
  have hown : s.vm.findClass RL = some m.cls := findClass_of_methodNamed B.named
  have hlocks := B.notSynchronized
  have htab : c.exceptionTable.toList = tableOf [(0, 12, 15, 21), (0, 12, 19, 13)] := vx_table (x := yL_gives) B (hts (.codeWith yL_gives cL_gives 6 (some .int) [(0, 12, 15, 21), (0, 12, 19, 13)]) List.mem_cons_self)
  have hP := P_drop hP0
  have hO := P_last hP0
  have hS : va_S (inO ad o) s.heap s.heap [] := va_S.rf
  have hRf : 8 ≤ (headSpec wsL_gives ({ frames := 8, cells := 2, slots := 12, locals := 128 } : Room)).room.frames := Nat.le_refl _
  have hRl : 128 ≤ (headSpec wsL_gives ({ frames := 8, cells := 2, slots := 12, locals := 128 } : Room)).room.locals := Nat.le_refl _
  have hRc : 2 ≤ (headSpec wsL_gives ({ frames := 8, cells := 2, slots := 12, locals := 128 } : Room)).room.cells := Nat.le_refl _
  have hRs : 12 ≤ (headSpec wsL_gives ({ frames := 8, cells := 2, slots := 12, locals := 128 } : Room)).room.slots := Nat.le_refl _
  generalize (headSpec wsL_gives ({ frames := 8, cells := 2, slots := 12, locals := 128 } : Room)).room = R at hRf hRl hRc hRs ⊢
  have hl := lv_entry [.ref (ad 0), .int s0, .int k0, .int (bI tb), .ref o] (n := 6) (Nat.le_of_ble_eq_true rfl)
  refine W.eq (show entryFrame m args 6 = _ from by rw [hargs, lg_entry_eq]) ?_
  generalize (lg_sl [.ref (ad 0), .int s0, .int k0, .int (bI tb), .ref o] ++ List.replicate (6 - (lg_sl [.ref (ad 0), .int s0, .int k0, .int (bI tb), .ref o]).length) Slot.unset).toArray = ls at hl ⊢
  have hl : lv_has ls 6 [(0, .ref (ad 0)), (1, .int s0), (2, .int k0), (3, .int (bI tb)), (4, .ref o)] := hl
  generalize hQ : MQ _ _ _ _ _ _ _ = Q
  refine lv_aload hx hb dL_gives_0 (lv_at hl 4 rfl) ?_
  refine lv_iconst (v := nI 0) hx hb dL_gives_2 (by decide) ?_
  refine lv_aload_n hx hb dL_gives_3 rfl (lv_at hl 0 rfl) ?_
  refine lv_iload_n hx hb dL_gives_4 rfl (lv_at hl 1 rfl) ?_
  refine lv_iload_n hx hb dL_gives_5 rfl (lv_at hl 2 rfl) ?_
  refine lv_iload_n hx hb dL_gives_6 rfl (lv_at hl 3 rfl) ?_
  refine vx_calli (vx_runV (As := [.int s0, .int k0, .int (bI tb)]) (rest := [.int (nI 0), .ref o]) ⟨hx, hb, hml, hown, hts⟩ (c_X0_gives l hst D cI cZ cO ad n np nq F s0 k0 tb hinj hn) (cwV 3 hts gL_gives_X0_gives rfl rfl rfl (by decide +kernel) ⟨Nat.le_trans (Nat.le_of_ble_eq_true rfl) hRf, Nat.le_trans (Nat.le_of_ble_eq_true rfl) hRl⟩) (pr_V hP (ci := 0) (q0 := 0) rfl g_at0 rfl hP hK [0, 1, 2] rfl (hV.1.at hS sub_id (fun _ h => Or.inl h)) EnvG_c) rfl rfl hl.1 rfl (lv_room (Nat.le_of_ble_eq_true rfl)) dL_gives_7 ⟨Nat.le_trans (Nat.le_of_ble_eq_true rfl) hRc, Nat.le_trans (Nat.le_of_ble_eq_true rfl) hRs⟩) hS (fun _ _ h => Or.inl h) (fun _ h => Or.inl h) (fun _ _ h => h.elim) (fun E ce q9 _ t H1 locs ht hvm hpx hbx _ hk hS hce hcv hcl => ?_) (fun r u t H1 locs ht hvm hw hB hz hk hS => ?_)
  · have hP := P_kept hP hk
    have hO := P_kept hO hk
    rcases hbx with ⟨rfl, e9⟩ | ⟨rfl, e9⟩
    · refine vx_catch hown [] (⟨0, 12, 15, 21⟩ : ExceptionTableEntry) [(⟨0, 12, 19, 13⟩ : ExceptionTableEntry)] htab (fun z hz => by simp at hz) (by decide) (by decide) (hts (.classLink RL 21 "java/lang/IndexOutOfBoundsException") (by decide +kernel)) (va_any rfl hV.1.2.2.2.2.2.2.2.2.2.1) hce hcv hcl ?_
      refine lv_astore (lv' := [(5, .ref q9), (0, .ref (ad 0)), (1, .int s0), (2, .int k0), (3, .int (bI tb)), (4, .ref o)]) hx hb dL_gives_15 hl (by decide) rfl (fun ls hl => ?_)
      refine lv_iconst (v := nI 1) hx hb dL_gives_17 (by decide) ?_
      rw [← hQ]
      refine W.widen (k := 2) (n := 12) (by omega) (by omega) ?_
      exact W.iret (v := nI 1) hx hb hr (fun t ht hW => ⟨⟨nI 1, (F 13), rfl, (by rw [e9]), (by show va_P D vwCl (wG cI cZ cO ad n np nq (va_up F 13 (F 13))) t.heap ∧ va_P D vwCl [(o, .inl (cL, 1, .inr (.inl (outG g (spGives n F s0 k0 tb)))))] t.heap; rw [ht]; exact ⟨(by rw [va_up_id]; exact hP), (by unfold outG; rw [e9, if_neg (by decide)]; exact hO)⟩)⟩, hS.F ht⟩) hS.2.2 dL_gives_18
    · refine vx_catch hown [(⟨0, 12, 15, 21⟩ : ExceptionTableEntry)] (⟨0, 12, 19, 13⟩ : ExceptionTableEntry) [] htab (fun z hz => by (have hz := List.mem_singleton.mp hz; subst hz; exact Or.inr ⟨by decide, "java/lang/IndexOutOfBoundsException", hts (.classLink RL 21 "java/lang/IndexOutOfBoundsException") (by decide +kernel), hV.2.1⟩)) (by decide) (by decide) (hts (.classLink RL 13 "java/lang/IllegalArgumentException") (by decide +kernel)) (va_any rfl hV.1.2.2.2.2.2.2.2.2.2.2.1) hce hcv hcl ?_
      refine lv_astore (lv' := [(5, .ref q9), (0, .ref (ad 0)), (1, .int s0), (2, .int k0), (3, .int (bI tb)), (4, .ref o)]) hx hb dL_gives_19 hl (by decide) rfl (fun ls hl => ?_)
      refine lv_iconst (v := nI 2) hx hb dL_gives_21 (by decide) ?_
      rw [← hQ]
      refine W.widen (k := 2) (n := 12) (by omega) (by omega) ?_
      exact W.iret (v := nI 2) hx hb hr (fun t ht hW => ⟨⟨nI 2, (F 13), rfl, (by rw [e9]), (by show va_P D vwCl (wG cI cZ cO ad n np nq (va_up F 13 (F 13))) t.heap ∧ va_P D vwCl [(o, .inl (cL, 1, .inr (.inl (outG g (spGives n F s0 k0 tb)))))] t.heap; rw [ht]; exact ⟨(by rw [va_up_id]; exact hP), (by unfold outG; rw [e9, if_neg (by decide)]; exact hO)⟩)⟩, hS.F ht⟩) hS.2.2 dL_gives_22
  · rw [ht] at hB
    have hO := O_kept hO ho hk
    have hP := hB
    refine lv_i2l hx hb dL_gives_10 rfl ?_
    refine va_last (a := o) (cA := cL) (n := 1) (f := g) (i := nI 0) (x := r.toInt64) hx hb hK (hP.app hO) (gl_D hinj ho) hS 24 3 gl_at rfl (vp_in_nI (by decide) (by decide)) dL_gives_11 (fun H locs hP hD hS => ?_)
    rw [gl_set] at hP
    refine lv_goto (tgt := 23) hx hb dL_gives_12 (by decide) ?_
    refine lv_iconst (v := nI 0) hx hb dL_gives_23 (by decide) ?_
    rw [← hQ]
    refine W.widen (k := 2) (n := 12) (by omega) (by omega) ?_
    exact W.iret (v := nI 0) hx hb hr (fun t ht hW => ⟨⟨nI 0, u, rfl, (by rw [hw]), (by show va_P D vwCl (wG cI cZ cO ad n np nq (va_up F 13 u)) t.heap ∧ va_P D vwCl [(o, .inl (cL, 1, .inr (.inl (outG g (spGives n F s0 k0 tb)))))] t.heap; rw [ht]; exact ⟨P_drop hP, (by unfold outG; rw [hw, if_pos rfl]; exact P_last hP)⟩)⟩, hS.F ht⟩) hS.2.2 dL_gives_24
set_option maxHeartbeats 4000000 in
set_option maxRecDepth 100000 in
theorem c_L_best (l : Launch) (hst : l.stackTraces = false) (D : va_G) (cI cZ cO cL : ClassId) (ad : Nat → Nat) (n np nq : Nat) (F : Nat → Nat → Int32) (o : Nat) (g : Nat → Int64) (k0 : Int32) (tb : Bool) (hinj : inj ad 23) (ho : ∀ i, i ≤ 23 → ¬ o = ad i) (hn : n ≤ 10) : Met l yL_best wsL_best ({ frames := 8, cells := 1, slots := 6, locals := 131 } : Room) (va_Pc [.ref (ad 0), .int k0, .int (bI tb), .ref o] (Pr D (gT cI cZ cO ++ [(cL, .long)]) (wG cI cZ cO ad n np nq F ++ [(o, .inl (cL, 1, .inr (.inl g)))]) (EnvL (inO ad o)))) (va_Qi (S := (Nat → Int32)) (fun (r : Int32) (_ : (Nat → Int32)) => r = nI (spBest n F k0 tb).1) (fun (u : (Nat → Int32)) (t : State) => va_P D vwCl (wG cI cZ cO ad n np nq (va_up F 13 u)) t.heap ∧ va_P D vwCl [(o, .inl (cL, 1, .inr (.inl (outG g (spBest n F k0 tb)))))] t.heap) (inO ad o)) 1 6 (inO ad o) := by
  refine met_ofWH (cc := cL_best) (maxL := 5) (ret := (some .int)) (hh := [(0, 10, 13, 13)]) (by decide) rfl ?_
  intro p e s m args below meth c s₁ B hml hv
  obtain ⟨hargs, hP0, hK, hV⟩ := hv
  have hx := B.exec
  have hb := B.bytes
  have hr := B.returns
  have hts := atoms_spec (ws := wsL_best) B.pre
  have hown : s.vm.findClass RL = some m.cls := findClass_of_methodNamed B.named
  have hlocks := B.notSynchronized
  have htab : c.exceptionTable.toList = tableOf [(0, 10, 13, 13)] := vx_table (x := yL_best) B (hts (.codeWith yL_best cL_best 5 (some .int) [(0, 10, 13, 13)]) List.mem_cons_self)
  have hP := P_drop hP0
  have hO := P_last hP0
  have hS : va_S (inO ad o) s.heap s.heap [] := va_S.rf
  have hRf : 8 ≤ (headSpec wsL_best ({ frames := 8, cells := 1, slots := 6, locals := 131 } : Room)).room.frames := Nat.le_refl _
  have hRl : 131 ≤ (headSpec wsL_best ({ frames := 8, cells := 1, slots := 6, locals := 131 } : Room)).room.locals := Nat.le_refl _
  have hRc : 1 ≤ (headSpec wsL_best ({ frames := 8, cells := 1, slots := 6, locals := 131 } : Room)).room.cells := Nat.le_refl _
  have hRs : 6 ≤ (headSpec wsL_best ({ frames := 8, cells := 1, slots := 6, locals := 131 } : Room)).room.slots := Nat.le_refl _
  generalize (headSpec wsL_best ({ frames := 8, cells := 1, slots := 6, locals := 131 } : Room)).room = R at hRf hRl hRc hRs ⊢
  have hl := lv_entry [.ref (ad 0), .int k0, .int (bI tb), .ref o] (n := 5) (Nat.le_of_ble_eq_true rfl)
  refine W.eq (show entryFrame m args 5 = _ from by rw [hargs, lg_entry_eq]) ?_
  generalize (lg_sl [.ref (ad 0), .int k0, .int (bI tb), .ref o] ++ List.replicate (5 - (lg_sl [.ref (ad 0), .int k0, .int (bI tb), .ref o]).length) Slot.unset).toArray = ls at hl ⊢
  have hl : lv_has ls 5 [(0, .ref (ad 0)), (1, .int k0), (2, .int (bI tb)), (3, .ref o)] := hl
  generalize hQ : MQ _ _ _ _ _ _ _ = Q
  refine lv_aload_n hx hb dL_best_0 rfl (lv_at hl 3 rfl) ?_
  refine lv_iconst (v := nI 0) hx hb dL_best_1 (by decide) ?_
  refine lv_aload_n hx hb dL_best_2 rfl (lv_at hl 0 rfl) ?_
  refine lv_iload_n hx hb dL_best_3 rfl (lv_at hl 1 rfl) ?_
  refine lv_iload_n hx hb dL_best_4 rfl (lv_at hl 2 rfl) ?_
  refine vx_calli (vx_runV (As := [.int k0, .int (bI tb)]) (rest := [.int (nI 0), .ref o]) ⟨hx, hb, hml, hown, hts⟩ (c_X0_best l hst D cI cZ cO ad n np nq F k0 tb hinj hn) (cwV 2 hts gL_best_X0_best rfl rfl rfl (by decide +kernel) ⟨Nat.le_trans (Nat.le_of_ble_eq_true rfl) hRf, Nat.le_trans (Nat.le_of_ble_eq_true rfl) hRl⟩) (pr_V hP (ci := 0) (q0 := 0) rfl g_at0 rfl hP hK [0, 1, 2] rfl (hV.1.at hS sub_id (fun _ h => Or.inl h)) EnvG_c) rfl rfl hl.1 rfl (lv_room (Nat.le_of_ble_eq_true rfl)) dL_best_5 ⟨Nat.le_trans (Nat.le_of_ble_eq_true rfl) hRc, Nat.le_trans (Nat.le_of_ble_eq_true rfl) hRs⟩) hS (fun _ _ h => Or.inl h) (fun _ h => Or.inl h) (fun _ _ h => h.elim) (fun E ce q9 _ t H1 locs ht hvm hpx hbx _ hk hS hce hcv hcl => ?_) (fun r u t H1 locs ht hvm hw hB hz hk hS => ?_)
  · have hP := P_kept hP hk
    have hO := P_kept hO hk
    obtain ⟨rfl, e9⟩ := hbx
    refine vx_catch hown [] (⟨0, 10, 13, 13⟩ : ExceptionTableEntry) [] htab (fun z hz => by simp at hz) (by decide) (by decide) (hts (.classLink RL 13 "java/lang/IllegalArgumentException") (by decide +kernel)) (va_any rfl hV.1.2.2.2.2.2.2.2.2.2.2.1) hce hcv hcl ?_
    refine lv_astore (lv' := [(4, .ref q9), (0, .ref (ad 0)), (1, .int k0), (2, .int (bI tb)), (3, .ref o)]) hx hb dL_best_13 hl (by decide) rfl (fun ls hl => ?_)
    refine lv_iconst (v := nI 1) hx hb dL_best_15 (by decide) ?_
    rw [← hQ]
    refine W.widen (k := 1) (n := 6) (by omega) (by omega) ?_
    exact W.iret (v := nI 1) hx hb hr (fun t ht hW => ⟨⟨nI 1, (F 13), rfl, (by rw [e9]), (by show va_P D vwCl (wG cI cZ cO ad n np nq (va_up F 13 (F 13))) t.heap ∧ va_P D vwCl [(o, .inl (cL, 1, .inr (.inl (outG g (spBest n F k0 tb)))))] t.heap; rw [ht]; exact ⟨(by rw [va_up_id]; exact hP), (by unfold outG; rw [e9, if_neg (by decide)]; exact hO)⟩)⟩, hS.F ht⟩) hS.2.2 dL_best_16
  · rw [ht] at hB
    have hO := O_kept hO ho hk
    have hP := hB
    refine lv_i2l hx hb dL_best_8 rfl ?_
    refine va_last (a := o) (cA := cL) (n := 1) (f := g) (i := nI 0) (x := r.toInt64) hx hb hK (hP.app hO) (gl_D hinj ho) hS 24 3 gl_at rfl (vp_in_nI (by decide) (by decide)) dL_best_9 (fun H locs hP hD hS => ?_)
    rw [gl_set] at hP
    refine lv_goto (tgt := 17) hx hb dL_best_10 (by decide) ?_
    refine lv_iconst (v := nI 0) hx hb dL_best_17 (by decide) ?_
    rw [← hQ]
    refine W.widen (k := 1) (n := 6) (by omega) (by omega) ?_
    exact W.iret (v := nI 0) hx hb hr (fun t ht hW => ⟨⟨nI 0, u, rfl, (by rw [hw]), (by show va_P D vwCl (wG cI cZ cO ad n np nq (va_up F 13 u)) t.heap ∧ va_P D vwCl [(o, .inl (cL, 1, .inr (.inl (outG g (spBest n F k0 tb)))))] t.heap; rw [ht]; exact ⟨P_drop hP, (by unfold outG; rw [hw, if_pos rfl]; exact P_last hP)⟩)⟩, hS.F ht⟩) hS.2.2 dL_best_18
set_option maxHeartbeats 4000000 in
set_option maxRecDepth 100000 in
theorem c_L_lacks (l : Launch) (hst : l.stackTraces = false) (D : va_G) (cI cZ cO cL : ClassId) (ad : Nat → Nat) (n np nq : Nat) (F : Nat → Nat → Int32) (o : Nat) (g : Nat → Int64) (c0 : Int32) (k0 : Int32) (hinj : inj ad 23) (ho : ∀ i, i ≤ 23 → ¬ o = ad i) (hn : n ≤ 10) (hnp : np ≤ 150) (hsk : ∀ p, p < np → ∃ k, k < n ∧ F 4 p = nI k) : Met l yL_lacks wsL_lacks ({ frames := 8, cells := 2, slots := 12, locals := 124 } : Room) (va_Pc [.ref (ad 0), .int c0, .int k0, .ref o] (Pr D (gT cI cZ cO ++ [(cL, .long)]) (wG cI cZ cO ad n np nq F ++ [(o, .inl (cL, 1, .inr (.inl g)))]) (EnvL (inO ad o)))) (va_Qi (S := Unit) (fun (r : Int32) (_ : Unit) => r = nI (spLacks n np F c0 k0).1) (fun (_ : Unit) (t : State) => va_P D vwCl (wG cI cZ cO ad n np nq F) t.heap ∧ va_P D vwCl [(o, .inl (cL, 1, .inr (.inl (outG g (spLacks n np F c0 k0)))))] t.heap) (inO ad o)) 2 12 (inO ad o) := by
  refine met_ofWH (cc := cL_lacks) (maxL := 5) (ret := (some .int)) (hh := [(0, 10, 13, 13)]) (by decide) rfl ?_
  intro p e s m args below meth c s₁ B hml hv
  obtain ⟨hargs, hP0, hK, hV⟩ := hv
  have hx := B.exec
  have hb := B.bytes
  have hr := B.returns
  have hts := atoms_spec (ws := wsL_lacks) B.pre
  have hown : s.vm.findClass RL = some m.cls := findClass_of_methodNamed B.named
  have hlocks := B.notSynchronized
  have htab : c.exceptionTable.toList = tableOf [(0, 10, 13, 13)] := vx_table (x := yL_lacks) B (hts (.codeWith yL_lacks cL_lacks 5 (some .int) [(0, 10, 13, 13)]) List.mem_cons_self)
  have hP := P_drop hP0
  have hO := P_last hP0
  have hS : va_S (inO ad o) s.heap s.heap [] := va_S.rf
  have hRf : 8 ≤ (headSpec wsL_lacks ({ frames := 8, cells := 2, slots := 12, locals := 124 } : Room)).room.frames := Nat.le_refl _
  have hRl : 124 ≤ (headSpec wsL_lacks ({ frames := 8, cells := 2, slots := 12, locals := 124 } : Room)).room.locals := Nat.le_refl _
  have hRc : 2 ≤ (headSpec wsL_lacks ({ frames := 8, cells := 2, slots := 12, locals := 124 } : Room)).room.cells := Nat.le_refl _
  have hRs : 12 ≤ (headSpec wsL_lacks ({ frames := 8, cells := 2, slots := 12, locals := 124 } : Room)).room.slots := Nat.le_refl _
  generalize (headSpec wsL_lacks ({ frames := 8, cells := 2, slots := 12, locals := 124 } : Room)).room = R at hRf hRl hRc hRs ⊢
  have hl := lv_entry [.ref (ad 0), .int c0, .int k0, .ref o] (n := 5) (Nat.le_of_ble_eq_true rfl)
  refine W.eq (show entryFrame m args 5 = _ from by rw [hargs, lg_entry_eq]) ?_
  generalize (lg_sl [.ref (ad 0), .int c0, .int k0, .ref o] ++ List.replicate (5 - (lg_sl [.ref (ad 0), .int c0, .int k0, .ref o]).length) Slot.unset).toArray = ls at hl ⊢
  have hl : lv_has ls 5 [(0, .ref (ad 0)), (1, .int c0), (2, .int k0), (3, .ref o)] := hl
  generalize hQ : MQ _ _ _ _ _ _ _ = Q
  refine lv_aload_n hx hb dL_lacks_0 rfl (lv_at hl 3 rfl) ?_
  refine lv_iconst (v := nI 0) hx hb dL_lacks_1 (by decide) ?_
  refine lv_aload_n hx hb dL_lacks_2 rfl (lv_at hl 0 rfl) ?_
  refine lv_iload_n hx hb dL_lacks_3 rfl (lv_at hl 1 rfl) ?_
  refine lv_iload_n hx hb dL_lacks_4 rfl (lv_at hl 2 rfl) ?_
  refine vx_calli (vx_runV (As := [.int c0, .int k0]) (rest := [.int (nI 0), .ref o]) ⟨hx, hb, hml, hown, hts⟩ (c_X0_lacks l hst D cI cZ cO ad n np nq F c0 k0 hn hnp hsk) (cwV 2 hts gL_lacks_X0_lacks rfl rfl rfl (by decide +kernel) ⟨Nat.le_trans (Nat.le_of_ble_eq_true rfl) hRf, Nat.le_trans (Nat.le_of_ble_eq_true rfl) hRl⟩) (pr_V hP (ci := 0) (q0 := 0) rfl g_at0 rfl hP hK [0, 1, 2] rfl (hV.1.at hS sub_id sub_no) EnvG_c) rfl rfl hl.1 rfl (lv_room (Nat.le_of_ble_eq_true rfl)) dL_lacks_5 ⟨Nat.le_trans (Nat.le_of_ble_eq_true rfl) hRc, Nat.le_trans (Nat.le_of_ble_eq_true rfl) hRs⟩) hS (fun _ _ h => h.elim) (fun _ h => h.elim) (fun _ _ h => h.elim) (fun E ce q9 _ t H1 locs ht hvm hpx hbx _ hk hS hce hcv hcl => ?_) (fun r u t H1 locs ht hvm hw hB hz hk hS => ?_)
  · have hP := P_kept hP hk
    have hO := P_kept hO hk
    obtain ⟨rfl, e9⟩ := hbx
    refine vx_catch hown [] (⟨0, 10, 13, 13⟩ : ExceptionTableEntry) [] htab (fun z hz => by simp at hz) (by decide) (by decide) (hts (.classLink RL 13 "java/lang/IllegalArgumentException") (by decide +kernel)) (va_any rfl hV.1.2.2.2.2.2.2.2.2.2.2.1) hce hcv hcl ?_
    refine lv_astore (lv' := [(4, .ref q9), (0, .ref (ad 0)), (1, .int c0), (2, .int k0), (3, .ref o)]) hx hb dL_lacks_13 hl (by decide) rfl (fun ls hl => ?_)
    refine lv_iconst (v := nI 1) hx hb dL_lacks_15 (by decide) ?_
    rw [← hQ]
    refine W.widen (k := 2) (n := 12) (by omega) (by omega) ?_
    exact W.iret (v := nI 1) hx hb hr (fun t ht hW => ⟨⟨nI 1, (), rfl, (by rw [e9]), (by show va_P D vwCl (wG cI cZ cO ad n np nq F) t.heap ∧ va_P D vwCl [(o, .inl (cL, 1, .inr (.inl (outG g (spLacks n np F c0 k0)))))] t.heap; rw [ht]; exact ⟨hP, (by unfold outG; rw [e9, if_neg (by decide)]; exact hO)⟩)⟩, hS.F ht⟩) hS.2.2 dL_lacks_16
  · have hP := P_kept hP hk
    have hO := P_kept hO hk
    refine lv_i2l hx hb dL_lacks_8 rfl ?_
    refine va_last (a := o) (cA := cL) (n := 1) (f := g) (i := nI 0) (x := r.toInt64) hx hb hK (hP.app hO) (gl_D hinj ho) hS 24 3 gl_at rfl (vp_in_nI (by decide) (by decide)) dL_lacks_9 (fun H locs hP hD hS => ?_)
    rw [gl_set] at hP
    refine lv_goto (tgt := 17) hx hb dL_lacks_10 (by decide) ?_
    refine lv_iconst (v := nI 0) hx hb dL_lacks_17 (by decide) ?_
    rw [← hQ]
    refine W.widen (k := 2) (n := 12) (by omega) (by omega) ?_
    exact W.iret (v := nI 0) hx hb hr (fun t ht hW => ⟨⟨nI 0, (), rfl, (by rw [hw]), (by show va_P D vwCl (wG cI cZ cO ad n np nq F) t.heap ∧ va_P D vwCl [(o, .inl (cL, 1, .inr (.inl (outG g (spLacks n np F c0 k0)))))] t.heap; rw [ht]; exact ⟨P_drop hP, (by unfold outG; rw [hw, if_pos rfl]; exact P_last hP)⟩)⟩, hS.F ht⟩) hS.2.2 dL_lacks_18
set_option maxHeartbeats 4000000 in
set_option maxRecDepth 100000 in
theorem c_L_pairs (l : Launch) (hst : l.stackTraces = false) (D : va_G) (cI cZ cO cL : ClassId) (ad : Nat → Nat) (n np nq : Nat) (F : Nat → Nat → Int32) (o : Nat) (g : Nat → Int64) (c0 : Int32) (hinj : inj ad 23) (ho : ∀ i, i ≤ 23 → ¬ o = ad i) (hn : n ≤ 10) (hnp : np ≤ 150) (hsk : ∀ p, p < np → ∃ k, k < n ∧ F 4 p = nI k) : Met l yL_pairs wsL_pairs ({ frames := 8, cells := 1, slots := 6, locals := 125 } : Room) (va_Pc [.ref (ad 0), .int c0, .ref o] (Pr D (gT cI cZ cO ++ [(cL, .long)]) (wG cI cZ cO ad n np nq F ++ [(o, .inl (cL, 1, .inr (.inl g)))]) (EnvL (inO ad o)))) (va_Qi (S := Unit) (fun (r : Int32) (_ : Unit) => r = nI (spPairs n np F c0).1) (fun (_ : Unit) (t : State) => va_P D vwCl (wG cI cZ cO ad n np nq F) t.heap ∧ va_P D vwCl [(o, .inl (cL, 1, .inr (.inl (outG g (spPairs n np F c0)))))] t.heap) (inO ad o)) 1 6 (inO ad o) := by
  refine met_ofWH (cc := cL_pairs) (maxL := 4) (ret := (some .int)) (hh := [(0, 9, 12, 13)]) (by decide) rfl ?_
  intro p e s m args below meth c s₁ B hml hv
  obtain ⟨hargs, hP0, hK, hV⟩ := hv
  have hx := B.exec
  have hb := B.bytes
  have hr := B.returns
  have hts := atoms_spec (ws := wsL_pairs) B.pre
  have hown : s.vm.findClass RL = some m.cls := findClass_of_methodNamed B.named
  have hlocks := B.notSynchronized
  have htab : c.exceptionTable.toList = tableOf [(0, 9, 12, 13)] := vx_table (x := yL_pairs) B (hts (.codeWith yL_pairs cL_pairs 4 (some .int) [(0, 9, 12, 13)]) List.mem_cons_self)
  have hP := P_drop hP0
  have hO := P_last hP0
  have hS : va_S (inO ad o) s.heap s.heap [] := va_S.rf
  have hRf : 8 ≤ (headSpec wsL_pairs ({ frames := 8, cells := 1, slots := 6, locals := 125 } : Room)).room.frames := Nat.le_refl _
  have hRl : 125 ≤ (headSpec wsL_pairs ({ frames := 8, cells := 1, slots := 6, locals := 125 } : Room)).room.locals := Nat.le_refl _
  have hRc : 1 ≤ (headSpec wsL_pairs ({ frames := 8, cells := 1, slots := 6, locals := 125 } : Room)).room.cells := Nat.le_refl _
  have hRs : 6 ≤ (headSpec wsL_pairs ({ frames := 8, cells := 1, slots := 6, locals := 125 } : Room)).room.slots := Nat.le_refl _
  generalize (headSpec wsL_pairs ({ frames := 8, cells := 1, slots := 6, locals := 125 } : Room)).room = R at hRf hRl hRc hRs ⊢
  have hl := lv_entry [.ref (ad 0), .int c0, .ref o] (n := 4) (Nat.le_of_ble_eq_true rfl)
  refine W.eq (show entryFrame m args 4 = _ from by rw [hargs, lg_entry_eq]) ?_
  generalize (lg_sl [.ref (ad 0), .int c0, .ref o] ++ List.replicate (4 - (lg_sl [.ref (ad 0), .int c0, .ref o]).length) Slot.unset).toArray = ls at hl ⊢
  have hl : lv_has ls 4 [(0, .ref (ad 0)), (1, .int c0), (2, .ref o)] := hl
  generalize hQ : MQ _ _ _ _ _ _ _ = Q
  refine lv_aload_n hx hb dL_pairs_0 rfl (lv_at hl 2 rfl) ?_
  refine lv_iconst (v := nI 0) hx hb dL_pairs_1 (by decide) ?_
  refine lv_aload_n hx hb dL_pairs_2 rfl (lv_at hl 0 rfl) ?_
  refine lv_iload_n hx hb dL_pairs_3 rfl (lv_at hl 1 rfl) ?_
  refine vx_calli (vx_runV (As := [.int c0]) (rest := [.int (nI 0), .ref o]) ⟨hx, hb, hml, hown, hts⟩ (c_X0_pairs l hst D cI cZ cO ad n np nq F c0 hn hnp hsk) (cwV 1 hts gL_pairs_X0_pairs rfl rfl rfl (by decide +kernel) ⟨Nat.le_trans (Nat.le_of_ble_eq_true rfl) hRf, Nat.le_trans (Nat.le_of_ble_eq_true rfl) hRl⟩) (pr_V hP (ci := 0) (q0 := 0) rfl g_at0 rfl hP hK [0, 1, 2] rfl (hV.1.at hS sub_id sub_no) EnvG_c) rfl rfl hl.1 rfl (lv_room (Nat.le_of_ble_eq_true rfl)) dL_pairs_4 ⟨Nat.le_trans (Nat.le_of_ble_eq_true rfl) hRc, Nat.le_trans (Nat.le_of_ble_eq_true rfl) hRs⟩) hS (fun _ _ h => h.elim) (fun _ h => h.elim) (fun _ _ h => h.elim) (fun E ce q9 _ t H1 locs ht hvm hpx hbx _ hk hS hce hcv hcl => ?_) (fun r u t H1 locs ht hvm hw hB hz hk hS => ?_)
  · have hP := P_kept hP hk
    have hO := P_kept hO hk
    obtain ⟨rfl, e9⟩ := hbx
    refine vx_catch hown [] (⟨0, 9, 12, 13⟩ : ExceptionTableEntry) [] htab (fun z hz => by simp at hz) (by decide) (by decide) (hts (.classLink RL 13 "java/lang/IllegalArgumentException") (by decide +kernel)) (va_any rfl hV.1.2.2.2.2.2.2.2.2.2.2.1) hce hcv hcl ?_
    refine lv_astore_n (lv' := [(3, .ref q9), (0, .ref (ad 0)), (1, .int c0), (2, .ref o)]) hx hb dL_pairs_12 rfl hl (by decide) rfl (fun ls hl => ?_)
    refine lv_iconst (v := nI 1) hx hb dL_pairs_13 (by decide) ?_
    rw [← hQ]
    refine W.widen (k := 1) (n := 6) (by omega) (by omega) ?_
    exact W.iret (v := nI 1) hx hb hr (fun t ht hW => ⟨⟨nI 1, (), rfl, (by rw [e9]), (by show va_P D vwCl (wG cI cZ cO ad n np nq F) t.heap ∧ va_P D vwCl [(o, .inl (cL, 1, .inr (.inl (outG g (spPairs n np F c0)))))] t.heap; rw [ht]; exact ⟨hP, (by unfold outG; rw [e9, if_neg (by decide)]; exact hO)⟩)⟩, hS.F ht⟩) hS.2.2 dL_pairs_14
  · have hP := P_kept hP hk
    have hO := P_kept hO hk
    refine lv_i2l hx hb dL_pairs_7 rfl ?_
    refine va_last (a := o) (cA := cL) (n := 1) (f := g) (i := nI 0) (x := r.toInt64) hx hb hK (hP.app hO) (gl_D hinj ho) hS 24 3 gl_at rfl (vp_in_nI (by decide) (by decide)) dL_pairs_8 (fun H locs hP hD hS => ?_)
    rw [gl_set] at hP
    refine lv_goto (tgt := 15) hx hb dL_pairs_9 (by decide) ?_
    refine lv_iconst (v := nI 0) hx hb dL_pairs_15 (by decide) ?_
    rw [← hQ]
    refine W.widen (k := 1) (n := 6) (by omega) (by omega) ?_
    exact W.iret (v := nI 0) hx hb hr (fun t ht hW => ⟨⟨nI 0, (), rfl, (by rw [hw]), (by show va_P D vwCl (wG cI cZ cO ad n np nq F) t.heap ∧ va_P D vwCl [(o, .inl (cL, 1, .inr (.inl (outG g (spPairs n np F c0)))))] t.heap; rw [ht]; exact ⟨P_drop hP, (by unfold outG; rw [hw, if_pos rfl]; exact P_last hP)⟩)⟩, hS.F ht⟩) hS.2.2 dL_pairs_16
