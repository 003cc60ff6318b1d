set_option maxHeartbeats 1000000 in
theorem c_L_cell (l : Launch) (D : va_G) (b L : Nat) (xs : Nat → Int32) (k : Nat) (hk : k < 1000) (hL : L < 2 ^ 20) : Met l yL_cell wsL_cell ({ frames := 0, cells := 0, slots := 0, locals := 0 } : Room) (va_Pc [.ref b, .int (nI k)] (Pr D [] [] (VX b L xs))) (va_Qi (S := Unit) (fun (_ : Int32) (_ : Unit) => True) (fun _ _ => True) (fun _ => False)) 0 0 (fun _ => False) := by
  refine Met.ofW (cc := cL_cell) (maxL := 2) (ret := (some .int)) (by decide) rfl ?_
  intro p e s m args below meth c s₁ B hml hv
  obtain ⟨hargs, hP, hK, hX, hbl⟩ := hv
  have hx := B.exec
  have hb := B.bytes
  have hr := B.returns
  have hts := atoms_spec (ws := wsL_cell) B.pre
  have hown : s.vm.findClass RL = some m.cls := findClass_of_methodNamed B.named
  have hlocks := B.notSynchronized
  have hS : va_S (fun _ => False) s.heap s.heap [] := va_S.rf
  generalize (headSpec wsL_cell ({ frames := 0, cells := 0, slots := 0, locals := 0 } : Room)).room = R
  have hl := lv_entry [.ref b, .int (nI k)] (n := 2) (Nat.le_of_ble_eq_true rfl)
  refine W.eq (show entryFrame m args 2 = _ from by rw [hargs, lg_entry_eq]) ?_
  generalize (lg_sl [.ref b, .int (nI k)] ++ List.replicate (2 - (lg_sl [.ref b, .int (nI k)]).length) Slot.unset).toArray = ls at hl ⊢
  have hl : lv_has ls 2 [(0, .ref b), (1, .int (nI k))] := hl
  refine lv_iload_n hx hb dL_cell_0 rfl (lv_at hl 1 rfl) ?_
  refine lv_aload_n hx hb dL_cell_1 rfl (lv_at hl 0 rfl) ?_
  refine va_slen hx hb hX hbl id hS dL_cell_2 ?_
  refine nv_icmp_ge (tgt := 12) hx hb (by omega) (by omega) dL_cell_3 (by decide) (fun c_1 => ?_) (fun c_1 => ?_)
  · refine lv_ldc (v := 790386105) hx hb hown (hts (.constant RL 8 (790386105)) (by decide +kernel)) dL_cell_12 ?_
    refine lv_iload_n hx hb dL_cell_14 rfl (lv_at hl 1 rfl) ?_
    refine lv_iconst (v := nI 3) hx hb dL_cell_15 (by decide) ?_
    refine nv_iadd hx hb dL_cell_16 ?_
    refine lv_imul hx hb dL_cell_17 ?_
    exact W.iret hx hb hr (fun t ht hW => ⟨⟨_, (), rfl, trivial, trivial⟩, hS.F ht⟩) hS.2.2 dL_cell_18
  · refine lv_aload_n hx hb dL_cell_6 rfl (lv_at hl 0 rfl) ?_
    refine lv_iload_n hx hb dL_cell_7 rfl (lv_at hl 1 rfl) ?_
    refine va_sld hx hb hX hbl id hS (vp_in_nI c_1 (by omega)) dL_cell_8 ?_
    refine lv_goto (tgt := 18) hx hb dL_cell_9 (by decide) ?_
    exact W.iret hx hb hr (fun t ht hW => ⟨⟨_, (), rfl, trivial, trivial⟩, hS.F ht⟩) hS.2.2 dL_cell_18
set_option maxHeartbeats 1000000 in
theorem c_L_below (l : Launch) (D : va_G) (x : Int32) (n : Nat) (hn : 0 < n) (hn2 : n < 2 ^ 20) : Met l yL_below wsL_below ({ frames := 0, cells := 0, slots := 0, locals := 0 } : Room) (va_Pc [.int x, .int (nI n)] (Pr D [] [] V0)) (va_Qi (S := Unit) (fun (r : Int32) (_ : Unit) => ∃ j, j < n ∧ r = nI j) (fun _ _ => True) (fun _ => False)) 0 0 (fun _ => False) := by
  refine Met.ofW (cc := cL_below) (maxL := 2) (ret := (some .int)) (by decide) rfl ?_
  intro p e s m args below meth c s₁ B hml hv
  obtain ⟨hargs, hP, hK, -⟩ := hv
  have hx := B.exec
  have hb := B.bytes
  have hr := B.returns
  have hts := atoms_spec (ws := wsL_below) B.pre
  have hown : s.vm.findClass RL = some m.cls := findClass_of_methodNamed B.named
  have hlocks := B.notSynchronized
  have hS : va_S (fun _ => False) s.heap s.heap [] := va_S.rf
  generalize (headSpec wsL_below ({ frames := 0, cells := 0, slots := 0, locals := 0 } : Room)).room = R
  have hl := lv_entry [.int x, .int (nI n)] (n := 2) (Nat.le_of_ble_eq_true rfl)
  refine W.eq (show entryFrame m args 2 = _ from by rw [hargs, lg_entry_eq]) ?_
  generalize (lg_sl [.int x, .int (nI n)] ++ List.replicate (2 - (lg_sl [.int x, .int (nI n)]).length) Slot.unset).toArray = ls at hl ⊢
  have hl : lv_has ls 2 [(0, .int x), (1, .int (nI n))] := hl
  refine lv_iload_n hx hb dL_below_0 rfl (lv_at hl 0 rfl) ?_
  refine lv_ldc (v := 2147483647) hx hb hown (hts (.constant RL 7 (2147483647)) (by decide +kernel)) dL_below_1 ?_
  refine lv_iand hx hb dL_below_3 ?_
  obtain ⟨j, hj, ej⟩ := pk_andE x (m := 2147483647) 31 (by decide)
  rw [ej]
  refine lv_iload_n hx hb dL_below_4 rfl (lv_at hl 1 rfl) ?_
  refine nv_irem hx hb hj hn (by omega) dL_below_5 ?_
  exact W.iret hx hb hr (fun t ht hW => ⟨⟨_, (), rfl, ⟨j % n, Nat.mod_lt _ hn, rfl⟩, trivial⟩, hS.F ht⟩) hS.2.2 dL_below_6
set_option maxHeartbeats 4000000 in
set_option maxRecDepth 100000 in
theorem c_L_cut (l : Launch) (hst : l.stackTraces = false) (D : va_G) (cI cZ cO : ClassId) (ad : Nat → Nat) (n np nq : Nat) (F : Nat → Nat → Int32) (s9 k9 : Nat) (tb : Bool) (a9 : Nat) (hinj : inj ad 23) (hJ : J n np nq F) (hs1 : s9 < n) (hk1 : k9 < 4) (ha1 : a9 < 96) : Met l yL_cut wsL_cut ({ frames := 8, cells := 5, slots := 30, locals := 131 } : Room) (va_Pc [.ref (ad 0), .int (nI s9), .int (nI k9), .int (bI tb), .int (nI a9)] (PrG D cI cZ cO ad n np nq F (EnvL (inA ad 23)))) (va_Qi (S := Unit) (fun (r : Int32) (_ : Unit) => r = if okCut F np s9 k9 tb a9 = true then nI np else -1) (fun (_ : Unit) (t : State) => (okCut F np s9 k9 tb a9 = true ∧ ∃ u, GW D cI cZ cO ad n (np + 1) nq (cutF (va_up F 13 u) np s9 k9 tb a9) t.heap) ∨ (okCut F np s9 k9 tb a9 = false ∧ GW D cI cZ cO ad n np nq F t.heap)) (inA ad 23)) 5 30 (inA ad 23) := by
  refine met_ofWH (cc := cL_cut) (maxL := 6) (ret := (some .int)) (hh := [(0, 17, 18, 59)]) (by decide) rfl ?_
  intro p e s m args below meth c s₁ B hml hv
  obtain ⟨hargs, ⟨u, hP⟩, hK, hV⟩ := hv
  have hx := B.exec
  have hb := B.bytes
  have hr := B.returns
  have hts := atoms_spec (ws := wsL_cut) B.pre
  have hown : s.vm.findClass RL = some m.cls := findClass_of_methodNamed B.named
  have hlocks := B.notSynchronized
  have htab : c.exceptionTable.toList = tableOf [(0, 17, 18, 59)] := vx_table (x := yL_cut) B (hts (.codeWith yL_cut cL_cut 6 (some .int) [(0, 17, 18, 59)]) List.mem_cons_self)
  have hS : va_S (inA ad 23) s.heap s.heap [] := va_S.rf
  have hRf : 8 ≤ (headSpec wsL_cut ({ frames := 8, cells := 5, slots := 30, locals := 131 } : Room)).room.frames := Nat.le_refl _
  have hRl : 131 ≤ (headSpec wsL_cut ({ frames := 8, cells := 5, slots := 30, locals := 131 } : Room)).room.locals := Nat.le_refl _
  have hRc : 5 ≤ (headSpec wsL_cut ({ frames := 8, cells := 5, slots := 30, locals := 131 } : Room)).room.cells := Nat.le_refl _
  have hRs : 30 ≤ (headSpec wsL_cut ({ frames := 8, cells := 5, slots := 30, locals := 131 } : Room)).room.slots := Nat.le_refl _
  generalize (headSpec wsL_cut ({ frames := 8, cells := 5, slots := 30, locals := 131 } : Room)).room = R at hRf hRl hRc hRs ⊢
  have hl := lv_entry [.ref (ad 0), .int (nI s9), .int (nI k9), .int (bI tb), .int (nI a9)] (n := 6) (Nat.le_of_ble_eq_true rfl)
  refine W.eq (show entryFrame m args 6 = _ from by rw [hargs, lg_entry_eq]) ?_
  generalize (lg_sl [.ref (ad 0), .int (nI s9), .int (nI k9), .int (bI tb), .int (nI a9)] ++ List.replicate (6 - (lg_sl [.ref (ad 0), .int (nI s9), .int (nI k9), .int (bI tb), .int (nI a9)]).length) Slot.unset).toArray = ls at hl ⊢
  have hl : lv_has ls 6 [(0, .ref (ad 0)), (1, .int (nI s9)), (2, .int (nI k9)), (3, .int (bI tb)), (4, .int (nI a9))] := hl
  generalize hQ : MQ _ _ _ _ _ _ _ = Q
  have hs : spCut n np (va_up F 13 u) (nI s9) (nI k9) tb (nI (a9 % 12)) (nI (a9 / 12)) = if okCut F np s9 k9 tb a9 = true then (0, nI np) else (3, 0) := by
    rw [sp_cut (J_T hJ u).inv hs1 hk1 ha1, e13 F u _ (by omega)]; rfl
  refine lv_aload_n hx hb dL_cut_0 rfl (lv_at hl 0 rfl) ?_
  refine lv_iload_n hx hb dL_cut_1 rfl (lv_at hl 1 rfl) ?_
  refine lv_iload_n hx hb dL_cut_2 rfl (lv_at hl 2 rfl) ?_
  refine lv_iload_n hx hb dL_cut_3 rfl (lv_at hl 3 rfl) ?_
  refine lv_iload hx hb dL_cut_4 (lv_at hl 4 rfl) ?_
  refine lv_bipush (v := nI 12) hx hb dL_cut_6 (by decide) ?_
  refine nv_irem hx hb (by omega) (by decide) (by decide) dL_cut_8 ?_
  refine lv_iload hx hb dL_cut_9 (lv_at hl 4 rfl) ?_
  refine lv_bipush (v := nI 12) hx hb dL_cut_11 (by decide) ?_
  refine nv_idiv hx hb (by omega) (by decide) (by decide) dL_cut_13 ?_
  refine vx_calli (vx_runV (As := [.int (nI s9), .int (nI k9), .int (bI tb), .int (nI (a9 % 12)), .int (nI (a9 / 12))]) (rest := []) ⟨hx, hb, hml, hown, hts⟩ (c_X0_cut l hst D cI cZ cO ad n np nq (va_up F 13 u) (nI s9) (nI k9) tb (nI (a9 % 12)) (nI (a9 / 12)) hinj hJ.inv.1 hJ.inv.2.1) (cwV 5 hts gL_cut_X0_cut rfl rfl rfl (by decide +kernel) ⟨Nat.le_trans (Nat.le_of_ble_eq_true rfl) hRf, Nat.le_trans (Nat.le_of_ble_eq_true rfl) hRl⟩) (pr_V hP (ci := 0) (q0 := 0) rfl g_at0 rfl hP hK [0, 1, 2] rfl (hV.1.at hS sub_id (fun _ h => h)) EnvG_c) rfl rfl hl.1 rfl (lv_room (Nat.le_of_ble_eq_true rfl)) dL_cut_14 ⟨Nat.le_trans (Nat.le_of_ble_eq_true rfl) hRc, Nat.le_trans (Nat.le_of_ble_eq_true rfl) hRs⟩) hS (fun _ _ h => h) (fun _ h => h) (fun _ _ h => h.elim) (fun E ce q9 _ t H1 locs ht hvm hpx hbx _ hk hS hce hcv hcl => ?_) (fun r u9 t H1 locs ht hvm hw hB hz hk hS => ?_)
  · have hP := P_kept hP hk
    rcases hbx with ⟨rfl, e9⟩ | ⟨rfl, e9⟩ | ⟨rfl, e9⟩
    · cases hq : okCut F np s9 k9 tb a9
      · rw [hq, if_neg Bool.false_ne_true] at hs
        exact absurd (congrArg Prod.fst (hs.symm.trans e9)) (show ¬ (3 : Nat) = 1 by decide)
      · rw [hq, if_pos rfl] at hs
        exact absurd (congrArg Prod.fst (hs.symm.trans e9)) (show ¬ (0 : Nat) = 1 by decide)
    · cases hq : okCut F np s9 k9 tb a9
      · rw [hq, if_neg Bool.false_ne_true] at hs
        exact absurd (congrArg Prod.fst (hs.symm.trans e9)) (show ¬ (3 : Nat) = 2 by decide)
      · rw [hq, if_pos rfl] at hs
        exact absurd (congrArg Prod.fst (hs.symm.trans e9)) (show ¬ (0 : Nat) = 2 by decide)
    · have hok : okCut F np s9 k9 tb a9 = false := by
        cases hq : okCut F np s9 k9 tb a9
        · rfl
        · rw [hq, if_pos rfl] at hs
          exact absurd (congrArg Prod.fst (hs.symm.trans e9)) (show ¬ (0 : Nat) = 3 by decide)
      refine vx_catch hown [] (⟨0, 17, 18, 59⟩ : ExceptionTableEntry) [] htab (fun z hz => by simp at hz) (by decide) (by decide) (hts (.classLink RL 59 "java/lang/IllegalStateException") (by decide +kernel)) (va_any rfl hV.1.2.2.2.2.2.2.2.2.2.2.2) hce hcv hcl ?_
      refine lv_astore (lv' := [(5, .ref q9), (0, .ref (ad 0)), (1, .int (nI s9)), (2, .int (nI k9)), (3, .int (bI tb)), (4, .int (nI a9))]) hx hb dL_cut_18 hl (by decide) rfl (fun ls hl => ?_)
      refine lv_iconst (v := -1) hx hb dL_cut_20 (by decide) ?_
      rw [← hQ]
      exact W.iret (v := -1) hx hb hr (fun t ht hW => ⟨⟨-1, (), rfl, (by rw [hok]; rfl), (by subst ht; exact Or.inr ⟨hok, u, hP⟩)⟩, hS.F ht⟩) hS.2.2 dL_cut_21
  · rw [ht] at hB
    have hok : okCut F np s9 k9 tb a9 = true := by
      cases hq : okCut F np s9 k9 tb a9
      · rw [hq, if_neg Bool.false_ne_true] at hs
        exact absurd (congrArg Prod.fst (hs.symm.trans hw)) (show ¬ (3 : Nat) = 0 by decide)
      · rfl
    rw [hok, if_pos rfl] at hs
    have hr9 : r = nI np := (congrArg Prod.snd (hs.symm.trans hw)).symm
    rw [← hQ]
    exact W.iret (v := r) hx hb hr (fun t ht hW => ⟨⟨r, (), rfl, (by rw [hok]; exact hr9), (by subst ht; exact Or.inl ⟨hok, u, GW.of (by rw [st_cut (J_T hJ u).inv hs1 hk1 ha1] at hB; exact hB)⟩)⟩, hS.F ht⟩) hS.2.2 dL_cut_17
set_option maxHeartbeats 4000000 in
set_option maxRecDepth 100000 in
theorem c_L_sew (l : Launch) (hst : l.stackTraces = false) (D : va_G) (cI cZ cO : ClassId) (ad : Nat → Nat) (n np nq : Nat) (F : Nat → Nat → Int32) (c9 : Nat) (hinj : inj ad 23) (hJ : J n np nq F) (hc1 : c9 < 6) : Met l yL_sew wsL_sew ({ frames := 8, cells := 3, slots := 18, locals := 130 } : Room) (va_Pc [.ref (ad 0), .int (nI c9)] (PrG D cI cZ cO ad n np nq F (EnvL (inA ad 23)))) (va_Qi (S := Unit) (fun (r : Int32) (_ : Unit) => r = if okSew F n np nq c9 = true then nI nq else -1) (fun (_ : Unit) (t : State) => (okSew F n np nq c9 = true ∧ ∃ u, GW D cI cZ cO ad n np (nq + 1) (swF (va_up F 13 u) n np nq (nI c9)) t.heap) ∨ (okSew F n np nq c9 = false ∧ GW D cI cZ cO ad n np nq F t.heap)) (inA ad 23)) 3 18 (inA ad 23) := by
  refine met_ofWH (cc := cL_sew) (maxL := 3) (ret := (some .int)) (hh := [(0, 5, 6, 59)]) (by decide) rfl ?_
  intro p e s m args below meth c s₁ B hml hv
  obtain ⟨hargs, ⟨u, hP⟩, hK, hV⟩ := hv
  have hx := B.exec
  have hb := B.bytes
  have hr := B.returns
  have hts := atoms_spec (ws := wsL_sew) B.pre
  have hown : s.vm.findClass RL = some m.cls := findClass_of_methodNamed B.named
  have hlocks := B.notSynchronized
  have htab : c.exceptionTable.toList = tableOf [(0, 5, 6, 59)] := vx_table (x := yL_sew) B (hts (.codeWith yL_sew cL_sew 3 (some .int) [(0, 5, 6, 59)]) List.mem_cons_self)
  have hS : va_S (inA ad 23) s.heap s.heap [] := va_S.rf
  have hRf : 8 ≤ (headSpec wsL_sew ({ frames := 8, cells := 3, slots := 18, locals := 130 } : Room)).room.frames := Nat.le_refl _
  have hRl : 130 ≤ (headSpec wsL_sew ({ frames := 8, cells := 3, slots := 18, locals := 130 } : Room)).room.locals := Nat.le_refl _
  have hRc : 3 ≤ (headSpec wsL_sew ({ frames := 8, cells := 3, slots := 18, locals := 130 } : Room)).room.cells := Nat.le_refl _
  have hRs : 18 ≤ (headSpec wsL_sew ({ frames := 8, cells := 3, slots := 18, locals := 130 } : Room)).room.slots := Nat.le_refl _
  generalize (headSpec wsL_sew ({ frames := 8, cells := 3, slots := 18, locals := 130 } : Room)).room = R at hRf hRl hRc hRs ⊢
  have hl := lv_entry [.ref (ad 0), .int (nI c9)] (n := 3) (Nat.le_of_ble_eq_true rfl)
  refine W.eq (show entryFrame m args 3 = _ from by rw [hargs, lg_entry_eq]) ?_
  generalize (lg_sl [.ref (ad 0), .int (nI c9)] ++ List.replicate (3 - (lg_sl [.ref (ad 0), .int (nI c9)]).length) Slot.unset).toArray = ls at hl ⊢
  have hl : lv_has ls 3 [(0, .ref (ad 0)), (1, .int (nI c9))] := hl
  generalize hQ : MQ _ _ _ _ _ _ _ = Q
  have hs : spSew n np nq (va_up F 13 u) (nI c9) = if okSew F n np nq c9 = true then (0, nI nq) else (2, 0) := by
    unfold spSew
    rw [if_pos (inR_in hc1 (by omega)), canS_T]; rfl
  refine lv_aload_n hx hb dL_sew_0 rfl (lv_at hl 0 rfl) ?_
  refine lv_iload_n hx hb dL_sew_1 rfl (lv_at hl 1 rfl) ?_
  refine vx_calli (vx_runV (As := [.int (nI c9)]) (rest := []) ⟨hx, hb, hml, hown, hts⟩ (c_X0_sew l hst D cI cZ cO ad n np nq (va_up F 13 u) (nI c9) hinj (J_T hJ u).inv.1 (J_T hJ u).inv.2.1 (J_T hJ u).inv.2.2.1 (J_T hJ u).inv.2.2.2.1 ((J_T hJ u).inv.2.2.2.2.2.1 nq (Nat.le_refl _) (J_T hJ u).inv.2.2.1) (J_T hJ u).inv.2.2.2.2.2.2.1) (cwV 1 hts gL_sew_X0_sew rfl rfl rfl (by decide +kernel) ⟨Nat.le_trans (Nat.le_of_ble_eq_true rfl) hRf, Nat.le_trans (Nat.le_of_ble_eq_true rfl) hRl⟩) (pr_V hP (ci := 0) (q0 := 0) rfl g_at0 rfl hP hK [0, 1, 2] rfl (hV.1.at hS sub_id (fun _ h => h)) EnvG_c) rfl rfl hl.1 rfl (lv_room (Nat.le_of_ble_eq_true rfl)) dL_sew_2 ⟨Nat.le_trans (Nat.le_of_ble_eq_true rfl) hRc, Nat.le_trans (Nat.le_of_ble_eq_true rfl) hRs⟩) hS (fun _ _ h => h) (fun _ h => h) (fun _ _ h => h.elim) (fun E ce q9 _ t H1 locs ht hvm hpx hbx _ hk hS hce hcv hcl => ?_) (fun r u9 t H1 locs ht hvm hw hB hz hk hS => ?_)
  · have hP := P_kept hP hk
    rcases hbx with ⟨rfl, e9⟩ | ⟨rfl, e9⟩
    · cases hq : okSew F n np nq c9
      · rw [hq, if_neg Bool.false_ne_true] at hs
        exact absurd (congrArg Prod.fst (hs.symm.trans e9)) (show ¬ (2 : Nat) = 1 by decide)
      · rw [hq, if_pos rfl] at hs
        exact absurd (congrArg Prod.fst (hs.symm.trans e9)) (show ¬ (0 : Nat) = 1 by decide)
    · have hok : okSew F n np nq c9 = false := by
        cases hq : okSew F n np nq c9
        · rfl
        · rw [hq, if_pos rfl] at hs
          exact absurd (congrArg Prod.fst (hs.symm.trans e9)) (show ¬ (0 : Nat) = 2 by decide)
      refine vx_catch hown [] (⟨0, 5, 6, 59⟩ : ExceptionTableEntry) [] htab (fun z hz => by simp at hz) (by decide) (by decide) (hts (.classLink RL 59 "java/lang/IllegalStateException") (by decide +kernel)) (va_any rfl hV.1.2.2.2.2.2.2.2.2.2.2.2) hce hcv hcl ?_
      refine lv_astore_n (lv' := [(2, .ref q9), (0, .ref (ad 0)), (1, .int (nI c9))]) hx hb dL_sew_6 rfl hl (by decide) rfl (fun ls hl => ?_)
      refine lv_iconst (v := -1) hx hb dL_sew_7 (by decide) ?_
      rw [← hQ]
      exact W.iret (v := -1) hx hb hr (fun t ht hW => ⟨⟨-1, (), rfl, (by rw [hok]; rfl), (by subst ht; exact Or.inr ⟨hok, u, hP⟩)⟩, hS.F ht⟩) hS.2.2 dL_sew_8
  · rw [ht] at hB
    have hok : okSew F n np nq c9 = true := by
      cases hq : okSew F n np nq c9
      · rw [hq, if_neg Bool.false_ne_true] at hs
        exact absurd (congrArg Prod.fst (hs.symm.trans hw)) (show ¬ (2 : Nat) = 0 by decide)
      · rfl
    rw [hok, if_pos rfl] at hs
    have hr9 : r = nI nq := (congrArg Prod.snd (hs.symm.trans hw)).symm
    rw [← hQ]
    exact W.iret (v := r) hx hb hr (fun t ht hW => ⟨⟨r, (), rfl, (by rw [hok]; exact hr9), (by subst ht; exact Or.inl ⟨hok, u, GW.of hB⟩)⟩, hS.F ht⟩) hS.2.2 dL_sew_5
set_option maxHeartbeats 4000000 in
set_option maxRecDepth 100000 in
theorem c_L_rip (l : Launch) (hst : l.stackTraces = false) (D : va_G) (cI cZ cO : ClassId) (ad : Nat → Nat) (n np nq : Nat) (F : Nat → Nat → Int32) (q0 : Nat) (hinj : inj ad 23) (hJ : J n np nq F) (hq1 : q0 < 1000) : Met l yL_rip wsL_rip ({ frames := 8, cells := 2, slots := 12, locals := 130 } : Room) (va_Pc [.ref (ad 0), .int (nI q0)] (PrG D cI cZ cO ad n np nq F (EnvL (inA ad 23)))) (va_Qi (S := Unit) (fun (r : Int32) (_ : Unit) => r = if okRip F nq q0 = true then nI (rpc (F 5) (nI q0) (F 6) np) else -1) (fun (_ : Unit) (t : State) => (okRip F nq q0 = true ∧ ∃ u, GW D cI cZ cO ad n np nq (ripF (va_up F 13 u) np q0) t.heap) ∨ (okRip F nq q0 = false ∧ GW D cI cZ cO ad n np nq F t.heap)) (inA ad 23)) 2 12 (inA ad 23) := by
  refine met_ofWH (cc := cL_rip) (maxL := 3) (ret := (some .int)) (hh := [(0, 5, 6, 59), (0, 5, 6, 65)]) (by decide) rfl ?_
  intro p e s m args below meth c s₁ B hml hv
  obtain ⟨hargs, ⟨u, hP⟩, hK, hV⟩ := hv
  have hx := B.exec
  have hb := B.bytes
  have hr := B.returns
  have hts := atoms_spec (ws := wsL_rip) B.pre
  have hown : s.vm.findClass RL = some m.cls := findClass_of_methodNamed B.named
  have hlocks := B.notSynchronized
  have htab : c.exceptionTable.toList = tableOf [(0, 5, 6, 59), (0, 5, 6, 65)] := vx_table (x := yL_rip) B (hts (.codeWith yL_rip cL_rip 3 (some .int) [(0, 5, 6, 59), (0, 5, 6, 65)]) List.mem_cons_self)
  have hS : va_S (inA ad 23) s.heap s.heap [] := va_S.rf
  have hRf : 8 ≤ (headSpec wsL_rip ({ frames := 8, cells := 2, slots := 12, locals := 130 } : Room)).room.frames := Nat.le_refl _
  have hRl : 130 ≤ (headSpec wsL_rip ({ frames := 8, cells := 2, slots := 12, locals := 130 } : Room)).room.locals := Nat.le_refl _
  have hRc : 2 ≤ (headSpec wsL_rip ({ frames := 8, cells := 2, slots := 12, locals := 130 } : Room)).room.cells := Nat.le_refl _
  have hRs : 12 ≤ (headSpec wsL_rip ({ frames := 8, cells := 2, slots := 12, locals := 130 } : Room)).room.slots := Nat.le_refl _
  generalize (headSpec wsL_rip ({ frames := 8, cells := 2, slots := 12, locals := 130 } : Room)).room = R at hRf hRl hRc hRs ⊢
  have hl := lv_entry [.ref (ad 0), .int (nI q0)] (n := 3) (Nat.le_of_ble_eq_true rfl)
  refine W.eq (show entryFrame m args 3 = _ from by rw [hargs, lg_entry_eq]) ?_
  generalize (lg_sl [.ref (ad 0), .int (nI q0)] ++ List.replicate (3 - (lg_sl [.ref (ad 0), .int (nI q0)]).length) Slot.unset).toArray = ls at hl ⊢
  have hl : lv_has ls 3 [(0, .ref (ad 0)), (1, .int (nI q0))] := hl
  generalize hQ : MQ _ _ _ _ _ _ _ = Q
  have hs : spRip np nq (va_up F 13 u) (nI q0) = if okRip F nq q0 = true then (0, nI (rpc (F 5) (nI q0) (F 6) np)) else (if inR (nI q0) nq = true then (2, 0) else (1, 0)) := by
    unfold spRip okRip
    have := hJ.inv.2.2.1
    rw [e13 F u 12 (by decide), e13 F u 5 (by decide), e13 F u 6 (by decide), cl_n (by omega), inR_n (by omega) (by omega)]
    by_cases h : q0 < nq
    · rw [decide_eq_true h, if_pos rfl, if_pos rfl, Bool.true_and]
    · rw [decide_eq_false h, if_neg (by decide), if_neg (by simp), if_neg (by decide)]
  refine lv_aload_n hx hb dL_rip_0 rfl (lv_at hl 0 rfl) ?_
  refine lv_iload_n hx hb dL_rip_1 rfl (lv_at hl 1 rfl) ?_
  refine vx_calli (vx_runV (As := [.int (nI q0)]) (rest := []) ⟨hx, hb, hml, hown, hts⟩ (c_X0_rip l hst D cI cZ cO ad n np nq (va_up F 13 u) (nI q0) hinj hJ.inv.2.1 hJ.inv.2.2.1) (cwV 1 hts gL_rip_X0_rip rfl rfl rfl (by decide +kernel) ⟨Nat.le_trans (Nat.le_of_ble_eq_true rfl) hRf, Nat.le_trans (Nat.le_of_ble_eq_true rfl) hRl⟩) (pr_V hP (ci := 0) (q0 := 0) rfl g_at0 rfl hP hK [0, 1, 2] rfl (hV.1.at hS sub_id (fun _ h => h)) EnvG_c) rfl rfl hl.1 rfl (lv_room (Nat.le_of_ble_eq_true rfl)) dL_rip_2 ⟨Nat.le_trans (Nat.le_of_ble_eq_true rfl) hRc, Nat.le_trans (Nat.le_of_ble_eq_true rfl) hRs⟩) hS (fun _ _ h => h) (fun _ h => h) (fun _ _ h => h.elim) (fun E ce q9 _ t H1 locs ht hvm hpx hbx _ hk hS hce hcv hcl => ?_) (fun r u9 t H1 locs ht hvm hw hB hz hk hS => ?_)
  · have hP := P_kept hP hk
    have hok : okRip F nq q0 = false := by
      cases hq : okRip F nq q0
      · rfl
      · rw [hq, if_pos rfl] at hs
        exact hbx.elim (fun e9 => absurd (congrArg Prod.fst (hs.symm.trans e9.2)) (show ¬ (0 : Nat) = 1 by decide)) (fun e9 => absurd (congrArg Prod.fst (hs.symm.trans e9.2)) (show ¬ (0 : Nat) = 2 by decide))
    rcases hbx with ⟨rfl, e9⟩ | ⟨rfl, e9⟩
    · refine vx_catch hown [(⟨0, 5, 6, 59⟩ : ExceptionTableEntry)] (⟨0, 5, 6, 65⟩ : ExceptionTableEntry) [] htab (fun z hz => by (have hz := List.mem_singleton.mp hz; subst hz; exact Or.inr ⟨by decide, "java/lang/IllegalStateException", hts (.classLink RL 59 "java/lang/IllegalStateException") (by decide +kernel), hV.2⟩)) (by decide) (by decide) (hts (.classLink RL 65 "java/lang/IndexOutOfBoundsException") (by decide +kernel)) (va_any rfl hV.1.2.2.2.2.2.2.2.2.2.1) hce hcv hcl ?_
      refine lv_astore_n (lv' := [(2, .ref q9), (0, .ref (ad 0)), (1, .int (nI q0))]) hx hb dL_rip_6 rfl hl (by decide) rfl (fun ls hl => ?_)
      refine lv_iconst (v := -1) hx hb dL_rip_7 (by decide) ?_
      rw [← hQ]
      exact W.iret (v := -1) hx hb hr (fun t ht hW => ⟨⟨-1, (), rfl, (by rw [hok]; rfl), (by subst ht; exact Or.inr ⟨hok, u, hP⟩)⟩, hS.F ht⟩) hS.2.2 dL_rip_8
    · refine vx_catch hown [] (⟨0, 5, 6, 59⟩ : ExceptionTableEntry) [(⟨0, 5, 6, 65⟩ : ExceptionTableEntry)] htab (fun z hz => by simp at hz) (by decide) (by decide) (hts (.classLink RL 59 "java/lang/IllegalStateException") (by decide +kernel)) (va_any rfl hV.1.2.2.2.2.2.2.2.2.2.2.2) hce hcv hcl ?_
      refine lv_astore_n (lv' := [(2, .ref q9), (0, .ref (ad 0)), (1, .int (nI q0))]) hx hb dL_rip_6 rfl hl (by decide) rfl (fun ls hl => ?_)
      refine lv_iconst (v := -1) hx hb dL_rip_7 (by decide) ?_
      rw [← hQ]
      exact W.iret (v := -1) hx hb hr (fun t ht hW => ⟨⟨-1, (), rfl, (by rw [hok]; rfl), (by subst ht; exact Or.inr ⟨hok, u, hP⟩)⟩, hS.F ht⟩) hS.2.2 dL_rip_8
  · rw [ht] at hB
    have hok : okRip F nq q0 = true := by
      cases hq : okRip F nq q0
      · rw [hq, if_neg Bool.false_ne_true] at hs
        split at hs
        · exact absurd (congrArg Prod.fst (hs.symm.trans hw)) (show ¬ (2 : Nat) = 0 by decide)
        · exact absurd (congrArg Prod.fst (hs.symm.trans hw)) (show ¬ (1 : Nat) = 0 by decide)
      · rfl
    rw [hok, if_pos rfl] at hs
    have hr9 : r = nI (rpc (F 5) (nI q0) (F 6) np) := (congrArg Prod.snd (hs.symm.trans hw)).symm
    rw [← hQ]
    exact W.iret (v := r) hx hb hr (fun t ht hW => ⟨⟨r, (), rfl, (by rw [hok]; exact hr9), (by subst ht; exact Or.inl ⟨hok, u, GW.of (by rw [cl_n (by omega)] at hB; exact hB)⟩)⟩, hS.F ht⟩) hS.2.2 dL_rip_5
