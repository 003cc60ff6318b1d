set_option maxHeartbeats 4000000 in
set_option maxRecDepth 100000 in
/-- tranks -/
theorem c_X1_tranks (l : Launch) (D : va_G) (cI : ClassId) (ad : Nat → Nat) (th : Int32) (n np nq : Nat) (F : Nat → Nat → Int32) (T : Nat → Int32) (s0 : Nat) (hn : n ≤ 10) (hnp : np ≤ 150) (hsk : ∀ p, p < np → ∃ k, k < n ∧ F 4 p = nI k) (hs : s0 < 10) : Met l yX1_tranks wsX1_tranks ({ frames := 1, cells := 0, slots := 0, locals := 23 } : Room) (va_Pc [.ref (ad 0), .int (nI s0)] (Pr D [(cI, .int)] (wM cI ad th n np nq F T) V0)) (va_Qi (S := Unit) (fun (r : Int32) (_ : Unit) => r = nI (fT F np s0)) (fun _ _ => True) (fun _ => False)) 0 0 (fun _ => False) := by
  refine Met.ofW (cc := cX1_tranks) (maxL := 4) (ret := (some .int)) (by decide) rfl ?_
  intro p e s m args below meth c s₁ B hml hv
  obtain ⟨hargs, hP, hK, hV⟩ := hv
  have hx := B.exec
  have hb := B.bytes
  have hr := B.returns
  have hts := atoms_spec (ws := wsX1_tranks) B.pre
  have hown : s.vm.findClass RX1 = some m.cls := findClass_of_methodNamed B.named
  have hlocks := B.notSynchronized
  have hS : va_S (fun _ => False) s.heap s.heap [] := va_S.rf
  have hiw : ∀ w ∈ wsX10, w ∈ wsX1_tranks := (fun _ h => List.mem_cons_of_mem _ (List.mem_append_right _ h))
  have hRf : 1 ≤ (headSpec wsX1_tranks ({ frames := 1, cells := 0, slots := 0, locals := 23 } : Room)).room.frames := Nat.le_refl _
  have hRl : 23 ≤ (headSpec wsX1_tranks ({ frames := 1, cells := 0, slots := 0, locals := 23 } : Room)).room.locals := Nat.le_refl _
  have hRc : 0 ≤ (headSpec wsX1_tranks ({ frames := 1, cells := 0, slots := 0, locals := 23 } : Room)).room.cells := Nat.le_refl _
  have hRs : 0 ≤ (headSpec wsX1_tranks ({ frames := 1, cells := 0, slots := 0, locals := 23 } : Room)).room.slots := Nat.le_refl _
  generalize (headSpec wsX1_tranks ({ frames := 1, cells := 0, slots := 0, locals := 23 } : Room)).room = R at hRf hRl hRc hRs ⊢
  have hl := lv_entry [.ref (ad 0), .int (nI s0)] (n := 4) (Nat.le_of_ble_eq_true rfl)
  refine W.eq (show entryFrame m args 4 = _ from by rw [hargs, lg_entry_eq]) ?_
  generalize (lg_sl [.ref (ad 0), .int (nI s0)] ++ List.replicate (4 - (lg_sl [.ref (ad 0), .int (nI s0)]).length) Slot.unset).toArray = ls at hl ⊢
  have hl : lv_has ls 4 [(0, .ref (ad 0)), (1, .int (nI s0))] := hl
  generalize hQ : MQ _ _ _ _ _ _ _ = Q
  refine lv_iconst (v := nI 0) hx hb dX1_tranks_0 (by decide) ?_
  refine lv_istore_n (lv' := [(2, .int (nI 0)), (0, .ref (ad 0)), (1, .int (nI s0))]) hx hb dX1_tranks_1 rfl hl (by decide) rfl (fun ls hl => ?_)
  refine lv_iconst (v := nI 0) hx hb dX1_tranks_2 (by decide) ?_
  refine lv_istore_n (lv' := [(3, .int (nI 0)), (2, .int (nI 0)), (0, .ref (ad 0)), (1, .int (nI s0))]) hx hb dX1_tranks_3 rfl hl (by decide) rfl (fun ls hl => ?_)
  have L4 : ∀ (fu : Nat) (k : Nat) (i : Nat) (H : Heap) (locs : List Loc) (ls : Array Slot), np - i < fu → (i ≤ np) → (k = cn (isT F s0) i) → (k ≤ i) → va_P D vwCl (wM cI ad th n np nq F T) H → va_S (fun _ => False) s.heap H locs → lv_has ls 4 [(0, .ref (ad 0)), (1, .int (nI s0)), (2, .int (nI k)), (3, .int (nI i))] → W p l e R s m args below meth c H locs 0 0 Q (F0 m 4 ls []) := by
    intro fu
    induction fu with
    | zero => intro _ _ _ _ _ h; exact absurd h (Nat.not_lt_zero _)
    | succ fu ih4 =>
      intro k i H locs ls hm4 h1 h2 h3 hP  hS hl
      refine lv_iload_n hx hb dX1_tranks_4 rfl (lv_at hl 3 rfl) ?_
      refine lv_aload_n hx hb dX1_tranks_5 rfl (lv_at hl 0 rfl) ?_
      refine va_get (D := D) (ci := 1) (v := .int (nI np)) (C := RX1) (T := TX1) (N := 12) hx hb hts hiw hown hK hP 0 m_at0 rfl 4 (by decide) (hts (.fieldLink RX1 67 "GloveCuttersModel" "pieces" "I") (by decide +kernel)) (fun _ h9 => h9) rfl dX1_tranks_6 ?_
      refine nv_icmp_ge (tgt := 51) hx hb (by omega) (by omega) dX1_tranks_9 (by decide) (fun c_1 => ?_) (fun c_1 => ?_)
      · refine lv_iload_n hx hb dX1_tranks_51 rfl (lv_at hl 2 rfl) ?_
        rw [← hQ]
        exact W.iret (v := nI k) hx hb hr (fun t ht hW => ⟨⟨nI k, (), rfl, (by rw [h2, show i = np by omega]; rfl), trivial⟩, hS.F ht⟩) hS.2.2 dX1_tranks_52
      · refine lv_iload_n hx hb dX1_tranks_12 rfl (lv_at hl 2 rfl) ?_
        refine lv_aload_n hx hb dX1_tranks_13 rfl (lv_at hl 0 rfl) ?_
        refine va_get (D := D) (ci := 1) (v := .ref (ad 3)) (C := RX1) (T := TX1) (N := 12) hx hb hts hiw hown hK hP 0 m_at0 rfl 5 (by decide) (hts (.fieldLink RX1 16 "GloveCuttersModel" "skinOf" "[I") (by decide +kernel)) (fun _ h9 => h9) rfl dX1_tranks_14 ?_
        refine lv_iload_n hx hb dX1_tranks_17 rfl (lv_at hl 3 rfl) ?_
        refine nv_iald hx hb hK hP 3 0 m_at3 rfl (by omega) (by omega) dX1_tranks_18 ?_
        refine lv_iload_n hx hb dX1_tranks_19 rfl (lv_at hl 1 rfl) ?_
        refine lv_icmp_ne (tgt := 42) hx hb dX1_tranks_20 (by decide) (fun c_2 => ?_) (fun c_2 => ?_)
        · refine lv_iconst (v := nI 0) hx hb dX1_tranks_42 (by decide) ?_
          refine nv_iadd hx hb dX1_tranks_43 ?_
          refine lv_istore_n (lv' := [(2, .int (nI (k + 0))), (0, .ref (ad 0)), (1, .int (nI s0)), (3, .int (nI i))]) hx hb dX1_tranks_44 rfl hl (by decide) rfl (fun ls hl => ?_)
          refine lv_iinc (k := 3) (v := nI (i + 1)) (lv' := [(3, .int (nI (i + 1))), (2, .int (nI (k + 0))), (0, .ref (ad 0)), (1, .int (nI s0))]) hx hb dX1_tranks_45 hl rfl (nI_add i 1) (by decide) rfl (fun ls hl => ?_)
          refine lv_goto (tgt := 4) hx hb dX1_tranks_48 (by decide) ?_
          exact ih4 (k + 0) (i + 1) _ _ _ (by omega) (by omega) (by rw [h2]; exact (cn_f (isT_3 c_2)).symm) (by omega) hP hS (lv_sub hl [2, 3, 1, 0] rfl)
        · refine lv_aload_n hx hb dX1_tranks_23 rfl (lv_at hl 0 rfl) ?_
          refine lv_iload_n hx hb dX1_tranks_24 rfl (lv_at hl 3 rfl) ?_
          refine lv_aload_n hx hb dX1_tranks_25 rfl (lv_at hl 0 rfl) ?_
          refine va_get (D := D) (ci := 1) (v := .ref (ad 1)) (C := RX1) (T := TX1) (N := 12) hx hb hts hiw hown hK hP 0 m_at0 rfl 2 (by decide) (hts (.fieldLink RX1 9 "GloveCuttersModel" "colour" "[I") (by decide +kernel)) (fun _ h9 => h9) rfl dX1_tranks_26 ?_
          refine lv_iload_n hx hb dX1_tranks_29 rfl (lv_at hl 1 rfl) ?_
          refine nv_iald hx hb hK hP 1 0 m_at1 rfl (by omega) (by omega) dX1_tranks_30 ?_
          refine lv_iconst (v := nI 0) hx hb dX1_tranks_31 (by decide) ?_
          refine va_calli (va_runV (As := [.int (nI i), .int (F 1 s0), .int (nI 0)]) (rest := [.int (nI k)]) ⟨hx, hb, hml, hown, hts⟩ (c_X1_isFree l D cI ad th n np nq F T i (F 1 s0) (nI 0) hn hnp hsk (by omega)) (cwV 3 hts gX1_tranks_X1_isFree rfl rfl rfl (by decide +kernel) ⟨Nat.le_trans (Nat.le_of_ble_eq_true rfl) hRf, Nat.le_trans (Nat.le_of_ble_eq_true rfl) hRl⟩) (pr_V hP (ci := 1) (q0 := 0) rfl m_at0 rfl hP hK [0] rfl V0_at V0_c) rfl rfl hl.1 rfl (lv_room (Nat.le_of_ble_eq_true rfl)) dX1_tranks_32 ⟨Nat.le_trans (Nat.le_of_ble_eq_true rfl) hRc, Nat.le_trans (Nat.le_of_ble_eq_true rfl) hRs⟩) hS (fun _ _ h => h.elim) (fun _ h => h.elim) (fun r_3 _ t H1 locs ht hvm hw_3 hB hz hk hS => ?_)
          have hP := P_kept hP hk
          obtain rfl := hw_3
          refine nb_if_eq (tgt := 42) hx hb dX1_tranks_35 (by decide) (fun c_4 => ?_) (fun c_4 => ?_)
          · refine lv_iconst (v := nI 0) hx hb dX1_tranks_42 (by decide) ?_
            refine nv_iadd hx hb dX1_tranks_43 ?_
            refine lv_istore_n (lv' := [(2, .int (nI (k + 0))), (0, .ref (ad 0)), (1, .int (nI s0)), (3, .int (nI i))]) hx hb dX1_tranks_44 rfl hl (by decide) rfl (fun ls hl => ?_)
            refine lv_iinc (k := 3) (v := nI (i + 1)) (lv' := [(3, .int (nI (i + 1))), (2, .int (nI (k + 0))), (0, .ref (ad 0)), (1, .int (nI s0))]) hx hb dX1_tranks_45 hl rfl (nI_add i 1) (by decide) rfl (fun ls hl => ?_)
            refine lv_goto (tgt := 4) hx hb dX1_tranks_48 (by decide) ?_
            exact ih4 (k + 0) (i + 1) _ _ _ (by omega) (by omega) (by rw [h2]; exact (cn_f ((isF_T (by omega) c_2).symm.trans c_4)).symm) (by omega) hP hS (lv_sub hl [2, 3, 1, 0] rfl)
          · refine lv_iconst (v := nI 1) hx hb dX1_tranks_38 (by decide) ?_
            refine lv_goto (tgt := 43) hx hb dX1_tranks_39 (by decide) ?_
            refine nv_iadd hx hb dX1_tranks_43 ?_
            refine lv_istore_n (lv' := [(2, .int (nI (k + 1))), (0, .ref (ad 0)), (1, .int (nI s0)), (3, .int (nI i))]) hx hb dX1_tranks_44 rfl hl (by decide) rfl (fun ls hl => ?_)
            refine lv_iinc (k := 3) (v := nI (i + 1)) (lv' := [(3, .int (nI (i + 1))), (2, .int (nI (k + 1))), (0, .ref (ad 0)), (1, .int (nI s0))]) hx hb dX1_tranks_45 hl rfl (nI_add i 1) (by decide) rfl (fun ls hl => ?_)
            refine lv_goto (tgt := 4) hx hb dX1_tranks_48 (by decide) ?_
            exact ih4 (k + 1) (i + 1) _ _ _ (by omega) (by omega) (by rw [h2]; exact (cn_t ((isF_T (by omega) c_2).symm.trans c_4)).symm) (by omega) hP hS (lv_sub hl [2, 3, 1, 0] rfl)
  exact L4 _ 0 0 _ _ _ (Nat.lt_succ_self _) (by omega) rfl (by omega) hP hS (lv_sub hl [2, 3, 1, 0] rfl)
set_option maxHeartbeats 4000000 in
set_option maxRecDepth 100000 in
/-- trankSkin -/
theorem c_X1_trankSkin (l : Launch) (D : va_G) (cI : ClassId) (ad : Nat → Nat) (th : Int32) (n np nq : Nat) (F : Nat → Nat → Int32) (T : Nat → Int32) (c0 : Int32) (hn : n ≤ 10) (hnp : np ≤ 150) (hsk : ∀ p, p < np → ∃ k, k < n ∧ F 4 p = nI k) : Met l yX1_trankSkin wsX1_trankSkin ({ frames := 2, cells := 0, slots := 0, locals := 46 } : Room) (va_Pc [.ref (ad 0), .int c0] (Pr D [(cI, .int)] (wM cI ad th n np nq F T) V0)) (va_Qi (S := Unit) (fun (r : Int32) (_ : Unit) => r = tsI F n np c0) (fun _ _ => True) (fun _ => False)) 0 0 (fun _ => False) := by
  refine Met.ofW (cc := cX1_trankSkin) (maxL := 3) (ret := (some .int)) (by decide) rfl ?_
  intro p e s m args below meth c s₁ B hml hv
  obtain ⟨hargs, hP, hK, hV⟩ := hv
  have hx := B.exec
  have hb := B.bytes
  have hr := B.returns
  have hts := atoms_spec (ws := wsX1_trankSkin) B.pre
  have hown : s.vm.findClass RX1 = some m.cls := findClass_of_methodNamed B.named
  have hlocks := B.notSynchronized
  have hS : va_S (fun _ => False) s.heap s.heap [] := va_S.rf
  have hiw : ∀ w ∈ wsX10, w ∈ wsX1_trankSkin := (fun _ h => List.mem_cons_of_mem _ (List.mem_append_right _ h))
  have hRf : 2 ≤ (headSpec wsX1_trankSkin ({ frames := 2, cells := 0, slots := 0, locals := 46 } : Room)).room.frames := Nat.le_refl _
  have hRl : 46 ≤ (headSpec wsX1_trankSkin ({ frames := 2, cells := 0, slots := 0, locals := 46 } : Room)).room.locals := Nat.le_refl _
  have hRc : 0 ≤ (headSpec wsX1_trankSkin ({ frames := 2, cells := 0, slots := 0, locals := 46 } : Room)).room.cells := Nat.le_refl _
  have hRs : 0 ≤ (headSpec wsX1_trankSkin ({ frames := 2, cells := 0, slots := 0, locals := 46 } : Room)).room.slots := Nat.le_refl _
  generalize (headSpec wsX1_trankSkin ({ frames := 2, cells := 0, slots := 0, locals := 46 } : Room)).room = R at hRf hRl hRc hRs ⊢
  have hl := lv_entry [.ref (ad 0), .int c0] (n := 3) (Nat.le_of_ble_eq_true rfl)
  refine W.eq (show entryFrame m args 3 = _ from by rw [hargs, lg_entry_eq]) ?_
  generalize (lg_sl [.ref (ad 0), .int c0] ++ List.replicate (3 - (lg_sl [.ref (ad 0), .int c0]).length) Slot.unset).toArray = ls at hl ⊢
  have hl : lv_has ls 3 [(0, .ref (ad 0)), (1, .int c0)] := hl
  generalize hQ : MQ _ _ _ _ _ _ _ = Q
  refine lv_iconst (v := nI 0) hx hb dX1_trankSkin_0 (by decide) ?_
  refine lv_istore_n (lv' := [(2, .int (nI 0)), (0, .ref (ad 0)), (1, .int c0)]) hx hb dX1_trankSkin_1 rfl hl (by decide) rfl (fun ls hl => ?_)
  have L2 : ∀ (fu : Nat) (i : Nat) (H : Heap) (locs : List Loc) (ls : Array Slot), n - i < fu → (i ≤ n) → (tsI F n np c0 = fI (tsB F np c0) i (n - i)) → va_P D vwCl (wM cI ad th n np nq F T) H → va_S (fun _ => False) s.heap H locs → lv_has ls 3 [(0, .ref (ad 0)), (1, .int c0), (2, .int (nI i))] → W p l e R s m args below meth c H locs 0 0 Q (F0 m 2 ls []) := by
    intro fu
    induction fu with
    | zero => intro _ _ _ _ h; exact absurd h (Nat.not_lt_zero _)
    | succ fu ih2 =>
      intro i H locs ls hm2 h1 h2 hP  hS hl
      refine lv_iload_n hx hb dX1_trankSkin_2 rfl (lv_at hl 2 rfl) ?_
      refine lv_aload_n hx hb dX1_trankSkin_3 rfl (lv_at hl 0 rfl) ?_
      refine va_get (D := D) (ci := 1) (v := .int (nI n)) (C := RX1) (T := TX1) (N := 12) hx hb hts hiw hown hK hP 0 m_at0 rfl 1 (by decide) (hts (.fieldLink RX1 38 "GloveCuttersModel" "skins" "I") (by decide +kernel)) (fun _ h9 => h9) rfl dX1_trankSkin_4 ?_
      refine nv_icmp_ge (tgt := 37) hx hb (by omega) (by omega) dX1_trankSkin_7 (by decide) (fun c_1 => ?_) (fun c_1 => ?_)
      · refine lv_iconst (v := -1) hx hb dX1_trankSkin_37 (by decide) ?_
        rw [← hQ]
        exact W.iret (v := (-1)) hx hb hr (fun t ht hW => ⟨⟨(-1), (), rfl, (h2.trans (fI_e (by omega))).symm, trivial⟩, hS.F ht⟩) hS.2.2 dX1_trankSkin_38
      · refine lv_aload_n hx hb dX1_trankSkin_10 rfl (lv_at hl 0 rfl) ?_
        refine va_get (D := D) (ci := 1) (v := .ref (ad 1)) (C := RX1) (T := TX1) (N := 12) hx hb hts hiw hown hK hP 0 m_at0 rfl 2 (by decide) (hts (.fieldLink RX1 9 "GloveCuttersModel" "colour" "[I") (by decide +kernel)) (fun _ h9 => h9) rfl dX1_trankSkin_11 ?_
        refine lv_iload_n hx hb dX1_trankSkin_14 rfl (lv_at hl 2 rfl) ?_
        refine nv_iald hx hb hK hP 1 0 m_at1 rfl (by omega) (by omega) dX1_trankSkin_15 ?_
        refine lv_iload_n hx hb dX1_trankSkin_16 rfl (lv_at hl 1 rfl) ?_
        refine lv_icmp_ne (tgt := 31) hx hb dX1_trankSkin_17 (by decide) (fun c_2 => ?_) (fun c_2 => ?_)
        · refine lv_iinc (k := 2) (v := nI (i + 1)) (lv' := [(2, .int (nI (i + 1))), (0, .ref (ad 0)), (1, .int c0)]) hx hb dX1_trankSkin_31 hl rfl (nI_add i 1) (by decide) rfl (fun ls hl => ?_)
          refine lv_goto (tgt := 2) hx hb dX1_trankSkin_34 (by decide) ?_
          exact ih2 (i + 1) _ _ _ (by omega) (by omega) (h2.trans (fI_n (by omega) (tsB_1 c_2))) hP hS (lv_sub hl [1, 2, 0] rfl)
        · refine lv_aload_n hx hb dX1_trankSkin_20 rfl (lv_at hl 0 rfl) ?_
          refine lv_iload_n hx hb dX1_trankSkin_21 rfl (lv_at hl 2 rfl) ?_
          refine va_calli (va_runV (As := [.int (nI i)]) (rest := []) ⟨hx, hb, hml, hown, hts⟩ (c_X1_tranks l D cI ad th n np nq F T i hn hnp hsk (by omega)) (cwV 1 hts gX1_trankSkin_X1_tranks rfl rfl rfl (by decide +kernel) ⟨Nat.le_trans (Nat.le_of_ble_eq_true rfl) hRf, Nat.le_trans (Nat.le_of_ble_eq_true rfl) hRl⟩) (pr_V hP (ci := 1) (q0 := 0) rfl m_at0 rfl hP hK [0] rfl V0_at V0_c) rfl rfl hl.1 rfl (lv_room (Nat.le_of_ble_eq_true rfl)) dX1_trankSkin_22 ⟨Nat.le_trans (Nat.le_of_ble_eq_true rfl) hRc, Nat.le_trans (Nat.le_of_ble_eq_true rfl) hRs⟩) hS (fun _ _ h => h.elim) (fun _ h => h.elim) (fun r_3 _ t H1 locs ht hvm hw_3 hB hz hk hS => ?_)
          have hP := P_kept hP hk
          obtain rfl := hw_3
          have hb9 := fT_le F np i
          refine lv_iconst (v := nI 1) hx hb dX1_trankSkin_25 (by decide) ?_
          refine nv_icmp_le (tgt := 31) hx hb (by omega) (by omega) dX1_trankSkin_26 (by decide) (fun c_4 => ?_) (fun c_4 => ?_)
          · refine lv_iinc (k := 2) (v := nI (i + 1)) (lv' := [(2, .int (nI (i + 1))), (0, .ref (ad 0)), (1, .int c0)]) hx hb dX1_trankSkin_31 hl rfl (nI_add i 1) (by decide) rfl (fun ls hl => ?_)
            refine lv_goto (tgt := 2) hx hb dX1_trankSkin_34 (by decide) ?_
            exact ih2 (i + 1) _ _ _ (by omega) (by omega) (h2.trans (fI_n (by omega) (tsB_2 (by omega)))) hP hS (lv_sub hl [1, 2, 0] rfl)
          · refine lv_iload_n hx hb dX1_trankSkin_29 rfl (lv_at hl 2 rfl) ?_
            rw [← hQ]
            exact W.iret (v := nI i) hx hb hr (fun t ht hW => ⟨⟨nI i, (), rfl, (h2.trans (fI_y (by omega) (tsB_t c_2 (by omega)))).symm, trivial⟩, hS.F ht⟩) hS.2.2 dX1_trankSkin_30
  exact L2 _ 0 _ _ _ (Nat.lt_succ_self _) (by omega) rfl hP hS (lv_sub hl [1, 2, 0] rfl)
set_option maxHeartbeats 4000000 in
set_option maxRecDepth 100000 in
/-- canSew -/
theorem c_X1_canSew (l : Launch) (D : va_G) (cI : ClassId) (ad : Nat → Nat) (th : Int32) (n np nq : Nat) (F : Nat → Nat → Int32) (T : Nat → Int32) (c0 : Int32) (hn : n ≤ 10) (hnp : np ≤ 150) (hsk : ∀ p, p < np → ∃ k, k < n ∧ F 4 p = nI k) : Met l yX1_canSew wsX1_canSew ({ frames := 3, cells := 0, slots := 0, locals := 68 } : Room) (va_Pc [.ref (ad 0), .int c0] (Pr D [(cI, .int)] (wM cI ad th n np nq F T) (EnvM (fun _ => False)))) (va_Qi (S := Unit) (fun (r : Int32) (_ : Unit) => r = bI (canS F n np c0)) (fun _ _ => True) (fun _ => False)) 0 0 (fun _ => False) := by
  refine Met.ofW (cc := cX1_canSew) (maxL := 4) (ret := (some .boolean)) (by decide) rfl ?_
  intro p e s m args below meth c s₁ B hml hv
  obtain ⟨hargs, hP, hK, hV⟩ := hv
  have hx := B.exec
  have hb := B.bytes
  have hr := B.returns
  have hts := atoms_spec (ws := wsX1_canSew) B.pre
  have hown : s.vm.findClass RX1 = some m.cls := findClass_of_methodNamed B.named
  have hlocks := B.notSynchronized
  have hS : va_S (fun _ => False) s.heap s.heap [] := va_S.rf
  have hV0 : EnvM (fun _ => False) s := EnvM.nar hV sub_no
  have hiw : ∀ w ∈ wsX10, w ∈ wsX1_canSew := (fun _ h => List.mem_cons_of_mem _ (List.mem_append_right _ h))
  have hRf : 3 ≤ (headSpec wsX1_canSew ({ frames := 3, cells := 0, slots := 0, locals := 68 } : Room)).room.frames := Nat.le_refl _
  have hRl : 68 ≤ (headSpec wsX1_canSew ({ frames := 3, cells := 0, slots := 0, locals := 68 } : Room)).room.locals := Nat.le_refl _
  have hRc : 0 ≤ (headSpec wsX1_canSew ({ frames := 3, cells := 0, slots := 0, locals := 68 } : Room)).room.cells := Nat.le_refl _
  have hRs : 0 ≤ (headSpec wsX1_canSew ({ frames := 3, cells := 0, slots := 0, locals := 68 } : Room)).room.slots := Nat.le_refl _
  generalize (headSpec wsX1_canSew ({ frames := 3, cells := 0, slots := 0, locals := 68 } : Room)).room = R at hRf hRl hRc hRs ⊢
  have hl := lv_entry [.ref (ad 0), .int c0] (n := 4) (Nat.le_of_ble_eq_true rfl)
  refine W.eq (show entryFrame m args 4 = _ from by rw [hargs, lg_entry_eq]) ?_
  generalize (lg_sl [.ref (ad 0), .int c0] ++ List.replicate (4 - (lg_sl [.ref (ad 0), .int c0]).length) Slot.unset).toArray = ls at hl ⊢
  have hl : lv_has ls 4 [(0, .ref (ad 0)), (1, .int c0)] := hl
  generalize hQ : MQ _ _ _ _ _ _ _ = Q
  refine lv_aload_n hx hb dX1_canSew_0 rfl (lv_at hl 0 rfl) ?_
  refine lv_iload_n hx hb dX1_canSew_1 rfl (lv_at hl 1 rfl) ?_
  refine va_calli (va_runV (As := [.int c0]) (rest := []) ⟨hx, hb, hml, hown, hts⟩ (c_X1_trankSkin l D cI ad th n np nq F T c0 hn hnp hsk) (cwV 1 hts gX1_canSew_X1_trankSkin rfl rfl rfl (by decide +kernel) ⟨Nat.le_trans (Nat.le_of_ble_eq_true rfl) hRf, Nat.le_trans (Nat.le_of_ble_eq_true rfl) hRl⟩) (pr_V hP (ci := 1) (q0 := 0) rfl m_at0 rfl hP hK [0] rfl V0_at V0_c) rfl rfl hl.1 rfl (lv_room (Nat.le_of_ble_eq_true rfl)) dX1_canSew_2 ⟨Nat.le_trans (Nat.le_of_ble_eq_true rfl) hRc, Nat.le_trans (Nat.le_of_ble_eq_true rfl) hRs⟩) hS (fun _ _ h => h.elim) (fun _ h => h.elim) (fun r_1 _ t H1 locs ht hvm hw_1 hB hz hk hS => ?_)
  have hP := P_kept hP hk
  obtain rfl := hw_1
  refine lv_iconst (v := -1) hx hb dX1_canSew_5 (by decide) ?_
  refine lv_icmp_eq (tgt := 13) hx hb dX1_canSew_6 (by decide) (fun c_2 => ?_) (fun c_2 => ?_)
  · refine lv_iconst (v := nI 0) hx hb dX1_canSew_13 (by decide) ?_
    refine lv_istore_n (lv' := [(2, .int (nI 0)), (0, .ref (ad 0)), (1, .int c0)]) hx hb dX1_canSew_14 rfl hl (by decide) rfl (fun ls hl => ?_)
    refine lv_iconst (v := nI 1) hx hb dX1_canSew_15 (by decide) ?_
    refine lv_istore_n (lv' := [(3, .int (nI 1)), (2, .int (nI 0)), (0, .ref (ad 0)), (1, .int c0)]) hx hb dX1_canSew_16 rfl hl (by decide) rfl (fun ls hl => ?_)
    have L17 : ∀ (fu : Nat) (cb : Bool) (i9 : Nat) (j9 : Nat) (H : Heap) (locs : List Loc) (ls : Array Slot), 4 - i9 < fu → (i9 = j9 + 1) → (i9 ≤ 4) → (cb = cQ F n np c0 j9) → va_P D vwCl (wM cI ad th n np nq F T) H → va_S (fun _ => False) s.heap H locs → lv_has ls 4 [(0, .ref (ad 0)), (1, .int c0), (2, .int (bI cb)), (3, .int (nI i9))] → W p l e R s m args below meth c H locs 0 0 Q (F0 m 17 ls []) := by
      intro fu
      induction fu with
      | zero => intro _ _ _ _ _ _ h; exact absurd h (Nat.not_lt_zero _)
      | succ fu ih17 =>
        intro cb i9 j9 H locs ls hm17 h0 h1 h2 hP  hS hl
        refine lv_iload_n hx hb dX1_canSew_17 rfl (lv_at hl 3 rfl) ?_
        refine lv_iconst (v := nI 4) hx hb dX1_canSew_18 (by decide) ?_
        refine nv_icmp_ge (tgt := 50) hx hb (by omega) (by omega) dX1_canSew_19 (by decide) (fun c_3 => ?_) (fun c_3 => ?_)
        · refine lv_iload_n hx hb dX1_canSew_50 rfl (lv_at hl 2 rfl) ?_
          rw [← hQ]
          exact W.zret (v := bI cb) hx hb hr (bI_nar _) (fun t ht hW => ⟨⟨bI cb, (), rfl, (by rw [h2, show j9 = 3 by omega, cQ_S hn]), trivial⟩, hS.F ht⟩) hS.2.2 dX1_canSew_51
        · refine lv_iload_n hx hb dX1_canSew_22 rfl (lv_at hl 2 rfl) ?_
          refine lv_aload_n hx hb dX1_canSew_23 rfl (lv_at hl 0 rfl) ?_
          refine lv_iload_n hx hb dX1_canSew_24 rfl (lv_at hl 1 rfl) ?_
          refine lv_iload_n hx hb dX1_canSew_25 rfl (lv_at hl 3 rfl) ?_
          refine va_calli (va_runV (As := [.int c0, .int (nI i9)]) (rest := [.int (bI cb)]) ⟨hx, hb, hml, hown, hts⟩ (c_X1_free l D cI ad th n np nq F T c0 (nI i9) hn hnp hsk) (cwV 2 hts gX1_canSew_X1_free rfl rfl rfl (by decide +kernel) ⟨Nat.le_trans (Nat.le_of_ble_eq_true rfl) hRf, Nat.le_trans (Nat.le_of_ble_eq_true rfl) hRl⟩) (pr_V hP (ci := 1) (q0 := 0) rfl m_at0 rfl hP hK [0] rfl V0_at V0_c) rfl rfl hl.1 rfl (lv_room (Nat.le_of_ble_eq_true rfl)) dX1_canSew_26 ⟨Nat.le_trans (Nat.le_of_ble_eq_true rfl) hRc, Nat.le_trans (Nat.le_of_ble_eq_true rfl) hRs⟩) hS (fun _ _ h => h.elim) (fun _ h => h.elim) (fun r_4 _ t H1 locs ht hvm hw_4 hB hz hk hS => ?_)
          have hP := P_kept hP hk
          obtain rfl := hw_4
          have hb9 := fC_le F np c0 (nI i9)
          have hb8 := kP_le i9
          obtain ⟨tb_NEEDS, hNEEDSZ, hNEEDST⟩ := hV0.2.2
          refine va_gets hx hb hNEEDSZ hS hown (hts (.fieldLink RX1 116 "GloveCuttersModel" "NEEDS" "[I") (by decide +kernel)) (fun _ h9 => h9) dX1_canSew_29 ?_
          refine lv_iload_n hx hb dX1_canSew_32 rfl (lv_at hl 3 rfl) ?_
          refine nv_tab hx hb hNEEDST hS (by omega) dX1_canSew_33 ?_
          refine nv_icmp_lt (tgt := 41) hx hb (by omega) (by omega) dX1_canSew_34 (by decide) (fun c_5 => ?_) (fun c_5 => ?_)
          · refine lv_iconst (v := nI 0) hx hb dX1_canSew_41 (by decide) ?_
            refine lv_iand hx hb dX1_canSew_42 ?_
            rw [and_0]
            refine lv_istore_n (lv' := [(2, .int (bI (cb && false))), (0, .ref (ad 0)), (1, .int c0), (3, .int (nI i9))]) hx hb dX1_canSew_43 rfl hl (by decide) rfl (fun ls hl => ?_)
            refine lv_iinc (k := 3) (v := nI (i9 + 1)) (lv' := [(3, .int (nI (i9 + 1))), (2, .int (bI (cb && false))), (0, .ref (ad 0)), (1, .int c0)]) hx hb dX1_canSew_44 hl rfl (nI_add i9 1) (by decide) rfl (fun ls hl => ?_)
            refine lv_goto (tgt := 17) hx hb dX1_canSew_47 (by decide) ?_
            exact ih17 (cb && false) (i9 + 1) (j9 + 1) _ _ _ (by omega) (by omega) (by omega) (by rw [h2, cQ, ← h0, decide_eq_false (by omega)]) hP hS (lv_sub hl [2, 3, 1, 0] rfl)
          · refine lv_iconst (v := nI 1) hx hb dX1_canSew_37 (by decide) ?_
            refine lv_goto (tgt := 42) hx hb dX1_canSew_38 (by decide) ?_
            refine lv_iand hx hb dX1_canSew_42 ?_
            rw [and_1]
            refine lv_istore_n (lv' := [(2, .int (bI (cb && true))), (0, .ref (ad 0)), (1, .int c0), (3, .int (nI i9))]) hx hb dX1_canSew_43 rfl hl (by decide) rfl (fun ls hl => ?_)
            refine lv_iinc (k := 3) (v := nI (i9 + 1)) (lv' := [(3, .int (nI (i9 + 1))), (2, .int (bI (cb && true))), (0, .ref (ad 0)), (1, .int c0)]) hx hb dX1_canSew_44 hl rfl (nI_add i9 1) (by decide) rfl (fun ls hl => ?_)
            refine lv_goto (tgt := 17) hx hb dX1_canSew_47 (by decide) ?_
            exact ih17 (cb && true) (i9 + 1) (j9 + 1) _ _ _ (by omega) (by omega) (by omega) (by rw [h2, cQ, ← h0, decide_eq_true (by omega)]) hP hS (lv_sub hl [2, 3, 1, 0] rfl)
    exact L17 _ false 1 0 _ _ _ (Nat.lt_succ_self _) rfl (by omega) (by rw [cQ, decide_eq_false (fun q9 => q9 c_2)]) hP hS (lv_sub hl [2, 3, 1, 0] rfl)
  · refine lv_iconst (v := nI 1) hx hb dX1_canSew_9 (by decide) ?_
    refine lv_goto (tgt := 14) hx hb dX1_canSew_10 (by decide) ?_
    refine lv_istore_n (lv' := [(2, .int (nI 1)), (0, .ref (ad 0)), (1, .int c0)]) hx hb dX1_canSew_14 rfl hl (by decide) rfl (fun ls hl => ?_)
    refine lv_iconst (v := nI 1) hx hb dX1_canSew_15 (by decide) ?_
    refine lv_istore_n (lv' := [(3, .int (nI 1)), (2, .int (nI 1)), (0, .ref (ad 0)), (1, .int c0)]) hx hb dX1_canSew_16 rfl hl (by decide) rfl (fun ls hl => ?_)
    have L17 : ∀ (fu : Nat) (cb : Bool) (i9 : Nat) (j9 : Nat) (H : Heap) (locs : List Loc) (ls : Array Slot), 4 - i9 < fu → (i9 = j9 + 1) → (i9 ≤ 4) → (cb = cQ F n np c0 j9) → va_P D vwCl (wM cI ad th n np nq F T) H → va_S (fun _ => False) s.heap H locs → lv_has ls 4 [(0, .ref (ad 0)), (1, .int c0), (2, .int (bI cb)), (3, .int (nI i9))] → W p l e R s m args below meth c H locs 0 0 Q (F0 m 17 ls []) := by
      intro fu
      induction fu with
      | zero => intro _ _ _ _ _ _ h; exact absurd h (Nat.not_lt_zero _)
      | succ fu ih17 =>
        intro cb i9 j9 H locs ls hm17 h0 h1 h2 hP  hS hl
        refine lv_iload_n hx hb dX1_canSew_17 rfl (lv_at hl 3 rfl) ?_
        refine lv_iconst (v := nI 4) hx hb dX1_canSew_18 (by decide) ?_
        refine nv_icmp_ge (tgt := 50) hx hb (by omega) (by omega) dX1_canSew_19 (by decide) (fun c_6 => ?_) (fun c_6 => ?_)
        · refine lv_iload_n hx hb dX1_canSew_50 rfl (lv_at hl 2 rfl) ?_
          rw [← hQ]
          exact W.zret (v := bI cb) hx hb hr (bI_nar _) (fun t ht hW => ⟨⟨bI cb, (), rfl, (by rw [h2, show j9 = 3 by omega, cQ_S hn]), trivial⟩, hS.F ht⟩) hS.2.2 dX1_canSew_51
        · refine lv_iload_n hx hb dX1_canSew_22 rfl (lv_at hl 2 rfl) ?_
          refine lv_aload_n hx hb dX1_canSew_23 rfl (lv_at hl 0 rfl) ?_
          refine lv_iload_n hx hb dX1_canSew_24 rfl (lv_at hl 1 rfl) ?_
          refine lv_iload_n hx hb dX1_canSew_25 rfl (lv_at hl 3 rfl) ?_
          refine va_calli (va_runV (As := [.int c0, .int (nI i9)]) (rest := [.int (bI cb)]) ⟨hx, hb, hml, hown, hts⟩ (c_X1_free l D cI ad th n np nq F T c0 (nI i9) hn hnp hsk) (cwV 2 hts gX1_canSew_X1_free rfl rfl rfl (by decide +kernel) ⟨Nat.le_trans (Nat.le_of_ble_eq_true rfl) hRf, Nat.le_trans (Nat.le_of_ble_eq_true rfl) hRl⟩) (pr_V hP (ci := 1) (q0 := 0) rfl m_at0 rfl hP hK [0] rfl V0_at V0_c) rfl rfl hl.1 rfl (lv_room (Nat.le_of_ble_eq_true rfl)) dX1_canSew_26 ⟨Nat.le_trans (Nat.le_of_ble_eq_true rfl) hRc, Nat.le_trans (Nat.le_of_ble_eq_true rfl) hRs⟩) hS (fun _ _ h => h.elim) (fun _ h => h.elim) (fun r_7 _ t H1 locs ht hvm hw_7 hB hz hk hS => ?_)
          have hP := P_kept hP hk
          obtain rfl := hw_7
          have hb9 := fC_le F np c0 (nI i9)
          have hb8 := kP_le i9
          obtain ⟨tb_NEEDS, hNEEDSZ, hNEEDST⟩ := hV0.2.2
          refine va_gets hx hb hNEEDSZ hS hown (hts (.fieldLink RX1 116 "GloveCuttersModel" "NEEDS" "[I") (by decide +kernel)) (fun _ h9 => h9) dX1_canSew_29 ?_
          refine lv_iload_n hx hb dX1_canSew_32 rfl (lv_at hl 3 rfl) ?_
          refine nv_tab hx hb hNEEDST hS (by omega) dX1_canSew_33 ?_
          refine nv_icmp_lt (tgt := 41) hx hb (by omega) (by omega) dX1_canSew_34 (by decide) (fun c_8 => ?_) (fun c_8 => ?_)
          · refine lv_iconst (v := nI 0) hx hb dX1_canSew_41 (by decide) ?_
            refine lv_iand hx hb dX1_canSew_42 ?_
            rw [and_0]
            refine lv_istore_n (lv' := [(2, .int (bI (cb && false))), (0, .ref (ad 0)), (1, .int c0), (3, .int (nI i9))]) hx hb dX1_canSew_43 rfl hl (by decide) rfl (fun ls hl => ?_)
            refine lv_iinc (k := 3) (v := nI (i9 + 1)) (lv' := [(3, .int (nI (i9 + 1))), (2, .int (bI (cb && false))), (0, .ref (ad 0)), (1, .int c0)]) hx hb dX1_canSew_44 hl rfl (nI_add i9 1) (by decide) rfl (fun ls hl => ?_)
            refine lv_goto (tgt := 17) hx hb dX1_canSew_47 (by decide) ?_
            exact ih17 (cb && false) (i9 + 1) (j9 + 1) _ _ _ (by omega) (by omega) (by omega) (by rw [h2, cQ, ← h0, decide_eq_false (by omega)]) hP hS (lv_sub hl [2, 3, 1, 0] rfl)
          · refine lv_iconst (v := nI 1) hx hb dX1_canSew_37 (by decide) ?_
            refine lv_goto (tgt := 42) hx hb dX1_canSew_38 (by decide) ?_
            refine lv_iand hx hb dX1_canSew_42 ?_
            rw [and_1]
            refine lv_istore_n (lv' := [(2, .int (bI (cb && true))), (0, .ref (ad 0)), (1, .int c0), (3, .int (nI i9))]) hx hb dX1_canSew_43 rfl hl (by decide) rfl (fun ls hl => ?_)
            refine lv_iinc (k := 3) (v := nI (i9 + 1)) (lv' := [(3, .int (nI (i9 + 1))), (2, .int (bI (cb && true))), (0, .ref (ad 0)), (1, .int c0)]) hx hb dX1_canSew_44 hl rfl (nI_add i9 1) (by decide) rfl (fun ls hl => ?_)
            refine lv_goto (tgt := 17) hx hb dX1_canSew_47 (by decide) ?_
            exact ih17 (cb && true) (i9 + 1) (j9 + 1) _ _ _ (by omega) (by omega) (by omega) (by rw [h2, cQ, ← h0, decide_eq_true (by omega)]) hP hS (lv_sub hl [2, 3, 1, 0] rfl)
    exact L17 _ true 1 0 _ _ _ (Nat.lt_succ_self _) rfl (by omega) (by rw [cQ, decide_eq_true c_2]) hP hS (lv_sub hl [2, 3, 1, 0] rfl)
set_option maxHeartbeats 4000000 in
set_option maxRecDepth 100000 in
/-- lay -/
theorem c_X1_lay (l : Launch) (D : va_G) (cI : ClassId) (ad : Nat → Nat) (th : Int32) (n np nq : Nat) (F : Nat → Nat → Int32) (T : Nat → Int32) (c0 : Int32) (hinj : inj ad 8) (hn : n ≤ 10) : Met l yX1_lay wsX1_lay ({ frames := 2, cells := 0, slots := 0, locals := 42 } : Room) (va_Pc [.ref (ad 0), .int c0] (Pr D [(cI, .int)] (wM cI ad th n np nq F T) V0)) (va_Qi (S := Unit) (fun (r : Int32) (_ : Unit) => r = (spLay n c0).2) (fun (_ : Unit) (t : State) => va_P D vwCl (if (spLay n c0).1 = 0 then wM cI ad (nI 0) (n + 1) np nq (layF F n c0) T else wM cI ad (nI (spLay n c0).1) n np nq F T) t.heap) (inA ad 8)) 0 0 (inA ad 8) := by
  refine Met.ofW (cc := cX1_lay) (maxL := 2) (ret := (some .int)) (by decide) rfl ?_
  intro p e s m args below meth c s₁ B hml hv
  obtain ⟨hargs, hP, hK, hV⟩ := hv
  have hx := B.exec
  have hb := B.bytes
  have hr := B.returns
  have hts := atoms_spec (ws := wsX1_lay) B.pre
  have hown : s.vm.findClass RX1 = some m.cls := findClass_of_methodNamed B.named
  have hlocks := B.notSynchronized
  have hS : va_S (fun _ => False) s.heap s.heap [] := va_S.rf
  have hiw : ∀ w ∈ wsX10, w ∈ wsX1_lay := (fun _ h => List.mem_cons_of_mem _ (List.mem_append_right _ h))
  have hRf : 2 ≤ (headSpec wsX1_lay ({ frames := 2, cells := 0, slots := 0, locals := 42 } : Room)).room.frames := Nat.le_refl _
  have hRl : 42 ≤ (headSpec wsX1_lay ({ frames := 2, cells := 0, slots := 0, locals := 42 } : Room)).room.locals := Nat.le_refl _
  have hRc : 0 ≤ (headSpec wsX1_lay ({ frames := 2, cells := 0, slots := 0, locals := 42 } : Room)).room.cells := Nat.le_refl _
  have hRs : 0 ≤ (headSpec wsX1_lay ({ frames := 2, cells := 0, slots := 0, locals := 42 } : Room)).room.slots := Nat.le_refl _
  generalize (headSpec wsX1_lay ({ frames := 2, cells := 0, slots := 0, locals := 42 } : Room)).room = R at hRf hRl hRc hRs ⊢
  have hl := lv_entry [.ref (ad 0), .int c0] (n := 2) (Nat.le_of_ble_eq_true rfl)
  refine W.eq (show entryFrame m args 2 = _ from by rw [hargs, lg_entry_eq]) ?_
  generalize (lg_sl [.ref (ad 0), .int c0] ++ List.replicate (2 - (lg_sl [.ref (ad 0), .int c0]).length) Slot.unset).toArray = ls at hl ⊢
  have hl : lv_has ls 2 [(0, .ref (ad 0)), (1, .int c0)] := hl
  have hD : va_D (inA ad 8) (wM cI ad th n np nq F T) := m_D hinj
  generalize hQ : MQ _ _ _ _ _ _ _ = Q
  refine lv_aload_n hx hb dX1_lay_0 rfl (lv_at hl 0 rfl) ?_
  refine lv_iconst (v := nI 0) hx hb dX1_lay_1 (by decide) ?_
  have hS : va_S (inA ad 8) s.heap _ _ := S_mono hS
  refine va_put (D := D) (ci := 1) (v := .int (nI 0)) (ty := .int) (C := RX1) (T := TX1) (N := 12) hx hb hts hiw tyX1 tyX1_ok nmX1 hown hK hP hD hS 0 m_at0 rfl 0 (by decide) (hts (.fieldLink RX1 34 "GloveCuttersModel" "thrown" "I") (by decide +kernel)) (fun _ h9 => h9) rfl (by decide +kernel) rfl rfl (Nat.le_of_ble_eq_true rfl) dX1_lay_2 (fun H locs hP hD hS => ?_)
  have hP : va_P D vwCl (wM cI ad (nI 0) n np nq F T) H := hP
  have hD : va_D (inA ad 8) (wM cI ad (nI 0) n np nq F T) := hD
  refine lv_iload_n hx hb dX1_lay_5 rfl (lv_at hl 1 rfl) ?_
  refine va_calli (va_runS (As := [.int c0]) (rest := []) ⟨hx, hb, hml, hown, hts⟩ (c_X1_isColour l D c0 ) (va_cwS 1 hts gX1_lay_X1_isColour rfl rfl rfl (by decide +kernel) ⟨Nat.le_trans (Nat.le_of_ble_eq_true rfl) hRf, Nat.le_trans (Nat.le_of_ble_eq_true rfl) hRl⟩) (pr_S (P_nil) hK [] rfl V0_at V0_c) rfl rfl hl.1 rfl (lv_room (Nat.le_of_ble_eq_true rfl)) dX1_lay_6 ⟨Nat.le_trans (Nat.le_of_ble_eq_true rfl) hRc, Nat.le_trans (Nat.le_of_ble_eq_true rfl) hRs⟩) hS (fun _ _ h => h.elim) (fun _ h => h.elim) (fun r_1 _ t H1 locs ht hvm hw_1 hB hz hk hS => ?_)
  have hP := P_kept hP hk
  obtain rfl := hw_1
  refine nb_if_ne (tgt := 18) hx hb dX1_lay_9 (by decide) (fun c_2 => ?_) (fun c_2 => ?_)
  · refine lv_aload_n hx hb dX1_lay_18 rfl (lv_at hl 0 rfl) ?_
    refine va_get (D := D) (ci := 1) (v := .int (nI n)) (C := RX1) (T := TX1) (N := 12) hx hb hts hiw hown hK hP 0 m_at0 rfl 1 (by decide) (hts (.fieldLink RX1 38 "GloveCuttersModel" "skins" "I") (by decide +kernel)) (fun _ h9 => h9) rfl dX1_lay_19 ?_
    refine lv_bipush (v := nI 10) hx hb dX1_lay_22 (by decide) ?_
    refine nv_icmp_ne (tgt := 33) hx hb (by omega) (by omega) dX1_lay_24 (by decide) (fun c_3 => ?_) (fun c_3 => ?_)
    · refine lv_aload_n hx hb dX1_lay_33 rfl (lv_at hl 0 rfl) ?_
      refine va_get (D := D) (ci := 1) (v := .ref (ad 1)) (C := RX1) (T := TX1) (N := 12) hx hb hts hiw hown hK hP 0 m_at0 rfl 2 (by decide) (hts (.fieldLink RX1 9 "GloveCuttersModel" "colour" "[I") (by decide +kernel)) (fun _ h9 => h9) rfl dX1_lay_34 ?_
      refine lv_aload_n hx hb dX1_lay_37 rfl (lv_at hl 0 rfl) ?_
      refine va_get (D := D) (ci := 1) (v := .int (nI n)) (C := RX1) (T := TX1) (N := 12) hx hb hts hiw hown hK hP 0 m_at0 rfl 1 (by decide) (hts (.fieldLink RX1 38 "GloveCuttersModel" "skins" "I") (by decide +kernel)) (fun _ h9 => h9) rfl dX1_lay_38 ?_
      refine lv_iload_n hx hb dX1_lay_41 rfl (lv_at hl 1 rfl) ?_
      refine nv_iast hx hb hK hP hD hS 1 0 m_at1 rfl (by omega) (by omega) dX1_lay_42 (fun H locs hP hD hS => ?_)
      rw [m_set1] at hP hD
      obtain ⟨F_4, eF_4⟩ : ∃ z, z = va_up F 1 (upd (F 1) n c0) := ⟨_, rfl⟩
      rw [← eF_4] at hP hD
      refine lv_aload_n hx hb dX1_lay_43 rfl (lv_at hl 0 rfl) ?_
      refine lv_dup hx hb dX1_lay_44 rfl ?_
      refine va_get (D := D) (ci := 1) (v := .int (nI n)) (C := RX1) (T := TX1) (N := 12) hx hb hts hiw hown hK hP 0 m_at0 rfl 1 (by decide) (hts (.fieldLink RX1 38 "GloveCuttersModel" "skins" "I") (by decide +kernel)) (fun _ h9 => h9) rfl dX1_lay_45 ?_
      refine lv_iconst (v := nI 1) hx hb dX1_lay_48 (by decide) ?_
      refine nv_iadd hx hb dX1_lay_49 ?_
      refine va_put (D := D) (ci := 1) (v := .int (nI (n + 1))) (ty := .int) (C := RX1) (T := TX1) (N := 12) hx hb hts hiw tyX1 tyX1_ok nmX1 hown hK hP hD hS 0 m_at0 rfl 1 (by decide) (hts (.fieldLink RX1 38 "GloveCuttersModel" "skins" "I") (by decide +kernel)) (fun _ h9 => h9) rfl (by decide +kernel) rfl rfl (Nat.le_of_ble_eq_true rfl) dX1_lay_50 (fun H locs hP hD hS => ?_)
      have hP : va_P D vwCl (wM cI ad (nI 0) (n + 1) np nq F_4 T) H := hP
      have hD : va_D (inA ad 8) (wM cI ad (nI 0) (n + 1) np nq F_4 T) := hD
      refine lv_aload_n hx hb dX1_lay_53 rfl (lv_at hl 0 rfl) ?_
      refine va_get (D := D) (ci := 1) (v := .int (nI (n + 1))) (C := RX1) (T := TX1) (N := 12) hx hb hts hiw hown hK hP 0 m_at0 rfl 1 (by decide) (hts (.fieldLink RX1 38 "GloveCuttersModel" "skins" "I") (by decide +kernel)) (fun _ h9 => h9) rfl dX1_lay_54 ?_
      refine lv_iconst (v := nI 1) hx hb dX1_lay_57 (by decide) ?_
      refine nv_isub hx hb (by omega) dX1_lay_58 ?_
      rw [← hQ]
      exact W.iret (v := nI ((n + 1) - 1)) hx hb hr (fun t ht hW => ⟨⟨nI ((n + 1) - 1), (), rfl, (congrArg Prod.snd (show spLay n c0 = (0, nI (n + 1 - 1)) from (by rw [show n + 1 - 1 = n by omega]; unfold spLay; rw [c_2, if_pos rfl, if_pos (by omega)]))).symm, (by show va_P D vwCl (if (spLay n c0).1 = 0 then wM cI ad (nI 0) (n + 1) np nq (layF F n c0) T else wM cI ad (nI (spLay n c0).1) n np nq F T) t.heap; rw [show spLay n c0 = (0, nI (n + 1 - 1)) from (by rw [show n + 1 - 1 = n by omega]; unfold spLay; rw [c_2, if_pos rfl, if_pos (by omega)]), ht]; rw [if_pos rfl]; show va_P D vwCl (wM cI ad (nI 0) (n + 1) np nq (va_up F 1 (upd (F 1) n c0)) T) H; rw [← eF_4]; exact hP)⟩, hS.F ht⟩) hS.2.2 dX1_lay_59
    · refine lv_aload_n hx hb dX1_lay_27 rfl (lv_at hl 0 rfl) ?_
      refine lv_iconst (v := nI 2) hx hb dX1_lay_28 (by decide) ?_
      refine va_calli (va_runV (As := [.int (nI 2)]) (rest := []) ⟨hx, hb, hml, hown, hts⟩ (c_X1_no l D cI ad (nI 0) n np nq F T 2 hinj) (cwV 1 hts gX1_lay_X1_no rfl rfl rfl (by decide +kernel) ⟨Nat.le_trans (Nat.le_of_ble_eq_true rfl) hRf, Nat.le_trans (Nat.le_of_ble_eq_true rfl) hRl⟩) (pr_V hP (ci := 1) (q0 := 0) rfl m_at0 rfl hP hK [0] rfl V0_at V0_c) rfl rfl hl.1 rfl (lv_room (Nat.le_of_ble_eq_true rfl)) dX1_lay_29 ⟨Nat.le_trans (Nat.le_of_ble_eq_true rfl) hRc, Nat.le_trans (Nat.le_of_ble_eq_true rfl) hRs⟩) hS (fun _ _ h => h) (fun _ h => h) (fun r_5 _ t H1 locs ht hvm hw_5 hB hz hk hS => ?_)
      rw [ht] at hB
      have hP := hB
      have hP : va_P D vwCl (wM cI ad (nI 2) n np nq F T) H1 := hP
      have hD : va_D (inA ad 8) (wM cI ad (nI 2) n np nq F T) := m_D hinj
      obtain rfl := hw_5
      rw [← hQ]
      exact W.iret (v := nI 0) hx hb hr (fun t ht hW => ⟨⟨nI 0, (), rfl, (congrArg Prod.snd (show spLay n c0 = (2, 0) from (by unfold spLay; rw [c_2, if_pos rfl, if_neg (by omega)]))).symm, (by show va_P D vwCl (if (spLay n c0).1 = 0 then wM cI ad (nI 0) (n + 1) np nq (layF F n c0) T else wM cI ad (nI (spLay n c0).1) n np nq F T) t.heap; rw [show spLay n c0 = (2, 0) from (by unfold spLay; rw [c_2, if_pos rfl, if_neg (by omega)]), ht]; rw [if_neg (by decide)]; exact hP)⟩, hS.F ht⟩) hS.2.2 dX1_lay_32
  · refine lv_aload_n hx hb dX1_lay_12 rfl (lv_at hl 0 rfl) ?_
    refine lv_iconst (v := nI 1) hx hb dX1_lay_13 (by decide) ?_
    refine va_calli (va_runV (As := [.int (nI 1)]) (rest := []) ⟨hx, hb, hml, hown, hts⟩ (c_X1_no l D cI ad (nI 0) n np nq F T 1 hinj) (cwV 1 hts gX1_lay_X1_no rfl rfl rfl (by decide +kernel) ⟨Nat.le_trans (Nat.le_of_ble_eq_true rfl) hRf, Nat.le_trans (Nat.le_of_ble_eq_true rfl) hRl⟩) (pr_V hP (ci := 1) (q0 := 0) rfl m_at0 rfl hP hK [0] rfl V0_at V0_c) rfl rfl hl.1 rfl (lv_room (Nat.le_of_ble_eq_true rfl)) dX1_lay_14 ⟨Nat.le_trans (Nat.le_of_ble_eq_true rfl) hRc, Nat.le_trans (Nat.le_of_ble_eq_true rfl) hRs⟩) hS (fun _ _ h => h) (fun _ h => h) (fun r_6 _ t H1 locs ht hvm hw_6 hB hz hk hS => ?_)
    rw [ht] at hB
    have hP := hB
    have hP : va_P D vwCl (wM cI ad (nI 1) n np nq F T) H1 := hP
    have hD : va_D (inA ad 8) (wM cI ad (nI 1) n np nq F T) := m_D hinj
    obtain rfl := hw_6
    rw [← hQ]
    exact W.iret (v := nI 0) hx hb hr (fun t ht hW => ⟨⟨nI 0, (), rfl, (congrArg Prod.snd (show spLay n c0 = (1, 0) from (by unfold spLay; rw [c_2]; rfl))).symm, (by show va_P D vwCl (if (spLay n c0).1 = 0 then wM cI ad (nI 0) (n + 1) np nq (layF F n c0) T else wM cI ad (nI (spLay n c0).1) n np nq F T) t.heap; rw [show spLay n c0 = (1, 0) from (by unfold spLay; rw [c_2]; rfl), ht]; rw [if_neg (by decide)]; exact hP)⟩, hS.F ht⟩) hS.2.2 dX1_lay_17
set_option maxHeartbeats 4000000 in
set_option maxRecDepth 100000 in
/-- cell -/
theorem c_X1_cell (l : Launch) (D : va_G) (cI : ClassId) (ad : Nat → Nat) (th : Int32) (n np nq : Nat) (F : Nat → Nat → Int32) (T : Nat → Int32) (s0 x0 y0 : Int32) (hinj : inj ad 8) (hn : n ≤ 10) : Met l yX1_cell wsX1_cell ({ frames := 3, cells := 0, slots := 0, locals := 66 } : Room) (va_Pc [.ref (ad 0), .int s0, .int x0, .int y0] (Pr D [(cI, .int)] (wM cI ad th n np nq F T) V0)) (va_Qi (S := Unit) (fun (r : Int32) (_ : Unit) => r = (spCell n F s0 x0 y0).2) (fun (_ : Unit) (t : State) => va_P D vwCl (wM cI ad (nI (spCell n F s0 x0 y0).1) n np nq F T) t.heap) (inA ad 8)) 0 0 (inA ad 8) := by
  refine Met.ofW (cc := cX1_cell) (maxL := 4) (ret := (some .int)) (by decide) rfl ?_
  intro p e s m args below meth c s₁ B hml hv
  obtain ⟨hargs, hP, hK, hV⟩ := hv
  have hx := B.exec
  have hb := B.bytes
  have hr := B.returns
  have hts := atoms_spec (ws := wsX1_cell) B.pre
  have hown : s.vm.findClass RX1 = some m.cls := findClass_of_methodNamed B.named
  have hlocks := B.notSynchronized
  have hS : va_S (fun _ => False) s.heap s.heap [] := va_S.rf
  have hiw : ∀ w ∈ wsX10, w ∈ wsX1_cell := (fun _ h => List.mem_cons_of_mem _ (List.mem_append_right _ h))
  have hRf : 3 ≤ (headSpec wsX1_cell ({ frames := 3, cells := 0, slots := 0, locals := 66 } : Room)).room.frames := Nat.le_refl _
  have hRl : 66 ≤ (headSpec wsX1_cell ({ frames := 3, cells := 0, slots := 0, locals := 66 } : Room)).room.locals := Nat.le_refl _
  have hRc : 0 ≤ (headSpec wsX1_cell ({ frames := 3, cells := 0, slots := 0, locals := 66 } : Room)).room.cells := Nat.le_refl _
  have hRs : 0 ≤ (headSpec wsX1_cell ({ frames := 3, cells := 0, slots := 0, locals := 66 } : Room)).room.slots := Nat.le_refl _
  generalize (headSpec wsX1_cell ({ frames := 3, cells := 0, slots := 0, locals := 66 } : Room)).room = R at hRf hRl hRc hRs ⊢
  have hl := lv_entry [.ref (ad 0), .int s0, .int x0, .int y0] (n := 4) (Nat.le_of_ble_eq_true rfl)
  refine W.eq (show entryFrame m args 4 = _ from by rw [hargs, lg_entry_eq]) ?_
  generalize (lg_sl [.ref (ad 0), .int s0, .int x0, .int y0] ++ List.replicate (4 - (lg_sl [.ref (ad 0), .int s0, .int x0, .int y0]).length) Slot.unset).toArray = ls at hl ⊢
  have hl : lv_has ls 4 [(0, .ref (ad 0)), (1, .int s0), (2, .int x0), (3, .int y0)] := hl
  have hD : va_D (inA ad 8) (wM cI ad th n np nq F T) := m_D hinj
  generalize hQ : MQ _ _ _ _ _ _ _ = Q
  refine lv_aload_n hx hb dX1_cell_0 rfl (lv_at hl 0 rfl) ?_
  refine lv_iconst (v := nI 0) hx hb dX1_cell_1 (by decide) ?_
  have hS : va_S (inA ad 8) s.heap _ _ := S_mono hS
  refine va_put (D := D) (ci := 1) (v := .int (nI 0)) (ty := .int) (C := RX1) (T := TX1) (N := 12) hx hb hts hiw tyX1 tyX1_ok nmX1 hown hK hP hD hS 0 m_at0 rfl 0 (by decide) (hts (.fieldLink RX1 34 "GloveCuttersModel" "thrown" "I") (by decide +kernel)) (fun _ h9 => h9) rfl (by decide +kernel) rfl rfl (Nat.le_of_ble_eq_true rfl) dX1_cell_2 (fun H locs hP hD hS => ?_)
  have hP : va_P D vwCl (wM cI ad (nI 0) n np nq F T) H := hP
  have hD : va_D (inA ad 8) (wM cI ad (nI 0) n np nq F T) := hD
  refine lv_aload_n hx hb dX1_cell_5 rfl (lv_at hl 0 rfl) ?_
  refine lv_iload_n hx hb dX1_cell_6 rfl (lv_at hl 1 rfl) ?_
  refine lv_iload_n hx hb dX1_cell_7 rfl (lv_at hl 2 rfl) ?_
  refine lv_iload_n hx hb dX1_cell_8 rfl (lv_at hl 3 rfl) ?_
  refine va_calli (va_runV (As := [.int s0, .int x0, .int y0]) (rest := []) ⟨hx, hb, hml, hown, hts⟩ (c_X1_isCell l D cI ad (nI 0) n np nq F T s0 x0 y0 hn) (cwV 3 hts gX1_cell_X1_isCell rfl rfl rfl (by decide +kernel) ⟨Nat.le_trans (Nat.le_of_ble_eq_true rfl) hRf, Nat.le_trans (Nat.le_of_ble_eq_true rfl) hRl⟩) (pr_V hP (ci := 1) (q0 := 0) rfl m_at0 rfl hP hK [0] rfl V0_at V0_c) rfl rfl hl.1 rfl (lv_room (Nat.le_of_ble_eq_true rfl)) dX1_cell_9 ⟨Nat.le_trans (Nat.le_of_ble_eq_true rfl) hRc, Nat.le_trans (Nat.le_of_ble_eq_true rfl) hRs⟩) hS (fun _ _ h => h.elim) (fun _ h => h.elim) (fun r_1 _ t H1 locs ht hvm hw_1 hB hz hk hS => ?_)
  have hP := P_kept hP hk
  obtain rfl := hw_1
  refine nb_if_eq (tgt := 34) hx hb dX1_cell_12 (by decide) (fun c_2 => ?_) (fun c_2 => ?_)
  · refine lv_aload_n hx hb dX1_cell_34 rfl (lv_at hl 0 rfl) ?_
    refine lv_iconst (v := nI 1) hx hb dX1_cell_35 (by decide) ?_
    refine va_calli (va_runV (As := [.int (nI 1)]) (rest := []) ⟨hx, hb, hml, hown, hts⟩ (c_X1_no l D cI ad (nI 0) n np nq F T 1 hinj) (cwV 1 hts gX1_cell_X1_no rfl rfl rfl (by decide +kernel) ⟨Nat.le_trans (Nat.le_of_ble_eq_true rfl) hRf, Nat.le_trans (Nat.le_of_ble_eq_true rfl) hRl⟩) (pr_V hP (ci := 1) (q0 := 0) rfl m_at0 rfl hP hK [0] rfl V0_at V0_c) rfl rfl hl.1 rfl (lv_room (Nat.le_of_ble_eq_true rfl)) dX1_cell_36 ⟨Nat.le_trans (Nat.le_of_ble_eq_true rfl) hRc, Nat.le_trans (Nat.le_of_ble_eq_true rfl) hRs⟩) hS (fun _ _ h => h) (fun _ h => h) (fun r_3 _ t H1 locs ht hvm hw_3 hB hz hk hS => ?_)
    rw [ht] at hB
    have hP := hB
    have hP : va_P D vwCl (wM cI ad (nI 1) n np nq F T) H1 := hP
    have hD : va_D (inA ad 8) (wM cI ad (nI 1) n np nq F T) := m_D hinj
    obtain rfl := hw_3
    rw [← hQ]
    exact W.iret (v := nI 0) hx hb hr (fun t ht hW => ⟨⟨nI 0, (), rfl, (congrArg Prod.snd (show spCell n F s0 x0 y0 = (1, 0) from (by unfold spCell; rw [c_2]; rfl))).symm, (by show va_P D vwCl (wM cI ad (nI (spCell n F s0 x0 y0).1) n np nq F T) t.heap; rw [show spCell n F s0 x0 y0 = (1, 0) from (by unfold spCell; rw [c_2]; rfl), ht]; exact hP)⟩, hS.F ht⟩) hS.2.2 dX1_cell_39
  · have c_2b := c_2
    simp only [Bool.and_eq_true] at c_2b
    obtain ⟨hs1, hx1, hy1⟩ := c_2b
    obtain ⟨j, hj, rfl⟩ := inR_t (by omega) hs1
    obtain ⟨x9, hx9, rfl⟩ := inR_t (by omega) hx1
    obtain ⟨y9, hy9, rfl⟩ := inR_t (by omega) hy1
    refine lv_aload_n hx hb dX1_cell_15 rfl (lv_at hl 0 rfl) ?_
    refine va_get (D := D) (ci := 1) (v := .ref (ad 2)) (C := RX1) (T := TX1) (N := 12) hx hb hts hiw hown hK hP 0 m_at0 rfl 3 (by decide) (hts (.fieldLink RX1 13 "GloveCuttersModel" "cells" "[I") (by decide +kernel)) (fun _ h9 => h9) rfl dX1_cell_16 ?_
    refine lv_bipush (v := nI 96) hx hb dX1_cell_19 (by decide) ?_
    refine lv_iload_n hx hb dX1_cell_21 rfl (lv_at hl 1 rfl) ?_
    refine nv_imul hx hb dX1_cell_22 ?_
    refine lv_bipush (v := nI 12) hx hb dX1_cell_23 (by decide) ?_
    refine lv_iload_n hx hb dX1_cell_25 rfl (lv_at hl 3 rfl) ?_
    refine nv_imul hx hb dX1_cell_26 ?_
    refine nv_iadd hx hb dX1_cell_27 ?_
    refine lv_iload_n hx hb dX1_cell_28 rfl (lv_at hl 2 rfl) ?_
    refine nv_iadd hx hb dX1_cell_29 ?_
    refine nv_iald hx hb hK hP 2 0 m_at2 rfl (by omega) (by omega) dX1_cell_30 ?_
    rw [show mCells F (96 * j + 12 * y9 + x9) = F (14 + j) (12 * y9 + x9) from by rw [Nat.add_assoc]; exact mCells_r (by omega)]
    refine lv_goto (tgt := 39) hx hb dX1_cell_31 (by decide) ?_
    rw [← hQ]
    exact W.iret (v := F (14 + j) (12 * y9 + x9)) hx hb hr (fun t ht hW => ⟨⟨F (14 + j) (12 * y9 + x9), (), rfl, (congrArg Prod.snd (show spCell n F (nI j) (nI x9) (nI y9) = (0, F (14 + j) (12 * y9 + x9)) from (spCell_y hn hj hx9 hy9))).symm, (by show va_P D vwCl (wM cI ad (nI (spCell n F (nI j) (nI x9) (nI y9)).1) n np nq F T) t.heap; rw [show spCell n F (nI j) (nI x9) (nI y9) = (0, F (14 + j) (12 * y9 + x9)) from (spCell_y hn hj hx9 hy9), ht]; exact hP)⟩, hS.F ht⟩) hS.2.2 dX1_cell_39
set_option maxHeartbeats 4000000 in
set_option maxRecDepth 100000 in
/-- skin -/
theorem c_X1_skin (l : Launch) (D : va_G) (cI : ClassId) (ad : Nat → Nat) (th : Int32) (n np nq : Nat) (F : Nat → Nat → Int32) (T : Nat → Int32) (s0 w0 : Int32) (hinj : inj ad 8) (hn : n ≤ 10) (hnp : np ≤ 150) (hpc : ∀ s, s < 10 → F 2 s = nI (cn (fun p => F 4 p == nI s) np)) : Met l yX1_skin wsX1_skin ({ frames := 2, cells := 0, slots := 0, locals := 48 } : Room) (va_Pc [.ref (ad 0), .int s0, .int w0] (Pr D [(cI, .int)] (wM cI ad th n np nq F T) V0)) (va_Qi (S := Unit) (fun (r : Int32) (_ : Unit) => r = (spSkin n F s0 w0).2) (fun (_ : Unit) (t : State) => va_P D vwCl (wM cI ad (nI (spSkin n F s0 w0).1) n np nq F T) t.heap) (inA ad 8)) 0 0 (inA ad 8) := by
  refine Met.ofW (cc := cX1_skin) (maxL := 3) (ret := (some .int)) (by decide) rfl ?_
  intro p e s m args below meth c s₁ B hml hv
  obtain ⟨hargs, hP, hK, hV⟩ := hv
  have hx := B.exec
  have hb := B.bytes
  have hr := B.returns
  have hts := atoms_spec (ws := wsX1_skin) B.pre
  have hown : s.vm.findClass RX1 = some m.cls := findClass_of_methodNamed B.named
  have hlocks := B.notSynchronized
  have hS : va_S (fun _ => False) s.heap s.heap [] := va_S.rf
  have hiw : ∀ w ∈ wsX10, w ∈ wsX1_skin := (fun _ h => List.mem_cons_of_mem _ (List.mem_append_right _ h))
  have hRf : 2 ≤ (headSpec wsX1_skin ({ frames := 2, cells := 0, slots := 0, locals := 48 } : Room)).room.frames := Nat.le_refl _
  have hRl : 48 ≤ (headSpec wsX1_skin ({ frames := 2, cells := 0, slots := 0, locals := 48 } : Room)).room.locals := Nat.le_refl _
  have hRc : 0 ≤ (headSpec wsX1_skin ({ frames := 2, cells := 0, slots := 0, locals := 48 } : Room)).room.cells := Nat.le_refl _
  have hRs : 0 ≤ (headSpec wsX1_skin ({ frames := 2, cells := 0, slots := 0, locals := 48 } : Room)).room.slots := Nat.le_refl _
  generalize (headSpec wsX1_skin ({ frames := 2, cells := 0, slots := 0, locals := 48 } : Room)).room = R at hRf hRl hRc hRs ⊢
  have hl := lv_entry [.ref (ad 0), .int s0, .int w0] (n := 3) (Nat.le_of_ble_eq_true rfl)
  refine W.eq (show entryFrame m args 3 = _ from by rw [hargs, lg_entry_eq]) ?_
  generalize (lg_sl [.ref (ad 0), .int s0, .int w0] ++ List.replicate (3 - (lg_sl [.ref (ad 0), .int s0, .int w0]).length) Slot.unset).toArray = ls at hl ⊢
  have hl : lv_has ls 3 [(0, .ref (ad 0)), (1, .int s0), (2, .int w0)] := hl
  have hD : va_D (inA ad 8) (wM cI ad th n np nq F T) := m_D hinj
  generalize hQ : MQ _ _ _ _ _ _ _ = Q
  refine lv_aload_n hx hb dX1_skin_0 rfl (lv_at hl 0 rfl) ?_
  refine lv_iconst (v := nI 0) hx hb dX1_skin_1 (by decide) ?_
  have hS : va_S (inA ad 8) s.heap _ _ := S_mono hS
  refine va_put (D := D) (ci := 1) (v := .int (nI 0)) (ty := .int) (C := RX1) (T := TX1) (N := 12) hx hb hts hiw tyX1 tyX1_ok nmX1 hown hK hP hD hS 0 m_at0 rfl 0 (by decide) (hts (.fieldLink RX1 34 "GloveCuttersModel" "thrown" "I") (by decide +kernel)) (fun _ h9 => h9) rfl (by decide +kernel) rfl rfl (Nat.le_of_ble_eq_true rfl) dX1_skin_2 (fun H locs hP hD hS => ?_)
  have hP : va_P D vwCl (wM cI ad (nI 0) n np nq F T) H := hP
  have hD : va_D (inA ad 8) (wM cI ad (nI 0) n np nq F T) := hD
  refine lv_aload_n hx hb dX1_skin_5 rfl (lv_at hl 0 rfl) ?_
  refine lv_iload_n hx hb dX1_skin_6 rfl (lv_at hl 1 rfl) ?_
  refine va_calli (va_runV (As := [.int s0]) (rest := []) ⟨hx, hb, hml, hown, hts⟩ (c_X1_isSkin l D cI ad (nI 0) n np nq F T s0 hn) (cwV 1 hts gX1_skin_X1_isSkin rfl rfl rfl (by decide +kernel) ⟨Nat.le_trans (Nat.le_of_ble_eq_true rfl) hRf, Nat.le_trans (Nat.le_of_ble_eq_true rfl) hRl⟩) (pr_V hP (ci := 1) (q0 := 0) rfl m_at0 rfl hP hK [0] rfl V0_at V0_c) rfl rfl hl.1 rfl (lv_room (Nat.le_of_ble_eq_true rfl)) dX1_skin_7 ⟨Nat.le_trans (Nat.le_of_ble_eq_true rfl) hRc, Nat.le_trans (Nat.le_of_ble_eq_true rfl) hRs⟩) hS (fun _ _ h => h.elim) (fun _ h => h.elim) (fun r_1 _ t H1 locs ht hvm hw_1 hB hz hk hS => ?_)
  have hP := P_kept hP hk
  obtain rfl := hw_1
  refine nb_if_eq (tgt := 31) hx hb dX1_skin_10 (by decide) (fun c_2 => ?_) (fun c_2 => ?_)
  · refine lv_aload_n hx hb dX1_skin_31 rfl (lv_at hl 0 rfl) ?_
    refine lv_iconst (v := nI 1) hx hb dX1_skin_32 (by decide) ?_
    refine va_calli (va_runV (As := [.int (nI 1)]) (rest := []) ⟨hx, hb, hml, hown, hts⟩ (c_X1_no l D cI ad (nI 0) n np nq F T 1 hinj) (cwV 1 hts gX1_skin_X1_no rfl rfl rfl (by decide +kernel) ⟨Nat.le_trans (Nat.le_of_ble_eq_true rfl) hRf, Nat.le_trans (Nat.le_of_ble_eq_true rfl) hRl⟩) (pr_V hP (ci := 1) (q0 := 0) rfl m_at0 rfl hP hK [0] rfl V0_at V0_c) rfl rfl hl.1 rfl (lv_room (Nat.le_of_ble_eq_true rfl)) dX1_skin_33 ⟨Nat.le_trans (Nat.le_of_ble_eq_true rfl) hRc, Nat.le_trans (Nat.le_of_ble_eq_true rfl) hRs⟩) hS (fun _ _ h => h) (fun _ h => h) (fun r_3 _ t H1 locs ht hvm hw_3 hB hz hk hS => ?_)
    rw [ht] at hB
    have hP := hB
    have hP : va_P D vwCl (wM cI ad (nI 1) n np nq F T) H1 := hP
    have hD : va_D (inA ad 8) (wM cI ad (nI 1) n np nq F T) := m_D hinj
    obtain rfl := hw_3
    rw [← hQ]
    exact W.iret (v := nI 0) hx hb hr (fun t ht hW => ⟨⟨nI 0, (), rfl, (congrArg Prod.snd (show spSkin n F s0 w0 = (1, 0) from (by unfold spSkin; rw [c_2]; rfl))).symm, (by show va_P D vwCl (wM cI ad (nI (spSkin n F s0 w0).1) n np nq F T) t.heap; rw [show spSkin n F s0 w0 = (1, 0) from (by unfold spSkin; rw [c_2]; rfl), ht]; exact hP)⟩, hS.F ht⟩) hS.2.2 dX1_skin_36
  · obtain ⟨j, hj, rfl⟩ := inR_t (by omega) c_2
    refine lv_iload_n hx hb dX1_skin_13 rfl (lv_at hl 2 rfl) ?_
    refine lv_iconst (v := nI 0) hx hb dX1_skin_14 (by decide) ?_
    refine lv_iconst (v := nI 5) hx hb dX1_skin_15 (by decide) ?_
    refine va_calli (va_runS (As := [.int w0, .int (nI 0), .int (nI 5)]) (rest := []) ⟨hx, hb, hml, hown, hts⟩ (c_X1_isIn l D w0 (nI 0) (nI 5) ) (va_cwS 3 hts gX1_skin_X1_isIn rfl rfl rfl (by decide +kernel) ⟨Nat.le_trans (Nat.le_of_ble_eq_true rfl) hRf, Nat.le_trans (Nat.le_of_ble_eq_true rfl) hRl⟩) (pr_S (P_nil) hK [] rfl V0_at V0_c) rfl rfl hl.1 rfl (lv_room (Nat.le_of_ble_eq_true rfl)) dX1_skin_16 ⟨Nat.le_trans (Nat.le_of_ble_eq_true rfl) hRc, Nat.le_trans (Nat.le_of_ble_eq_true rfl) hRs⟩) hS (fun _ _ h => h.elim) (fun _ h => h.elim) (fun r_4 _ t H1 locs ht hvm hw_4 hB hz hk hS => ?_)
    have hP := P_kept hP hk
    obtain rfl := hw_4
    refine nb_if_eq (tgt := 31) hx hb dX1_skin_19 (by decide) (fun c_5 => ?_) (fun c_5 => ?_)
    · refine lv_aload_n hx hb dX1_skin_31 rfl (lv_at hl 0 rfl) ?_
      refine lv_iconst (v := nI 1) hx hb dX1_skin_32 (by decide) ?_
      refine va_calli (va_runV (As := [.int (nI 1)]) (rest := []) ⟨hx, hb, hml, hown, hts⟩ (c_X1_no l D cI ad (nI 0) n np nq F T 1 hinj) (cwV 1 hts gX1_skin_X1_no rfl rfl rfl (by decide +kernel) ⟨Nat.le_trans (Nat.le_of_ble_eq_true rfl) hRf, Nat.le_trans (Nat.le_of_ble_eq_true rfl) hRl⟩) (pr_V hP (ci := 1) (q0 := 0) rfl m_at0 rfl hP hK [0] rfl V0_at V0_c) rfl rfl hl.1 rfl (lv_room (Nat.le_of_ble_eq_true rfl)) dX1_skin_33 ⟨Nat.le_trans (Nat.le_of_ble_eq_true rfl) hRc, Nat.le_trans (Nat.le_of_ble_eq_true rfl) hRs⟩) hS (fun _ _ h => h) (fun _ h => h) (fun r_6 _ t H1 locs ht hvm hw_6 hB hz hk hS => ?_)
      rw [ht] at hB
      have hP := hB
      have hP : va_P D vwCl (wM cI ad (nI 1) n np nq F T) H1 := hP
      have hD : va_D (inA ad 8) (wM cI ad (nI 1) n np nq F T) := m_D hinj
      obtain rfl := hw_6
      rw [← hQ]
      exact W.iret (v := nI 0) hx hb hr (fun t ht hW => ⟨⟨nI 0, (), rfl, (congrArg Prod.snd (show spSkin n F (nI j) w0 = (1, 0) from (by unfold spSkin; rw [inR_in hj (by omega), ← isI_k (x := w0) (k := 5) (by decide), c_5]; rfl))).symm, (by show va_P D vwCl (wM cI ad (nI (spSkin n F (nI j) w0).1) n np nq F T) t.heap; rw [show spSkin n F (nI j) w0 = (1, 0) from (by unfold spSkin; rw [inR_in hj (by omega), ← isI_k (x := w0) (k := 5) (by decide), c_5]; rfl), ht]; exact hP)⟩, hS.F ht⟩) hS.2.2 dX1_skin_36
    · obtain ⟨w9, hw9, rfl⟩ := inR_t (by decide) (show inR w0 6 = true from by rw [← isI_k (k := 5) (by decide)]; exact c_5)
      refine lv_aload_n hx hb dX1_skin_22 rfl (lv_at hl 0 rfl) ?_
      refine lv_iload_n hx hb dX1_skin_23 rfl (lv_at hl 1 rfl) ?_
      refine lv_iload_n hx hb dX1_skin_24 rfl (lv_at hl 2 rfl) ?_
      refine va_calli (va_runV (As := [.int (nI j), .int (nI w9)]) (rest := []) ⟨hx, hb, hml, hown, hts⟩ (c_X1_skinTold l D cI ad (nI 0) n np nq F T j w9 hnp hpc (by omega) (by omega)) (cwV 2 hts gX1_skin_X1_skinTold rfl rfl rfl (by decide +kernel) ⟨Nat.le_trans (Nat.le_of_ble_eq_true rfl) hRf, Nat.le_trans (Nat.le_of_ble_eq_true rfl) hRl⟩) (pr_V hP (ci := 1) (q0 := 0) rfl m_at0 rfl hP hK [0] rfl V0_at V0_c) rfl rfl hl.1 rfl (lv_room (Nat.le_of_ble_eq_true rfl)) dX1_skin_25 ⟨Nat.le_trans (Nat.le_of_ble_eq_true rfl) hRc, Nat.le_trans (Nat.le_of_ble_eq_true rfl) hRs⟩) hS (fun _ _ h => h.elim) (fun _ h => h.elim) (fun r_7 _ t H1 locs ht hvm hw_7 hB hz hk hS => ?_)
      have hP := P_kept hP hk
      obtain rfl := hw_7
      refine lv_goto (tgt := 36) hx hb dX1_skin_28 (by decide) ?_
      rw [← hQ]
      exact W.iret (v := skT F j w9) hx hb hr (fun t ht hW => ⟨⟨skT F j w9, (), rfl, (congrArg Prod.snd (show spSkin n F (nI j) (nI w9) = (0, skT F j w9) from (spSkin_y hn hj hw9))).symm, (by show va_P D vwCl (wM cI ad (nI (spSkin n F (nI j) (nI w9)).1) n np nq F T) t.heap; rw [show spSkin n F (nI j) (nI w9) = (0, skT F j w9) from (spSkin_y hn hj hw9), ht]; exact hP)⟩, hS.F ht⟩) hS.2.2 dX1_skin_36
set_option maxHeartbeats 4000000 in
set_option maxRecDepth 100000 in
/-- place -/
theorem c_X1_place (l : Launch) (D : va_G) (cI : ClassId) (ad : Nat → Nat) (th : Int32) (n np nq : Nat) (F : Nat → Nat → Int32) (T : Nat → Int32) (s0 k0 : Int32) (tb : Bool) (hinj : inj ad 8) (hn : n ≤ 10) (hsc : ∀ s, s < 10 → small (F (14 + s)) 96) : Met l yX1_place wsX1_place ({ frames := 3, cells := 0, slots := 0, locals := 78 } : Room) (va_Pc [.ref (ad 0), .int s0, .int k0, .int (bI tb)] (Pr D [(cI, .int)] (wM cI ad th n np nq F T) (EnvM (inA ad 8)))) (va_Qi (S := Unit) (fun (r : Int32) (_ : Unit) => r = (spPlace n F s0 k0 tb).2) (fun (_ : Unit) (t : State) => va_P D vwCl (wM cI ad (nI (spPlace n F s0 k0 tb).1) n np nq F T) t.heap) (inA ad 8)) 0 0 (inA ad 8) := by
  refine Met.ofW (cc := cX1_place) (maxL := 4) (ret := (some .int)) (by decide) rfl ?_
  intro p e s m args below meth c s₁ B hml hv
  obtain ⟨hargs, hP, hK, hV⟩ := hv
  have hx := B.exec
  have hb := B.bytes
  have hr := B.returns
  have hts := atoms_spec (ws := wsX1_place) B.pre
  have hown : s.vm.findClass RX1 = some m.cls := findClass_of_methodNamed B.named
  have hlocks := B.notSynchronized
  have hS : va_S (fun _ => False) s.heap s.heap [] := va_S.rf
  have hV0 : EnvM (fun _ => False) s := EnvM.nar hV sub_no
  have hiw : ∀ w ∈ wsX10, w ∈ wsX1_place := (fun _ h => List.mem_cons_of_mem _ (List.mem_append_right _ h))
  have hRf : 3 ≤ (headSpec wsX1_place ({ frames := 3, cells := 0, slots := 0, locals := 78 } : Room)).room.frames := Nat.le_refl _
  have hRl : 78 ≤ (headSpec wsX1_place ({ frames := 3, cells := 0, slots := 0, locals := 78 } : Room)).room.locals := Nat.le_refl _
  have hRc : 0 ≤ (headSpec wsX1_place ({ frames := 3, cells := 0, slots := 0, locals := 78 } : Room)).room.cells := Nat.le_refl _
  have hRs : 0 ≤ (headSpec wsX1_place ({ frames := 3, cells := 0, slots := 0, locals := 78 } : Room)).room.slots := Nat.le_refl _
  generalize (headSpec wsX1_place ({ frames := 3, cells := 0, slots := 0, locals := 78 } : Room)).room = R at hRf hRl hRc hRs ⊢
  have hl := lv_entry [.ref (ad 0), .int s0, .int k0, .int (bI tb)] (n := 4) (Nat.le_of_ble_eq_true rfl)
  refine W.eq (show entryFrame m args 4 = _ from by rw [hargs, lg_entry_eq]) ?_
  generalize (lg_sl [.ref (ad 0), .int s0, .int k0, .int (bI tb)] ++ List.replicate (4 - (lg_sl [.ref (ad 0), .int s0, .int k0, .int (bI tb)]).length) Slot.unset).toArray = ls at hl ⊢
  have hl : lv_has ls 4 [(0, .ref (ad 0)), (1, .int s0), (2, .int k0), (3, .int (bI tb))] := hl
  have hD : va_D (inA ad 8) (wM cI ad th n np nq F T) := m_D hinj
  generalize hQ : MQ _ _ _ _ _ _ _ = Q
  refine lv_aload_n hx hb dX1_place_0 rfl (lv_at hl 0 rfl) ?_
  refine lv_iconst (v := nI 0) hx hb dX1_place_1 (by decide) ?_
  have hS : va_S (inA ad 8) s.heap _ _ := S_mono hS
  refine va_put (D := D) (ci := 1) (v := .int (nI 0)) (ty := .int) (C := RX1) (T := TX1) (N := 12) hx hb hts hiw tyX1 tyX1_ok nmX1 hown hK hP hD hS 0 m_at0 rfl 0 (by decide) (hts (.fieldLink RX1 34 "GloveCuttersModel" "thrown" "I") (by decide +kernel)) (fun _ h9 => h9) rfl (by decide +kernel) rfl rfl (Nat.le_of_ble_eq_true rfl) dX1_place_2 (fun H locs hP hD hS => ?_)
  have hP : va_P D vwCl (wM cI ad (nI 0) n np nq F T) H := hP
  have hD : va_D (inA ad 8) (wM cI ad (nI 0) n np nq F T) := hD
  refine lv_aload_n hx hb dX1_place_5 rfl (lv_at hl 0 rfl) ?_
  refine lv_iload_n hx hb dX1_place_6 rfl (lv_at hl 1 rfl) ?_
  refine va_calli (va_runV (As := [.int s0]) (rest := []) ⟨hx, hb, hml, hown, hts⟩ (c_X1_isSkin l D cI ad (nI 0) n np nq F T s0 hn) (cwV 1 hts gX1_place_X1_isSkin rfl rfl rfl (by decide +kernel) ⟨Nat.le_trans (Nat.le_of_ble_eq_true rfl) hRf, Nat.le_trans (Nat.le_of_ble_eq_true rfl) hRl⟩) (pr_V hP (ci := 1) (q0 := 0) rfl m_at0 rfl hP hK [0] rfl V0_at V0_c) rfl rfl hl.1 rfl (lv_room (Nat.le_of_ble_eq_true rfl)) dX1_place_7 ⟨Nat.le_trans (Nat.le_of_ble_eq_true rfl) hRc, Nat.le_trans (Nat.le_of_ble_eq_true rfl) hRs⟩) hS (fun _ _ h => h.elim) (fun _ h => h.elim) (fun r_1 _ t H1 locs ht hvm hw_1 hB hz hk hS => ?_)
  have hP := P_kept hP hk
  obtain rfl := hw_1
  refine nb_if_ne (tgt := 19) hx hb dX1_place_10 (by decide) (fun c_2 => ?_) (fun c_2 => ?_)
  · obtain ⟨j, hj, rfl⟩ := inR_t (by omega) c_2
    refine lv_iload_n hx hb dX1_place_19 rfl (lv_at hl 2 rfl) ?_
    refine va_calli (va_runS (As := [.int k0]) (rest := []) ⟨hx, hb, hml, hown, hts⟩ (c_X1_isKind l D k0 ) (va_cwS 1 hts gX1_place_X1_isKind rfl rfl rfl (by decide +kernel) ⟨Nat.le_trans (Nat.le_of_ble_eq_true rfl) hRf, Nat.le_trans (Nat.le_of_ble_eq_true rfl) hRl⟩) (pr_S (P_nil) hK [] rfl V0_at V0_c) rfl rfl hl.1 rfl (lv_room (Nat.le_of_ble_eq_true rfl)) dX1_place_20 ⟨Nat.le_trans (Nat.le_of_ble_eq_true rfl) hRc, Nat.le_trans (Nat.le_of_ble_eq_true rfl) hRs⟩) hS (fun _ _ h => h.elim) (fun _ h => h.elim) (fun r_3 _ t H1 locs ht hvm hw_3 hB hz hk hS => ?_)
    have hP := P_kept hP hk
    obtain rfl := hw_3
    refine nb_if_eq (tgt := 42) hx hb dX1_place_23 (by decide) (fun c_4 => ?_) (fun c_4 => ?_)
    · refine lv_aload_n hx hb dX1_place_42 rfl (lv_at hl 0 rfl) ?_
      refine lv_iconst (v := nI 2) hx hb dX1_place_43 (by decide) ?_
      refine va_calli (va_runV (As := [.int (nI 2)]) (rest := []) ⟨hx, hb, hml, hown, hts⟩ (c_X1_no l D cI ad (nI 0) n np nq F T 2 hinj) (cwV 1 hts gX1_place_X1_no rfl rfl rfl (by decide +kernel) ⟨Nat.le_trans (Nat.le_of_ble_eq_true rfl) hRf, Nat.le_trans (Nat.le_of_ble_eq_true rfl) hRl⟩) (pr_V hP (ci := 1) (q0 := 0) rfl m_at0 rfl hP hK [0] rfl V0_at V0_c) rfl rfl hl.1 rfl (lv_room (Nat.le_of_ble_eq_true rfl)) dX1_place_44 ⟨Nat.le_trans (Nat.le_of_ble_eq_true rfl) hRc, Nat.le_trans (Nat.le_of_ble_eq_true rfl) hRs⟩) hS (fun _ _ h => h) (fun _ h => h) (fun r_5 _ t H1 locs ht hvm hw_5 hB hz hk hS => ?_)
      rw [ht] at hB
      have hP := hB
      have hP : va_P D vwCl (wM cI ad (nI 2) n np nq F T) H1 := hP
      have hD : va_D (inA ad 8) (wM cI ad (nI 2) n np nq F T) := m_D hinj
      obtain rfl := hw_5
      rw [← hQ]
      exact W.iret (v := nI 0) hx hb hr (fun t ht hW => ⟨⟨nI 0, (), rfl, (congrArg Prod.snd (show spPlace n F (nI j) k0 tb = (2, 0) from (by unfold spPlace; rw [inR_in hj (by omega), c_4]; rfl))).symm, (by show va_P D vwCl (wM cI ad (nI (spPlace n F (nI j) k0 tb).1) n np nq F T) t.heap; rw [show spPlace n F (nI j) k0 tb = (2, 0) from (by unfold spPlace; rw [inR_in hj (by omega), c_4]; rfl), ht]; exact hP)⟩, hS.F ht⟩) hS.2.2 dX1_place_47
    · obtain ⟨k9, hk9, rfl⟩ := inR_t (by decide) c_4
      refine lv_aload_n hx hb dX1_place_26 rfl (lv_at hl 0 rfl) ?_
      refine va_get (D := D) (ci := 1) (v := .ref (ad 2)) (C := RX1) (T := TX1) (N := 12) hx hb hts hiw hown hK hP 0 m_at0 rfl 3 (by decide) (hts (.fieldLink RX1 13 "GloveCuttersModel" "cells" "[I") (by decide +kernel)) (fun _ h9 => h9) rfl dX1_place_27 ?_
      refine lv_bipush (v := nI 96) hx hb dX1_place_30 (by decide) ?_
      refine lv_iload_n hx hb dX1_place_32 rfl (lv_at hl 1 rfl) ?_
      refine nv_imul hx hb dX1_place_33 ?_
      refine lv_iload_n hx hb dX1_place_34 rfl (lv_at hl 2 rfl) ?_
      refine lv_iload_n hx hb dX1_place_35 rfl (lv_at hl 3 rfl) ?_
      refine va_calli (va_runS (As := [.ref (ad 2), .int (nI (96 * j)), .int (nI k9), .int (bI tb)]) (rest := []) ⟨hx, hb, hml, hown, hts⟩ (c_X1_first l D cI (ad 2) 960 (mCells F) (96 * j) k9 tb (by omega) (by omega) (by omega) (fun q hq => by have h9 := hsc j (by omega) q hq; rw [← mCells_r (F := F) (s := j) hq] at h9; exact h9)) (va_cwS 4 hts gX1_place_X1_first rfl rfl rfl (by decide +kernel) ⟨Nat.le_trans (Nat.le_of_ble_eq_true rfl) hRf, Nat.le_trans (Nat.le_of_ble_eq_true rfl) hRl⟩) (pr_S (P_pick hP (k := 2) m_at2) hK [0] rfl (hV.at hS sub_id sub_no) EnvM_c) rfl rfl hl.1 rfl (lv_room (Nat.le_of_ble_eq_true rfl)) dX1_place_36 ⟨Nat.le_trans (Nat.le_of_ble_eq_true rfl) hRc, Nat.le_trans (Nat.le_of_ble_eq_true rfl) hRs⟩) hS (fun _ _ h => h.elim) (fun _ h => h.elim) (fun r_6 _ t H1 locs ht hvm hw_6 hB hz hk hS => ?_)
      have hP := P_kept hP hk
      obtain rfl := hw_6
      rw [fI_cong (fitA_cong (f := fun q => mCells F (96 * j + q)) (f' := F (14 + j)) (fun q hq => mCells_r hq))]
      refine lv_goto (tgt := 47) hx hb dX1_place_39 (by decide) ?_
      rw [← hQ]
      exact W.iret (v := fI (fitA (F (14 + j)) k9 tb) 0 (96 - 0)) hx hb hr (fun t ht hW => ⟨⟨fI (fitA (F (14 + j)) k9 tb) 0 (96 - 0), (), rfl, (congrArg Prod.snd (show spPlace n F (nI j) (nI k9) tb = (0, fI (fitA (F (14 + j)) k9 tb) 0 (96 - 0)) from (spPlace_y hn hj hk9))).symm, (by show va_P D vwCl (wM cI ad (nI (spPlace n F (nI j) (nI k9) tb).1) n np nq F T) t.heap; rw [show spPlace n F (nI j) (nI k9) tb = (0, fI (fitA (F (14 + j)) k9 tb) 0 (96 - 0)) from (spPlace_y hn hj hk9), ht]; exact hP)⟩, hS.F ht⟩) hS.2.2 dX1_place_47
  · refine lv_aload_n hx hb dX1_place_13 rfl (lv_at hl 0 rfl) ?_
    refine lv_iconst (v := nI 1) hx hb dX1_place_14 (by decide) ?_
    refine va_calli (va_runV (As := [.int (nI 1)]) (rest := []) ⟨hx, hb, hml, hown, hts⟩ (c_X1_no l D cI ad (nI 0) n np nq F T 1 hinj) (cwV 1 hts gX1_place_X1_no rfl rfl rfl (by decide +kernel) ⟨Nat.le_trans (Nat.le_of_ble_eq_true rfl) hRf, Nat.le_trans (Nat.le_of_ble_eq_true rfl) hRl⟩) (pr_V hP (ci := 1) (q0 := 0) rfl m_at0 rfl hP hK [0] rfl V0_at V0_c) rfl rfl hl.1 rfl (lv_room (Nat.le_of_ble_eq_true rfl)) dX1_place_15 ⟨Nat.le_trans (Nat.le_of_ble_eq_true rfl) hRc, Nat.le_trans (Nat.le_of_ble_eq_true rfl) hRs⟩) hS (fun _ _ h => h) (fun _ h => h) (fun r_7 _ t H1 locs ht hvm hw_7 hB hz hk hS => ?_)
    rw [ht] at hB
    have hP := hB
    have hP : va_P D vwCl (wM cI ad (nI 1) n np nq F T) H1 := hP
    have hD : va_D (inA ad 8) (wM cI ad (nI 1) n np nq F T) := m_D hinj
    obtain rfl := hw_7
    rw [← hQ]
    exact W.iret (v := nI 0) hx hb hr (fun t ht hW => ⟨⟨nI 0, (), rfl, (congrArg Prod.snd (show spPlace n F s0 k0 tb = (1, 0) from (by unfold spPlace; rw [c_2]; rfl))).symm, (by show va_P D vwCl (wM cI ad (nI (spPlace n F s0 k0 tb).1) n np nq F T) t.heap; rw [show spPlace n F s0 k0 tb = (1, 0) from (by unfold spPlace; rw [c_2]; rfl), ht]; exact hP)⟩, hS.F ht⟩) hS.2.2 dX1_place_18
set_option maxHeartbeats 4000000 in
set_option maxRecDepth 100000 in
/-- piece -/
theorem c_X1_piece (l : Launch) (D : va_G) (cI : ClassId) (ad : Nat → Nat) (th : Int32) (n np nq : Nat) (F : Nat → Nat → Int32) (T : Nat → Int32) (p0 w0 : Int32) (hinj : inj ad 8) (hnp : np ≤ 150) : Met l yX1_piece wsX1_piece ({ frames := 1, cells := 0, slots := 0, locals := 22 } : Room) (va_Pc [.ref (ad 0), .int p0, .int w0] (Pr D [(cI, .int)] (wM cI ad th n np nq F T) V0)) (va_Qi (S := Unit) (fun (r : Int32) (_ : Unit) => r = (spPiece np F p0 w0).2) (fun (_ : Unit) (t : State) => va_P D vwCl (wM cI ad (nI (spPiece np F p0 w0).1) n np nq F T) t.heap) (inA ad 8)) 0 0 (inA ad 8) := by
  refine Met.ofW (cc := cX1_piece) (maxL := 3) (ret := (some .int)) (by decide) rfl ?_
  intro p e s m args below meth c s₁ B hml hv
  obtain ⟨hargs, hP, hK, hV⟩ := hv
  have hx := B.exec
  have hb := B.bytes
  have hr := B.returns
  have hts := atoms_spec (ws := wsX1_piece) B.pre
  have hown : s.vm.findClass RX1 = some m.cls := findClass_of_methodNamed B.named
  have hlocks := B.notSynchronized
  have hS : va_S (fun _ => False) s.heap s.heap [] := va_S.rf
  have hiw : ∀ w ∈ wsX10, w ∈ wsX1_piece := (fun _ h => List.mem_cons_of_mem _ (List.mem_append_right _ h))
  have hRf : 1 ≤ (headSpec wsX1_piece ({ frames := 1, cells := 0, slots := 0, locals := 22 } : Room)).room.frames := Nat.le_refl _
  have hRl : 22 ≤ (headSpec wsX1_piece ({ frames := 1, cells := 0, slots := 0, locals := 22 } : Room)).room.locals := Nat.le_refl _
  have hRc : 0 ≤ (headSpec wsX1_piece ({ frames := 1, cells := 0, slots := 0, locals := 22 } : Room)).room.cells := Nat.le_refl _
  have hRs : 0 ≤ (headSpec wsX1_piece ({ frames := 1, cells := 0, slots := 0, locals := 22 } : Room)).room.slots := Nat.le_refl _
  generalize (headSpec wsX1_piece ({ frames := 1, cells := 0, slots := 0, locals := 22 } : Room)).room = R at hRf hRl hRc hRs ⊢
  have hl := lv_entry [.ref (ad 0), .int p0, .int w0] (n := 3) (Nat.le_of_ble_eq_true rfl)
  refine W.eq (show entryFrame m args 3 = _ from by rw [hargs, lg_entry_eq]) ?_
  generalize (lg_sl [.ref (ad 0), .int p0, .int w0] ++ List.replicate (3 - (lg_sl [.ref (ad 0), .int p0, .int w0]).length) Slot.unset).toArray = ls at hl ⊢
  have hl : lv_has ls 3 [(0, .ref (ad 0)), (1, .int p0), (2, .int w0)] := hl
  have hD : va_D (inA ad 8) (wM cI ad th n np nq F T) := m_D hinj
  generalize hQ : MQ _ _ _ _ _ _ _ = Q
  refine lv_aload_n hx hb dX1_piece_0 rfl (lv_at hl 0 rfl) ?_
  refine lv_iconst (v := nI 0) hx hb dX1_piece_1 (by decide) ?_
  have hS : va_S (inA ad 8) s.heap _ _ := S_mono hS
  refine va_put (D := D) (ci := 1) (v := .int (nI 0)) (ty := .int) (C := RX1) (T := TX1) (N := 12) hx hb hts hiw tyX1 tyX1_ok nmX1 hown hK hP hD hS 0 m_at0 rfl 0 (by decide) (hts (.fieldLink RX1 34 "GloveCuttersModel" "thrown" "I") (by decide +kernel)) (fun _ h9 => h9) rfl (by decide +kernel) rfl rfl (Nat.le_of_ble_eq_true rfl) dX1_piece_2 (fun H locs hP hD hS => ?_)
  have hP : va_P D vwCl (wM cI ad (nI 0) n np nq F T) H := hP
  have hD : va_D (inA ad 8) (wM cI ad (nI 0) n np nq F T) := hD
  refine lv_iload_n hx hb dX1_piece_5 rfl (lv_at hl 1 rfl) ?_
  refine lv_iconst (v := nI 0) hx hb dX1_piece_6 (by decide) ?_
  refine lv_aload_n hx hb dX1_piece_7 rfl (lv_at hl 0 rfl) ?_
  refine va_get (D := D) (ci := 1) (v := .int (nI np)) (C := RX1) (T := TX1) (N := 12) hx hb hts hiw hown hK hP 0 m_at0 rfl 4 (by decide) (hts (.fieldLink RX1 67 "GloveCuttersModel" "pieces" "I") (by decide +kernel)) (fun _ h9 => h9) rfl dX1_piece_8 ?_
  refine lv_iconst (v := nI 1) hx hb dX1_piece_11 (by decide) ?_
  refine lv_isub hx hb dX1_piece_12 ?_
  refine va_calli (va_runS (As := [.int p0, .int (nI 0), .int ((nI np) - (nI 1))]) (rest := []) ⟨hx, hb, hml, hown, hts⟩ (c_X1_isIn l D p0 (nI 0) ((nI np) - (nI 1)) ) (va_cwS 3 hts gX1_piece_X1_isIn rfl rfl rfl (by decide +kernel) ⟨Nat.le_trans (Nat.le_of_ble_eq_true rfl) hRf, Nat.le_trans (Nat.le_of_ble_eq_true rfl) hRl⟩) (pr_S (P_nil) hK [] rfl V0_at V0_c) rfl rfl hl.1 rfl (lv_room (Nat.le_of_ble_eq_true rfl)) dX1_piece_13 ⟨Nat.le_trans (Nat.le_of_ble_eq_true rfl) hRc, Nat.le_trans (Nat.le_of_ble_eq_true rfl) hRs⟩) hS (fun _ _ h => h.elim) (fun _ h => h.elim) (fun r_1 _ t H1 locs ht hvm hw_1 hB hz hk hS => ?_)
  have hP := P_kept hP hk
  obtain rfl := hw_1
  refine nb_if_eq (tgt := 37) hx hb dX1_piece_16 (by decide) (fun c_2 => ?_) (fun c_2 => ?_)
  · refine lv_aload_n hx hb dX1_piece_37 rfl (lv_at hl 0 rfl) ?_
    refine lv_iconst (v := nI 1) hx hb dX1_piece_38 (by decide) ?_
    refine va_calli (va_runV (As := [.int (nI 1)]) (rest := []) ⟨hx, hb, hml, hown, hts⟩ (c_X1_no l D cI ad (nI 0) n np nq F T 1 hinj) (cwV 1 hts gX1_piece_X1_no rfl rfl rfl (by decide +kernel) ⟨Nat.le_trans (Nat.le_of_ble_eq_true rfl) hRf, Nat.le_trans (Nat.le_of_ble_eq_true rfl) hRl⟩) (pr_V hP (ci := 1) (q0 := 0) rfl m_at0 rfl hP hK [0] rfl V0_at V0_c) rfl rfl hl.1 rfl (lv_room (Nat.le_of_ble_eq_true rfl)) dX1_piece_39 ⟨Nat.le_trans (Nat.le_of_ble_eq_true rfl) hRc, Nat.le_trans (Nat.le_of_ble_eq_true rfl) hRs⟩) hS (fun _ _ h => h) (fun _ h => h) (fun r_3 _ t H1 locs ht hvm hw_3 hB hz hk hS => ?_)
    rw [ht] at hB
    have hP := hB
    have hP : va_P D vwCl (wM cI ad (nI 1) n np nq F T) H1 := hP
    have hD : va_D (inA ad 8) (wM cI ad (nI 1) n np nq F T) := m_D hinj
    obtain rfl := hw_3
    rw [← hQ]
    exact W.iret (v := nI 0) hx hb hr (fun t ht hW => ⟨⟨nI 0, (), rfl, (congrArg Prod.snd (show spPiece np F p0 w0 = (1, 0) from (by unfold spPiece; rw [← isI_n (by omega), c_2]; rfl))).symm, (by show va_P D vwCl (wM cI ad (nI (spPiece np F p0 w0).1) n np nq F T) t.heap; rw [show spPiece np F p0 w0 = (1, 0) from (by unfold spPiece; rw [← isI_n (by omega), c_2]; rfl), ht]; exact hP)⟩, hS.F ht⟩) hS.2.2 dX1_piece_42
  · obtain ⟨j, hj, rfl⟩ := inR_t (n := np) (by omega) (by rw [← isI_n (by omega)]; exact c_2)
    refine lv_iload_n hx hb dX1_piece_19 rfl (lv_at hl 2 rfl) ?_
    refine lv_iconst (v := nI 0) hx hb dX1_piece_20 (by decide) ?_
    refine lv_iconst (v := nI 3) hx hb dX1_piece_21 (by decide) ?_
    refine va_calli (va_runS (As := [.int w0, .int (nI 0), .int (nI 3)]) (rest := []) ⟨hx, hb, hml, hown, hts⟩ (c_X1_isIn l D w0 (nI 0) (nI 3) ) (va_cwS 3 hts gX1_piece_X1_isIn rfl rfl rfl (by decide +kernel) ⟨Nat.le_trans (Nat.le_of_ble_eq_true rfl) hRf, Nat.le_trans (Nat.le_of_ble_eq_true rfl) hRl⟩) (pr_S (P_nil) hK [] rfl V0_at V0_c) rfl rfl hl.1 rfl (lv_room (Nat.le_of_ble_eq_true rfl)) dX1_piece_22 ⟨Nat.le_trans (Nat.le_of_ble_eq_true rfl) hRc, Nat.le_trans (Nat.le_of_ble_eq_true rfl) hRs⟩) hS (fun _ _ h => h.elim) (fun _ h => h.elim) (fun r_4 _ t H1 locs ht hvm hw_4 hB hz hk hS => ?_)
    have hP := P_kept hP hk
    obtain rfl := hw_4
    refine nb_if_eq (tgt := 37) hx hb dX1_piece_25 (by decide) (fun c_5 => ?_) (fun c_5 => ?_)
    · refine lv_aload_n hx hb dX1_piece_37 rfl (lv_at hl 0 rfl) ?_
      refine lv_iconst (v := nI 1) hx hb dX1_piece_38 (by decide) ?_
      refine va_calli (va_runV (As := [.int (nI 1)]) (rest := []) ⟨hx, hb, hml, hown, hts⟩ (c_X1_no l D cI ad (nI 0) n np nq F T 1 hinj) (cwV 1 hts gX1_piece_X1_no rfl rfl rfl (by decide +kernel) ⟨Nat.le_trans (Nat.le_of_ble_eq_true rfl) hRf, Nat.le_trans (Nat.le_of_ble_eq_true rfl) hRl⟩) (pr_V hP (ci := 1) (q0 := 0) rfl m_at0 rfl hP hK [0] rfl V0_at V0_c) rfl rfl hl.1 rfl (lv_room (Nat.le_of_ble_eq_true rfl)) dX1_piece_39 ⟨Nat.le_trans (Nat.le_of_ble_eq_true rfl) hRc, Nat.le_trans (Nat.le_of_ble_eq_true rfl) hRs⟩) hS (fun _ _ h => h) (fun _ h => h) (fun r_6 _ t H1 locs ht hvm hw_6 hB hz hk hS => ?_)
      rw [ht] at hB
      have hP := hB
      have hP : va_P D vwCl (wM cI ad (nI 1) n np nq F T) H1 := hP
      have hD : va_D (inA ad 8) (wM cI ad (nI 1) n np nq F T) := m_D hinj
      obtain rfl := hw_6
      rw [← hQ]
      exact W.iret (v := nI 0) hx hb hr (fun t ht hW => ⟨⟨nI 0, (), rfl, (congrArg Prod.snd (show spPiece np F (nI j) w0 = (1, 0) from (by unfold spPiece; rw [inR_in hj (by omega), ← isI_k (x := w0) (k := 3) (by decide), c_5]; rfl))).symm, (by show va_P D vwCl (wM cI ad (nI (spPiece np F (nI j) w0).1) n np nq F T) t.heap; rw [show spPiece np F (nI j) w0 = (1, 0) from (by unfold spPiece; rw [inR_in hj (by omega), ← isI_k (x := w0) (k := 3) (by decide), c_5]; rfl), ht]; exact hP)⟩, hS.F ht⟩) hS.2.2 dX1_piece_42
    · obtain ⟨w9, hw9, rfl⟩ := inR_t (n := 4) (by decide) (by rw [← isI_k (k := 3) (by decide)]; exact c_5)
      refine lv_aload_n hx hb dX1_piece_28 rfl (lv_at hl 0 rfl) ?_
      refine lv_iload_n hx hb dX1_piece_29 rfl (lv_at hl 1 rfl) ?_
      refine lv_iload_n hx hb dX1_piece_30 rfl (lv_at hl 2 rfl) ?_
      refine va_calli (va_runV (As := [.int (nI j), .int (nI w9)]) (rest := []) ⟨hx, hb, hml, hown, hts⟩ (c_X1_pieceTold l D cI ad (nI 0) n np nq F T j w9 hnp (by omega) (by omega)) (cwV 2 hts gX1_piece_X1_pieceTold rfl rfl rfl (by decide +kernel) ⟨Nat.le_trans (Nat.le_of_ble_eq_true rfl) hRf, Nat.le_trans (Nat.le_of_ble_eq_true rfl) hRl⟩) (pr_V hP (ci := 1) (q0 := 0) rfl m_at0 rfl hP hK [0] rfl V0_at V0_c) rfl rfl hl.1 rfl (lv_room (Nat.le_of_ble_eq_true rfl)) dX1_piece_31 ⟨Nat.le_trans (Nat.le_of_ble_eq_true rfl) hRc, Nat.le_trans (Nat.le_of_ble_eq_true rfl) hRs⟩) hS (fun _ _ h => h.elim) (fun _ h => h.elim) (fun r_7 _ t H1 locs ht hvm hw_7 hB hz hk hS => ?_)
      have hP := P_kept hP hk
      obtain rfl := hw_7
      refine lv_goto (tgt := 42) hx hb dX1_piece_34 (by decide) ?_
      rw [← hQ]
      exact W.iret (v := pcT F j w9) hx hb hr (fun t ht hW => ⟨⟨pcT F j w9, (), rfl, (congrArg Prod.snd (show spPiece np F (nI j) (nI w9) = (0, pcT F j w9) from (spPiece_y hnp hj hw9))).symm, (by show va_P D vwCl (wM cI ad (nI (spPiece np F (nI j) (nI w9)).1) n np nq F T) t.heap; rw [show spPiece np F (nI j) (nI w9) = (0, pcT F j w9) from (spPiece_y hnp hj hw9), ht]; exact hP)⟩, hS.F ht⟩) hS.2.2 dX1_piece_42
set_option maxHeartbeats 4000000 in
set_option maxRecDepth 100000 in
/-- pair -/
theorem c_X1_pair (l : Launch) (D : va_G) (cI : ClassId) (ad : Nat → Nat) (th : Int32) (n np nq : Nat) (F : Nat → Nat → Int32) (T : Nat → Int32) (p0 w0 : Int32) (hinj : inj ad 8) (hnq : nq ≤ 20) : Met l yX1_pair wsX1_pair ({ frames := 1, cells := 0, slots := 0, locals := 22 } : Room) (va_Pc [.ref (ad 0), .int p0, .int w0] (Pr D [(cI, .int)] (wM cI ad th n np nq F T) V0)) (va_Qi (S := Unit) (fun (r : Int32) (_ : Unit) => r = (spPair nq F p0 w0).2) (fun (_ : Unit) (t : State) => va_P D vwCl (wM cI ad (nI (spPair nq F p0 w0).1) n np nq F T) t.heap) (inA ad 8)) 0 0 (inA ad 8) := by
  refine Met.ofW (cc := cX1_pair) (maxL := 3) (ret := (some .int)) (by decide) rfl ?_
  intro p e s m args below meth c s₁ B hml hv
  obtain ⟨hargs, hP, hK, hV⟩ := hv
  have hx := B.exec
  have hb := B.bytes
  have hr := B.returns
  have hts := atoms_spec (ws := wsX1_pair) B.pre
  have hown : s.vm.findClass RX1 = some m.cls := findClass_of_methodNamed B.named
  have hlocks := B.notSynchronized
  have hS : va_S (fun _ => False) s.heap s.heap [] := va_S.rf
  have hiw : ∀ w ∈ wsX10, w ∈ wsX1_pair := (fun _ h => List.mem_cons_of_mem _ (List.mem_append_right _ h))
  have hRf : 1 ≤ (headSpec wsX1_pair ({ frames := 1, cells := 0, slots := 0, locals := 22 } : Room)).room.frames := Nat.le_refl _
  have hRl : 22 ≤ (headSpec wsX1_pair ({ frames := 1, cells := 0, slots := 0, locals := 22 } : Room)).room.locals := Nat.le_refl _
  have hRc : 0 ≤ (headSpec wsX1_pair ({ frames := 1, cells := 0, slots := 0, locals := 22 } : Room)).room.cells := Nat.le_refl _
  have hRs : 0 ≤ (headSpec wsX1_pair ({ frames := 1, cells := 0, slots := 0, locals := 22 } : Room)).room.slots := Nat.le_refl _
  generalize (headSpec wsX1_pair ({ frames := 1, cells := 0, slots := 0, locals := 22 } : Room)).room = R at hRf hRl hRc hRs ⊢
  have hl := lv_entry [.ref (ad 0), .int p0, .int w0] (n := 3) (Nat.le_of_ble_eq_true rfl)
  refine W.eq (show entryFrame m args 3 = _ from by rw [hargs, lg_entry_eq]) ?_
  generalize (lg_sl [.ref (ad 0), .int p0, .int w0] ++ List.replicate (3 - (lg_sl [.ref (ad 0), .int p0, .int w0]).length) Slot.unset).toArray = ls at hl ⊢
  have hl : lv_has ls 3 [(0, .ref (ad 0)), (1, .int p0), (2, .int w0)] := hl
  have hD : va_D (inA ad 8) (wM cI ad th n np nq F T) := m_D hinj
  generalize hQ : MQ _ _ _ _ _ _ _ = Q
  refine lv_aload_n hx hb dX1_pair_0 rfl (lv_at hl 0 rfl) ?_
  refine lv_iconst (v := nI 0) hx hb dX1_pair_1 (by decide) ?_
  have hS : va_S (inA ad 8) s.heap _ _ := S_mono hS
  refine va_put (D := D) (ci := 1) (v := .int (nI 0)) (ty := .int) (C := RX1) (T := TX1) (N := 12) hx hb hts hiw tyX1 tyX1_ok nmX1 hown hK hP hD hS 0 m_at0 rfl 0 (by decide) (hts (.fieldLink RX1 34 "GloveCuttersModel" "thrown" "I") (by decide +kernel)) (fun _ h9 => h9) rfl (by decide +kernel) rfl rfl (Nat.le_of_ble_eq_true rfl) dX1_pair_2 (fun H locs hP hD hS => ?_)
  have hP : va_P D vwCl (wM cI ad (nI 0) n np nq F T) H := hP
  have hD : va_D (inA ad 8) (wM cI ad (nI 0) n np nq F T) := hD
  refine lv_iload_n hx hb dX1_pair_5 rfl (lv_at hl 1 rfl) ?_
  refine lv_iconst (v := nI 0) hx hb dX1_pair_6 (by decide) ?_
  refine lv_aload_n hx hb dX1_pair_7 rfl (lv_at hl 0 rfl) ?_
  refine va_get (D := D) (ci := 1) (v := .int (nI nq)) (C := RX1) (T := TX1) (N := 12) hx hb hts hiw hown hK hP 0 m_at0 rfl 9 (by decide) (hts (.fieldLink RX1 119 "GloveCuttersModel" "pairs" "I") (by decide +kernel)) (fun _ h9 => h9) rfl dX1_pair_8 ?_
  refine lv_iconst (v := nI 1) hx hb dX1_pair_11 (by decide) ?_
  refine lv_isub hx hb dX1_pair_12 ?_
  refine va_calli (va_runS (As := [.int p0, .int (nI 0), .int ((nI nq) - (nI 1))]) (rest := []) ⟨hx, hb, hml, hown, hts⟩ (c_X1_isIn l D p0 (nI 0) ((nI nq) - (nI 1)) ) (va_cwS 3 hts gX1_pair_X1_isIn rfl rfl rfl (by decide +kernel) ⟨Nat.le_trans (Nat.le_of_ble_eq_true rfl) hRf, Nat.le_trans (Nat.le_of_ble_eq_true rfl) hRl⟩) (pr_S (P_nil) hK [] rfl V0_at V0_c) rfl rfl hl.1 rfl (lv_room (Nat.le_of_ble_eq_true rfl)) dX1_pair_13 ⟨Nat.le_trans (Nat.le_of_ble_eq_true rfl) hRc, Nat.le_trans (Nat.le_of_ble_eq_true rfl) hRs⟩) hS (fun _ _ h => h.elim) (fun _ h => h.elim) (fun r_1 _ t H1 locs ht hvm hw_1 hB hz hk hS => ?_)
  have hP := P_kept hP hk
  obtain rfl := hw_1
  refine nb_if_eq (tgt := 41) hx hb dX1_pair_16 (by decide) (fun c_2 => ?_) (fun c_2 => ?_)
  · refine lv_aload_n hx hb dX1_pair_41 rfl (lv_at hl 0 rfl) ?_
    refine lv_iconst (v := nI 1) hx hb dX1_pair_42 (by decide) ?_
    refine va_calli (va_runV (As := [.int (nI 1)]) (rest := []) ⟨hx, hb, hml, hown, hts⟩ (c_X1_no l D cI ad (nI 0) n np nq F T 1 hinj) (cwV 1 hts gX1_pair_X1_no rfl rfl rfl (by decide +kernel) ⟨Nat.le_trans (Nat.le_of_ble_eq_true rfl) hRf, Nat.le_trans (Nat.le_of_ble_eq_true rfl) hRl⟩) (pr_V hP (ci := 1) (q0 := 0) rfl m_at0 rfl hP hK [0] rfl V0_at V0_c) rfl rfl hl.1 rfl (lv_room (Nat.le_of_ble_eq_true rfl)) dX1_pair_43 ⟨Nat.le_trans (Nat.le_of_ble_eq_true rfl) hRc, Nat.le_trans (Nat.le_of_ble_eq_true rfl) hRs⟩) hS (fun _ _ h => h) (fun _ h => h) (fun r_3 _ t H1 locs ht hvm hw_3 hB hz hk hS => ?_)
    rw [ht] at hB
    have hP := hB
    have hP : va_P D vwCl (wM cI ad (nI 1) n np nq F T) H1 := hP
    have hD : va_D (inA ad 8) (wM cI ad (nI 1) n np nq F T) := m_D hinj
    obtain rfl := hw_3
    rw [← hQ]
    exact W.iret (v := nI 0) hx hb hr (fun t ht hW => ⟨⟨nI 0, (), rfl, (congrArg Prod.snd (show spPair nq F p0 w0 = (1, 0) from (by unfold spPair; rw [← isI_n (by omega), c_2]; rfl))).symm, (by show va_P D vwCl (wM cI ad (nI (spPair nq F p0 w0).1) n np nq F T) t.heap; rw [show spPair nq F p0 w0 = (1, 0) from (by unfold spPair; rw [← isI_n (by omega), c_2]; rfl), ht]; exact hP)⟩, hS.F ht⟩) hS.2.2 dX1_pair_46
  · obtain ⟨j, hj, rfl⟩ := inR_t (n := nq) (by omega) (by rw [← isI_n (by omega)]; exact c_2)
    refine lv_iload_n hx hb dX1_pair_19 rfl (lv_at hl 2 rfl) ?_
    refine lv_iconst (v := nI 0) hx hb dX1_pair_20 (by decide) ?_
    refine lv_iconst (v := nI 4) hx hb dX1_pair_21 (by decide) ?_
    refine va_calli (va_runS (As := [.int w0, .int (nI 0), .int (nI 4)]) (rest := []) ⟨hx, hb, hml, hown, hts⟩ (c_X1_isIn l D w0 (nI 0) (nI 4) ) (va_cwS 3 hts gX1_pair_X1_isIn rfl rfl rfl (by decide +kernel) ⟨Nat.le_trans (Nat.le_of_ble_eq_true rfl) hRf, Nat.le_trans (Nat.le_of_ble_eq_true rfl) hRl⟩) (pr_S (P_nil) hK [] rfl V0_at V0_c) rfl rfl hl.1 rfl (lv_room (Nat.le_of_ble_eq_true rfl)) dX1_pair_22 ⟨Nat.le_trans (Nat.le_of_ble_eq_true rfl) hRc, Nat.le_trans (Nat.le_of_ble_eq_true rfl) hRs⟩) hS (fun _ _ h => h.elim) (fun _ h => h.elim) (fun r_4 _ t H1 locs ht hvm hw_4 hB hz hk hS => ?_)
    have hP := P_kept hP hk
    obtain rfl := hw_4
    refine nb_if_eq (tgt := 41) hx hb dX1_pair_25 (by decide) (fun c_5 => ?_) (fun c_5 => ?_)
    · refine lv_aload_n hx hb dX1_pair_41 rfl (lv_at hl 0 rfl) ?_
      refine lv_iconst (v := nI 1) hx hb dX1_pair_42 (by decide) ?_
      refine va_calli (va_runV (As := [.int (nI 1)]) (rest := []) ⟨hx, hb, hml, hown, hts⟩ (c_X1_no l D cI ad (nI 0) n np nq F T 1 hinj) (cwV 1 hts gX1_pair_X1_no rfl rfl rfl (by decide +kernel) ⟨Nat.le_trans (Nat.le_of_ble_eq_true rfl) hRf, Nat.le_trans (Nat.le_of_ble_eq_true rfl) hRl⟩) (pr_V hP (ci := 1) (q0 := 0) rfl m_at0 rfl hP hK [0] rfl V0_at V0_c) rfl rfl hl.1 rfl (lv_room (Nat.le_of_ble_eq_true rfl)) dX1_pair_43 ⟨Nat.le_trans (Nat.le_of_ble_eq_true rfl) hRc, Nat.le_trans (Nat.le_of_ble_eq_true rfl) hRs⟩) hS (fun _ _ h => h) (fun _ h => h) (fun r_6 _ t H1 locs ht hvm hw_6 hB hz hk hS => ?_)
      rw [ht] at hB
      have hP := hB
      have hP : va_P D vwCl (wM cI ad (nI 1) n np nq F T) H1 := hP
      have hD : va_D (inA ad 8) (wM cI ad (nI 1) n np nq F T) := m_D hinj
      obtain rfl := hw_6
      rw [← hQ]
      exact W.iret (v := nI 0) hx hb hr (fun t ht hW => ⟨⟨nI 0, (), rfl, (congrArg Prod.snd (show spPair nq F (nI j) w0 = (1, 0) from (by unfold spPair; rw [inR_in hj (by omega), ← isI_k (x := w0) (k := 4) (by decide), c_5]; rfl))).symm, (by show va_P D vwCl (wM cI ad (nI (spPair nq F (nI j) w0).1) n np nq F T) t.heap; rw [show spPair nq F (nI j) w0 = (1, 0) from (by unfold spPair; rw [inR_in hj (by omega), ← isI_k (x := w0) (k := 4) (by decide), c_5]; rfl), ht]; exact hP)⟩, hS.F ht⟩) hS.2.2 dX1_pair_46
    · obtain ⟨w9, hw9, rfl⟩ := inR_t (n := 5) (by decide) (by rw [← isI_k (k := 4) (by decide)]; exact c_5)
      refine lv_aload_n hx hb dX1_pair_28 rfl (lv_at hl 0 rfl) ?_
      refine va_get (D := D) (ci := 1) (v := .ref (ad 7)) (C := RX1) (T := TX1) (N := 12) hx hb hts hiw hown hK hP 0 m_at0 rfl 10 (by decide) (hts (.fieldLink RX1 28 "GloveCuttersModel" "book" "[I") (by decide +kernel)) (fun _ h9 => h9) rfl dX1_pair_29 ?_
      refine lv_iconst (v := nI 5) hx hb dX1_pair_32 (by decide) ?_
      refine lv_iload_n hx hb dX1_pair_33 rfl (lv_at hl 1 rfl) ?_
      refine nv_imul hx hb dX1_pair_34 ?_
      refine lv_iload_n hx hb dX1_pair_35 rfl (lv_at hl 2 rfl) ?_
      refine nv_iadd hx hb dX1_pair_36 ?_
      refine nv_iald hx hb hK hP 7 0 m_at7 rfl (by omega) (by omega) dX1_pair_37 ?_
      rw [show mBook F (5 * j + w9) = prT F j w9 from mBook_r hw9]
      refine lv_goto (tgt := 46) hx hb dX1_pair_38 (by decide) ?_
      rw [← hQ]
      exact W.iret (v := prT F j w9) hx hb hr (fun t ht hW => ⟨⟨prT F j w9, (), rfl, (congrArg Prod.snd (show spPair nq F (nI j) (nI w9) = (0, prT F j w9) from (spPair_y hnq hj hw9))).symm, (by show va_P D vwCl (wM cI ad (nI (spPair nq F (nI j) (nI w9)).1) n np nq F T) t.heap; rw [show spPair nq F (nI j) (nI w9) = (0, prT F j w9) from (spPair_y hnq hj hw9), ht]; exact hP)⟩, hS.F ht⟩) hS.2.2 dX1_pair_46
set_option maxHeartbeats 4000000 in
set_option maxRecDepth 100000 in
/-- lacks -/
theorem c_X1_lacks (l : Launch) (D : va_G) (cI : ClassId) (ad : Nat → Nat) (th : Int32) (n np nq : Nat) (F : Nat → Nat → Int32) (T : Nat → Int32) (c0 k0 : Int32) (hinj : inj ad 8) (hn : n ≤ 10) (hnp : np ≤ 150) (hsk : ∀ p, p < np → ∃ k, k < n ∧ F 4 p = nI k) : Met l yX1_lacks wsX1_lacks ({ frames := 2, cells := 0, slots := 0, locals := 47 } : Room) (va_Pc [.ref (ad 0), .int c0, .int k0] (Pr D [(cI, .int)] (wM cI ad th n np nq F T) (EnvM (inA ad 8)))) (va_Qi (S := Unit) (fun (r : Int32) (_ : Unit) => r = (spLacks n np F c0 k0).2) (fun (_ : Unit) (t : State) => va_P D vwCl (wM cI ad (nI (spLacks n np F c0 k0).1) n np nq F T) t.heap) (inA ad 8)) 0 0 (inA ad 8) := by
  refine Met.ofW (cc := cX1_lacks) (maxL := 5) (ret := (some .int)) (by decide) rfl ?_
  intro p e s m args below meth c s₁ B hml hv
  obtain ⟨hargs, hP, hK, hV⟩ := hv
  have hx := B.exec
  have hb := B.bytes
  have hr := B.returns
  have hts := atoms_spec (ws := wsX1_lacks) B.pre
  have hown : s.vm.findClass RX1 = some m.cls := findClass_of_methodNamed B.named
  have hlocks := B.notSynchronized
  have hS : va_S (fun _ => False) s.heap s.heap [] := va_S.rf
  have hV0 : EnvM (fun _ => False) s := EnvM.nar hV sub_no
  have hiw : ∀ w ∈ wsX10, w ∈ wsX1_lacks := (fun _ h => List.mem_cons_of_mem _ (List.mem_append_right _ h))
  have hRf : 2 ≤ (headSpec wsX1_lacks ({ frames := 2, cells := 0, slots := 0, locals := 47 } : Room)).room.frames := Nat.le_refl _
  have hRl : 47 ≤ (headSpec wsX1_lacks ({ frames := 2, cells := 0, slots := 0, locals := 47 } : Room)).room.locals := Nat.le_refl _
  have hRc : 0 ≤ (headSpec wsX1_lacks ({ frames := 2, cells := 0, slots := 0, locals := 47 } : Room)).room.cells := Nat.le_refl _
  have hRs : 0 ≤ (headSpec wsX1_lacks ({ frames := 2, cells := 0, slots := 0, locals := 47 } : Room)).room.slots := Nat.le_refl _
  generalize (headSpec wsX1_lacks ({ frames := 2, cells := 0, slots := 0, locals := 47 } : Room)).room = R at hRf hRl hRc hRs ⊢
  have hl := lv_entry [.ref (ad 0), .int c0, .int k0] (n := 5) (Nat.le_of_ble_eq_true rfl)
  refine W.eq (show entryFrame m args 5 = _ from by rw [hargs, lg_entry_eq]) ?_
  generalize (lg_sl [.ref (ad 0), .int c0, .int k0] ++ List.replicate (5 - (lg_sl [.ref (ad 0), .int c0, .int k0]).length) Slot.unset).toArray = ls at hl ⊢
  have hl : lv_has ls 5 [(0, .ref (ad 0)), (1, .int c0), (2, .int k0)] := hl
  have hD : va_D (inA ad 8) (wM cI ad th n np nq F T) := m_D hinj
  generalize hQ : MQ _ _ _ _ _ _ _ = Q
  refine lv_aload_n hx hb dX1_lacks_0 rfl (lv_at hl 0 rfl) ?_
  refine lv_iconst (v := nI 0) hx hb dX1_lacks_1 (by decide) ?_
  have hS : va_S (inA ad 8) s.heap _ _ := S_mono hS
  refine va_put (D := D) (ci := 1) (v := .int (nI 0)) (ty := .int) (C := RX1) (T := TX1) (N := 12) hx hb hts hiw tyX1 tyX1_ok nmX1 hown hK hP hD hS 0 m_at0 rfl 0 (by decide) (hts (.fieldLink RX1 34 "GloveCuttersModel" "thrown" "I") (by decide +kernel)) (fun _ h9 => h9) rfl (by decide +kernel) rfl rfl (Nat.le_of_ble_eq_true rfl) dX1_lacks_2 (fun H locs hP hD hS => ?_)
  have hP : va_P D vwCl (wM cI ad (nI 0) n np nq F T) H := hP
  have hD : va_D (inA ad 8) (wM cI ad (nI 0) n np nq F T) := hD
  refine lv_iload_n hx hb dX1_lacks_5 rfl (lv_at hl 1 rfl) ?_
  refine va_calli (va_runS (As := [.int c0]) (rest := []) ⟨hx, hb, hml, hown, hts⟩ (c_X1_isColour l D c0 ) (va_cwS 1 hts gX1_lacks_X1_isColour rfl rfl rfl (by decide +kernel) ⟨Nat.le_trans (Nat.le_of_ble_eq_true rfl) hRf, Nat.le_trans (Nat.le_of_ble_eq_true rfl) hRl⟩) (pr_S (P_nil) hK [] rfl V0_at V0_c) rfl rfl hl.1 rfl (lv_room (Nat.le_of_ble_eq_true rfl)) dX1_lacks_6 ⟨Nat.le_trans (Nat.le_of_ble_eq_true rfl) hRc, Nat.le_trans (Nat.le_of_ble_eq_true rfl) hRs⟩) hS (fun _ _ h => h.elim) (fun _ h => h.elim) (fun r_1 _ t H1 locs ht hvm hw_1 hB hz hk hS => ?_)
  have hP := P_kept hP hk
  obtain rfl := hw_1
  refine nb_if_eq (tgt := 19) hx hb dX1_lacks_9 (by decide) (fun c_2 => ?_) (fun c_2 => ?_)
  · refine lv_aload_n hx hb dX1_lacks_19 rfl (lv_at hl 0 rfl) ?_
    refine lv_iconst (v := nI 1) hx hb dX1_lacks_20 (by decide) ?_
    refine va_calli (va_runV (As := [.int (nI 1)]) (rest := []) ⟨hx, hb, hml, hown, hts⟩ (c_X1_no l D cI ad (nI 0) n np nq F T 1 hinj) (cwV 1 hts gX1_lacks_X1_no rfl rfl rfl (by decide +kernel) ⟨Nat.le_trans (Nat.le_of_ble_eq_true rfl) hRf, Nat.le_trans (Nat.le_of_ble_eq_true rfl) hRl⟩) (pr_V hP (ci := 1) (q0 := 0) rfl m_at0 rfl hP hK [0] rfl V0_at V0_c) rfl rfl hl.1 rfl (lv_room (Nat.le_of_ble_eq_true rfl)) dX1_lacks_21 ⟨Nat.le_trans (Nat.le_of_ble_eq_true rfl) hRc, Nat.le_trans (Nat.le_of_ble_eq_true rfl) hRs⟩) hS (fun _ _ h => h) (fun _ h => h) (fun r_3 _ t H1 locs ht hvm hw_3 hB hz hk hS => ?_)
    rw [ht] at hB
    have hP := hB
    have hP : va_P D vwCl (wM cI ad (nI 1) n np nq F T) H1 := hP
    have hD : va_D (inA ad 8) (wM cI ad (nI 1) n np nq F T) := m_D hinj
    obtain rfl := hw_3
    rw [← hQ]
    exact W.iret (v := nI 0) hx hb hr (fun t ht hW => ⟨⟨nI 0, (), rfl, (congrArg Prod.snd (show spLacks n np F c0 k0 = (1, 0) from (by unfold spLacks; rw [c_2]; rfl))).symm, (by show va_P D vwCl (wM cI ad (nI (spLacks n np F c0 k0).1) n np nq F T) t.heap; rw [show spLacks n np F c0 k0 = (1, 0) from (by unfold spLacks; rw [c_2]; rfl), ht]; exact hP)⟩, hS.F ht⟩) hS.2.2 dX1_lacks_24
  · refine lv_iload_n hx hb dX1_lacks_12 rfl (lv_at hl 2 rfl) ?_
    refine va_calli (va_runS (As := [.int k0]) (rest := []) ⟨hx, hb, hml, hown, hts⟩ (c_X1_isKind l D k0 ) (va_cwS 1 hts gX1_lacks_X1_isKind rfl rfl rfl (by decide +kernel) ⟨Nat.le_trans (Nat.le_of_ble_eq_true rfl) hRf, Nat.le_trans (Nat.le_of_ble_eq_true rfl) hRl⟩) (pr_S (P_nil) hK [] rfl V0_at V0_c) rfl rfl hl.1 rfl (lv_room (Nat.le_of_ble_eq_true rfl)) dX1_lacks_13 ⟨Nat.le_trans (Nat.le_of_ble_eq_true rfl) hRc, Nat.le_trans (Nat.le_of_ble_eq_true rfl) hRs⟩) hS (fun _ _ h => h.elim) (fun _ h => h.elim) (fun r_4 _ t H1 locs ht hvm hw_4 hB hz hk hS => ?_)
    have hP := P_kept hP hk
    obtain rfl := hw_4
    refine nb_if_ne (tgt := 25) hx hb dX1_lacks_16 (by decide) (fun c_5 => ?_) (fun c_5 => ?_)
    · obtain ⟨k9, hk9, rfl⟩ := inR_t (by decide) c_5
      have hp9 := kP_le k9
      have hf9 := fC_le F np c0 (nI k9)
      refine lv_iload_n hx hb dX1_lacks_25 rfl (lv_at hl 2 rfl) ?_
      refine nv_if_ne (tgt := 33) hx hb (by omega) dX1_lacks_26 (by decide) (fun c_6 => ?_) (fun c_6 => ?_)
      · refine lv_aload_n hx hb dX1_lacks_33 rfl (lv_at hl 0 rfl) ?_
        refine lv_iload_n hx hb dX1_lacks_34 rfl (lv_at hl 1 rfl) ?_
        refine lv_iload_n hx hb dX1_lacks_35 rfl (lv_at hl 2 rfl) ?_
        refine va_calli (va_runV (As := [.int c0, .int (nI k9)]) (rest := []) ⟨hx, hb, hml, hown, hts⟩ (c_X1_free l D cI ad (nI 0) n np nq F T c0 (nI k9) hn hnp hsk) (cwV 2 hts gX1_lacks_X1_free rfl rfl rfl (by decide +kernel) ⟨Nat.le_trans (Nat.le_of_ble_eq_true rfl) hRf, Nat.le_trans (Nat.le_of_ble_eq_true rfl) hRl⟩) (pr_V hP (ci := 1) (q0 := 0) rfl m_at0 rfl hP hK [0] rfl V0_at V0_c) rfl rfl hl.1 rfl (lv_room (Nat.le_of_ble_eq_true rfl)) dX1_lacks_36 ⟨Nat.le_trans (Nat.le_of_ble_eq_true rfl) hRc, Nat.le_trans (Nat.le_of_ble_eq_true rfl) hRs⟩) hS (fun _ _ h => h.elim) (fun _ h => h.elim) (fun r_7 _ t H1 locs ht hvm hw_7 hB hz hk hS => ?_)
        have hP := P_kept hP hk
        obtain rfl := hw_7
        refine lv_istore_n (lv' := [(3, .int (nI (fC F np c0 (nI k9)))), (0, .ref (ad 0)), (1, .int c0), (2, .int (nI k9))]) hx hb dX1_lacks_39 rfl hl (by decide) rfl (fun ls hl => ?_)
        refine lv_iconst (v := nI 0) hx hb dX1_lacks_40 (by decide) ?_
        refine lv_istore (lv' := [(4, .int (nI 0)), (3, .int (nI (fC F np c0 (nI k9)))), (0, .ref (ad 0)), (1, .int c0), (2, .int (nI k9))]) hx hb dX1_lacks_41 hl (by decide) rfl (fun ls hl => ?_)
        have L43 : ∀ (fu : Nat) (k : Nat) (i9 : Nat) (H : Heap) (locs : List Loc) (ls : Array Slot), n - i9 < fu → (i9 ≤ n) → (k = if k9 = 0 then mxT F np c0 i9 else fC F np c0 (nI k9)) → (k ≤ 150) → va_P D vwCl (wM cI ad (nI 0) n np nq F T) H → va_D (inA ad 8) (wM cI ad (nI 0) n np nq F T) → va_S (inA ad 8) s.heap H locs → lv_has ls 5 [(0, .ref (ad 0)), (1, .int c0), (2, .int (nI k9)), (3, .int (nI k)), (4, .int (nI i9))] → W p l e R s m args below meth c H locs 0 0 Q (F0 m 43 ls []) := by
          intro fu
          induction fu with
          | zero => intro _ _ _ _ _ h; exact absurd h (Nat.not_lt_zero _)
          | succ fu ih43 =>
            intro k i9 H locs ls hm43 h1 h2 h3 hP hD hS hl
            refine lv_iload hx hb dX1_lacks_43 (lv_at hl 4 rfl) ?_
            refine lv_aload_n hx hb dX1_lacks_45 rfl (lv_at hl 0 rfl) ?_
            refine va_get (D := D) (ci := 1) (v := .int (nI n)) (C := RX1) (T := TX1) (N := 12) hx hb hts hiw hown hK hP 0 m_at0 rfl 1 (by decide) (hts (.fieldLink RX1 38 "GloveCuttersModel" "skins" "I") (by decide +kernel)) (fun _ h9 => h9) rfl dX1_lacks_46 ?_
            refine nv_icmp_ge (tgt := 84) hx hb (by omega) (by omega) dX1_lacks_49 (by decide) (fun c_8 => ?_) (fun c_8 => ?_)
            · refine lv_iconst (v := nI 0) hx hb dX1_lacks_84 (by decide) ?_
              obtain ⟨tb_NEEDS, hNEEDSZ, hNEEDST⟩ := hV.2.2
              refine va_gets hx hb hNEEDSZ hS hown (hts (.fieldLink RX1 116 "GloveCuttersModel" "NEEDS" "[I") (by decide +kernel)) (fun _ h9 => h9) dX1_lacks_85 ?_
              refine lv_iload_n hx hb dX1_lacks_88 rfl (lv_at hl 2 rfl) ?_
              refine nv_tab hx hb hNEEDST hS (by omega) dX1_lacks_89 ?_
              refine lv_iload_n hx hb dX1_lacks_90 rfl (lv_at hl 3 rfl) ?_
              refine lv_isub hx hb dX1_lacks_91 ?_
              refine va_mmax (rest := []) hx hb (hml.trans hl.1.symm) hown (hts (.methodLink RX1 147 Lib.Math.max.name) (by decide +kernel)) (hts (.static Lib.Math.max.name) (by decide +kernel)) (hts (.initialized "java/lang/Math") (by decide +kernel)) (hts (.code Lib.Math.max.name Lib.Math.max.code 2 (some .int)) (by decide +kernel)) (Nat.le_trans (Nat.le_of_ble_eq_true rfl) hRf) (Nat.le_trans (Nat.le_of_ble_eq_true rfl) hRl) (Nat.le_trans (Nat.le_of_ble_eq_true rfl) hRc) (Nat.le_trans (Nat.le_of_ble_eq_true rfl) hRs) dX1_lacks_92 ?_
              rw [max0_sub (by omega) (by omega)]
              rw [← hQ]
              exact W.iret (v := nI ((kP k9) - k)) hx hb hr (fun t ht hW => ⟨⟨nI ((kP k9) - k), (), rfl, (congrArg Prod.snd (show spLacks n np F c0 (nI k9) = (0, nI (kP k9 - k)) from (by rw [spLacks_y c_2 hk9]; unfold lkN; rw [show i9 = n by omega] at h2; rw [← h2]))).symm, (by show va_P D vwCl (wM cI ad (nI (spLacks n np F c0 (nI k9)).1) n np nq F T) t.heap; rw [show spLacks n np F c0 (nI k9) = (0, nI (kP k9 - k)) from (by rw [spLacks_y c_2 hk9]; unfold lkN; rw [show i9 = n by omega] at h2; rw [← h2]), ht]; exact hP)⟩, hS.F ht⟩) hS.2.2 dX1_lacks_95
            · refine lv_iload_n hx hb dX1_lacks_52 rfl (lv_at hl 2 rfl) ?_
              refine nv_if_ne (tgt := 84) hx hb (by omega) dX1_lacks_53 (by decide) (fun c_9 => ?_) (fun c_9 => ?_)
              · refine lv_iconst (v := nI 0) hx hb dX1_lacks_84 (by decide) ?_
                obtain ⟨tb_NEEDS, hNEEDSZ, hNEEDST⟩ := hV.2.2
                refine va_gets hx hb hNEEDSZ hS hown (hts (.fieldLink RX1 116 "GloveCuttersModel" "NEEDS" "[I") (by decide +kernel)) (fun _ h9 => h9) dX1_lacks_85 ?_
                refine lv_iload_n hx hb dX1_lacks_88 rfl (lv_at hl 2 rfl) ?_
                refine nv_tab hx hb hNEEDST hS (by omega) dX1_lacks_89 ?_
                refine lv_iload_n hx hb dX1_lacks_90 rfl (lv_at hl 3 rfl) ?_
                refine lv_isub hx hb dX1_lacks_91 ?_
                refine va_mmax (rest := []) hx hb (hml.trans hl.1.symm) hown (hts (.methodLink RX1 147 Lib.Math.max.name) (by decide +kernel)) (hts (.static Lib.Math.max.name) (by decide +kernel)) (hts (.initialized "java/lang/Math") (by decide +kernel)) (hts (.code Lib.Math.max.name Lib.Math.max.code 2 (some .int)) (by decide +kernel)) (Nat.le_trans (Nat.le_of_ble_eq_true rfl) hRf) (Nat.le_trans (Nat.le_of_ble_eq_true rfl) hRl) (Nat.le_trans (Nat.le_of_ble_eq_true rfl) hRc) (Nat.le_trans (Nat.le_of_ble_eq_true rfl) hRs) dX1_lacks_92 ?_
                rw [max0_sub (by omega) (by omega)]
                rw [← hQ]
                exact W.iret (v := nI ((kP k9) - k)) hx hb hr (fun t ht hW => ⟨⟨nI ((kP k9) - k), (), rfl, (congrArg Prod.snd (show spLacks n np F c0 (nI k9) = (0, nI (kP k9 - k)) from (by rw [spLacks_y c_2 hk9]; unfold lkN; rw [if_neg (by omega)] at h2; rw [if_neg (by omega)]; rw [← h2]))).symm, (by show va_P D vwCl (wM cI ad (nI (spLacks n np F c0 (nI k9)).1) n np nq F T) t.heap; rw [show spLacks n np F c0 (nI k9) = (0, nI (kP k9 - k)) from (by rw [spLacks_y c_2 hk9]; unfold lkN; rw [if_neg (by omega)] at h2; rw [if_neg (by omega)]; rw [← h2]), ht]; exact hP)⟩, hS.F ht⟩) hS.2.2 dX1_lacks_95
              · refine lv_aload_n hx hb dX1_lacks_56 rfl (lv_at hl 0 rfl) ?_
                refine va_get (D := D) (ci := 1) (v := .ref (ad 1)) (C := RX1) (T := TX1) (N := 12) hx hb hts hiw hown hK hP 0 m_at0 rfl 2 (by decide) (hts (.fieldLink RX1 9 "GloveCuttersModel" "colour" "[I") (by decide +kernel)) (fun _ h9 => h9) rfl dX1_lacks_57 ?_
                refine lv_iload hx hb dX1_lacks_60 (lv_at hl 4 rfl) ?_
                refine nv_iald hx hb hK hP 1 0 m_at1 rfl (by omega) (by omega) dX1_lacks_62 ?_
                refine lv_iload_n hx hb dX1_lacks_63 rfl (lv_at hl 1 rfl) ?_
                refine lv_icmp_ne (tgt := 78) hx hb dX1_lacks_64 (by decide) (fun c_10 => ?_) (fun c_10 => ?_)
                · refine lv_iinc (k := 4) (v := nI (i9 + 1)) (lv' := [(4, .int (nI (i9 + 1))), (0, .ref (ad 0)), (1, .int c0), (2, .int (nI k9)), (3, .int (nI k))]) hx hb dX1_lacks_78 hl rfl (nI_add i9 1) (by decide) rfl (fun ls hl => ?_)
                  refine lv_goto (tgt := 43) hx hb dX1_lacks_81 (by decide) ?_
                  exact ih43 k (i9 + 1) _ _ _ (by omega) (by omega) (by rw [if_pos c_9, mxT_f c_10]; rw [if_pos c_9] at h2; exact h2) h3 hP hD hS (lv_sub hl [1, 2, 3, 4, 0] rfl)
                · refine lv_iload_n hx hb dX1_lacks_67 rfl (lv_at hl 3 rfl) ?_
                  refine lv_aload_n hx hb dX1_lacks_68 rfl (lv_at hl 0 rfl) ?_
                  refine lv_iload hx hb dX1_lacks_69 (lv_at hl 4 rfl) ?_
                  refine va_calli (va_runV (As := [.int (nI i9)]) (rest := [.int (nI k)]) ⟨hx, hb, hml, hown, hts⟩ (c_X1_tranks l D cI ad (nI 0) n np nq F T i9 hn hnp hsk (by omega)) (cwV 1 hts gX1_lacks_X1_tranks rfl rfl rfl (by decide +kernel) ⟨Nat.le_trans (Nat.le_of_ble_eq_true rfl) hRf, Nat.le_trans (Nat.le_of_ble_eq_true rfl) hRl⟩) (pr_V hP (ci := 1) (q0 := 0) rfl m_at0 rfl hP hK [0] rfl V0_at V0_c) rfl rfl hl.1 rfl (lv_room (Nat.le_of_ble_eq_true rfl)) dX1_lacks_71 ⟨Nat.le_trans (Nat.le_of_ble_eq_true rfl) hRc, Nat.le_trans (Nat.le_of_ble_eq_true rfl) hRs⟩) hS (fun _ _ h => h.elim) (fun _ h => h.elim) (fun r_11 _ t H1 locs ht hvm hw_11 hB hz hk hS => ?_)
                  have hP := P_kept hP hk
                  obtain rfl := hw_11
                  have hb9 := fT_le F np i9
                  refine va_mmax (rest := []) hx hb (hml.trans hl.1.symm) hown (hts (.methodLink RX1 147 Lib.Math.max.name) (by decide +kernel)) (hts (.static Lib.Math.max.name) (by decide +kernel)) (hts (.initialized "java/lang/Math") (by decide +kernel)) (hts (.code Lib.Math.max.name Lib.Math.max.code 2 (some .int)) (by decide +kernel)) (Nat.le_trans (Nat.le_of_ble_eq_true rfl) hRf) (Nat.le_trans (Nat.le_of_ble_eq_true rfl) hRl) (Nat.le_trans (Nat.le_of_ble_eq_true rfl) hRc) (Nat.le_trans (Nat.le_of_ble_eq_true rfl) hRs) dX1_lacks_74 ?_
                  rw [nI_max (by omega) (by omega)]
                  refine lv_istore_n (lv' := [(3, .int (nI (max k (fT F np i9)))), (0, .ref (ad 0)), (1, .int c0), (2, .int (nI k9)), (4, .int (nI i9))]) hx hb dX1_lacks_77 rfl hl (by decide) rfl (fun ls hl => ?_)
                  refine lv_iinc (k := 4) (v := nI (i9 + 1)) (lv' := [(4, .int (nI (i9 + 1))), (3, .int (nI (max k (fT F np i9)))), (0, .ref (ad 0)), (1, .int c0), (2, .int (nI k9))]) hx hb dX1_lacks_78 hl rfl (nI_add i9 1) (by decide) rfl (fun ls hl => ?_)
                  refine lv_goto (tgt := 43) hx hb dX1_lacks_81 (by decide) ?_
                  exact ih43 (max k (fT F np i9)) (i9 + 1) _ _ _ (by omega) (by omega) (by rw [if_pos c_9, mxT_t c_10]; rw [if_pos c_9] at h2; rw [← h2]) (Nat.max_le.mpr ⟨h3, by omega⟩) hP hD hS (lv_sub hl [2, 3, 4, 1, 0] rfl)
        exact L43 _ (fC F np c0 (nI k9)) 0 _ _ _ (Nat.lt_succ_self _) (by omega) (by rw [if_neg (by omega)]) (by omega) hP hD hS (lv_sub hl [2, 3, 4, 1, 0] rfl)
      · refine lv_iconst (v := nI 0) hx hb dX1_lacks_29 (by decide) ?_
        refine lv_goto (tgt := 39) hx hb dX1_lacks_30 (by decide) ?_
        refine lv_istore_n (lv' := [(3, .int (nI 0)), (0, .ref (ad 0)), (1, .int c0), (2, .int (nI k9))]) hx hb dX1_lacks_39 rfl hl (by decide) rfl (fun ls hl => ?_)
        refine lv_iconst (v := nI 0) hx hb dX1_lacks_40 (by decide) ?_
        refine lv_istore (lv' := [(4, .int (nI 0)), (3, .int (nI 0)), (0, .ref (ad 0)), (1, .int c0), (2, .int (nI k9))]) hx hb dX1_lacks_41 hl (by decide) rfl (fun ls hl => ?_)
        have L43 : ∀ (fu : Nat) (k : Nat) (i9 : Nat) (H : Heap) (locs : List Loc) (ls : Array Slot), n - i9 < fu → (i9 ≤ n) → (k = if k9 = 0 then mxT F np c0 i9 else fC F np c0 (nI k9)) → (k ≤ 150) → va_P D vwCl (wM cI ad (nI 0) n np nq F T) H → va_D (inA ad 8) (wM cI ad (nI 0) n np nq F T) → va_S (inA ad 8) s.heap H locs → lv_has ls 5 [(0, .ref (ad 0)), (1, .int c0), (2, .int (nI k9)), (3, .int (nI k)), (4, .int (nI i9))] → W p l e R s m args below meth c H locs 0 0 Q (F0 m 43 ls []) := by
          intro fu
          induction fu with
          | zero => intro _ _ _ _ _ h; exact absurd h (Nat.not_lt_zero _)
          | succ fu ih43 =>
            intro k i9 H locs ls hm43 h1 h2 h3 hP hD hS hl
            refine lv_iload hx hb dX1_lacks_43 (lv_at hl 4 rfl) ?_
            refine lv_aload_n hx hb dX1_lacks_45 rfl (lv_at hl 0 rfl) ?_
            refine va_get (D := D) (ci := 1) (v := .int (nI n)) (C := RX1) (T := TX1) (N := 12) hx hb hts hiw hown hK hP 0 m_at0 rfl 1 (by decide) (hts (.fieldLink RX1 38 "GloveCuttersModel" "skins" "I") (by decide +kernel)) (fun _ h9 => h9) rfl dX1_lacks_46 ?_
            refine nv_icmp_ge (tgt := 84) hx hb (by omega) (by omega) dX1_lacks_49 (by decide) (fun c_12 => ?_) (fun c_12 => ?_)
            · refine lv_iconst (v := nI 0) hx hb dX1_lacks_84 (by decide) ?_
              obtain ⟨tb_NEEDS, hNEEDSZ, hNEEDST⟩ := hV.2.2
              refine va_gets hx hb hNEEDSZ hS hown (hts (.fieldLink RX1 116 "GloveCuttersModel" "NEEDS" "[I") (by decide +kernel)) (fun _ h9 => h9) dX1_lacks_85 ?_
              refine lv_iload_n hx hb dX1_lacks_88 rfl (lv_at hl 2 rfl) ?_
              refine nv_tab hx hb hNEEDST hS (by omega) dX1_lacks_89 ?_
              refine lv_iload_n hx hb dX1_lacks_90 rfl (lv_at hl 3 rfl) ?_
              refine lv_isub hx hb dX1_lacks_91 ?_
              refine va_mmax (rest := []) hx hb (hml.trans hl.1.symm) hown (hts (.methodLink RX1 147 Lib.Math.max.name) (by decide +kernel)) (hts (.static Lib.Math.max.name) (by decide +kernel)) (hts (.initialized "java/lang/Math") (by decide +kernel)) (hts (.code Lib.Math.max.name Lib.Math.max.code 2 (some .int)) (by decide +kernel)) (Nat.le_trans (Nat.le_of_ble_eq_true rfl) hRf) (Nat.le_trans (Nat.le_of_ble_eq_true rfl) hRl) (Nat.le_trans (Nat.le_of_ble_eq_true rfl) hRc) (Nat.le_trans (Nat.le_of_ble_eq_true rfl) hRs) dX1_lacks_92 ?_
              rw [max0_sub (by omega) (by omega)]
              rw [← hQ]
              exact W.iret (v := nI ((kP k9) - k)) hx hb hr (fun t ht hW => ⟨⟨nI ((kP k9) - k), (), rfl, (congrArg Prod.snd (show spLacks n np F c0 (nI k9) = (0, nI (kP k9 - k)) from (by rw [spLacks_y c_2 hk9]; unfold lkN; rw [show i9 = n by omega] at h2; rw [← h2]))).symm, (by show va_P D vwCl (wM cI ad (nI (spLacks n np F c0 (nI k9)).1) n np nq F T) t.heap; rw [show spLacks n np F c0 (nI k9) = (0, nI (kP k9 - k)) from (by rw [spLacks_y c_2 hk9]; unfold lkN; rw [show i9 = n by omega] at h2; rw [← h2]), ht]; exact hP)⟩, hS.F ht⟩) hS.2.2 dX1_lacks_95
            · refine lv_iload_n hx hb dX1_lacks_52 rfl (lv_at hl 2 rfl) ?_
              refine nv_if_ne (tgt := 84) hx hb (by omega) dX1_lacks_53 (by decide) (fun c_13 => ?_) (fun c_13 => ?_)
              · refine lv_iconst (v := nI 0) hx hb dX1_lacks_84 (by decide) ?_
                obtain ⟨tb_NEEDS, hNEEDSZ, hNEEDST⟩ := hV.2.2
                refine va_gets hx hb hNEEDSZ hS hown (hts (.fieldLink RX1 116 "GloveCuttersModel" "NEEDS" "[I") (by decide +kernel)) (fun _ h9 => h9) dX1_lacks_85 ?_
                refine lv_iload_n hx hb dX1_lacks_88 rfl (lv_at hl 2 rfl) ?_
                refine nv_tab hx hb hNEEDST hS (by omega) dX1_lacks_89 ?_
                refine lv_iload_n hx hb dX1_lacks_90 rfl (lv_at hl 3 rfl) ?_
                refine lv_isub hx hb dX1_lacks_91 ?_
                refine va_mmax (rest := []) hx hb (hml.trans hl.1.symm) hown (hts (.methodLink RX1 147 Lib.Math.max.name) (by decide +kernel)) (hts (.static Lib.Math.max.name) (by decide +kernel)) (hts (.initialized "java/lang/Math") (by decide +kernel)) (hts (.code Lib.Math.max.name Lib.Math.max.code 2 (some .int)) (by decide +kernel)) (Nat.le_trans (Nat.le_of_ble_eq_true rfl) hRf) (Nat.le_trans (Nat.le_of_ble_eq_true rfl) hRl) (Nat.le_trans (Nat.le_of_ble_eq_true rfl) hRc) (Nat.le_trans (Nat.le_of_ble_eq_true rfl) hRs) dX1_lacks_92 ?_
                rw [max0_sub (by omega) (by omega)]
                rw [← hQ]
                exact W.iret (v := nI ((kP k9) - k)) hx hb hr (fun t ht hW => ⟨⟨nI ((kP k9) - k), (), rfl, (congrArg Prod.snd (show spLacks n np F c0 (nI k9) = (0, nI (kP k9 - k)) from (by rw [spLacks_y c_2 hk9]; unfold lkN; rw [if_neg (by omega)] at h2; rw [if_neg (by omega)]; rw [← h2]))).symm, (by show va_P D vwCl (wM cI ad (nI (spLacks n np F c0 (nI k9)).1) n np nq F T) t.heap; rw [show spLacks n np F c0 (nI k9) = (0, nI (kP k9 - k)) from (by rw [spLacks_y c_2 hk9]; unfold lkN; rw [if_neg (by omega)] at h2; rw [if_neg (by omega)]; rw [← h2]), ht]; exact hP)⟩, hS.F ht⟩) hS.2.2 dX1_lacks_95
              · refine lv_aload_n hx hb dX1_lacks_56 rfl (lv_at hl 0 rfl) ?_
                refine va_get (D := D) (ci := 1) (v := .ref (ad 1)) (C := RX1) (T := TX1) (N := 12) hx hb hts hiw hown hK hP 0 m_at0 rfl 2 (by decide) (hts (.fieldLink RX1 9 "GloveCuttersModel" "colour" "[I") (by decide +kernel)) (fun _ h9 => h9) rfl dX1_lacks_57 ?_
                refine lv_iload hx hb dX1_lacks_60 (lv_at hl 4 rfl) ?_
                refine nv_iald hx hb hK hP 1 0 m_at1 rfl (by omega) (by omega) dX1_lacks_62 ?_
                refine lv_iload_n hx hb dX1_lacks_63 rfl (lv_at hl 1 rfl) ?_
                refine lv_icmp_ne (tgt := 78) hx hb dX1_lacks_64 (by decide) (fun c_14 => ?_) (fun c_14 => ?_)
                · refine lv_iinc (k := 4) (v := nI (i9 + 1)) (lv' := [(4, .int (nI (i9 + 1))), (0, .ref (ad 0)), (1, .int c0), (2, .int (nI k9)), (3, .int (nI k))]) hx hb dX1_lacks_78 hl rfl (nI_add i9 1) (by decide) rfl (fun ls hl => ?_)
                  refine lv_goto (tgt := 43) hx hb dX1_lacks_81 (by decide) ?_
                  exact ih43 k (i9 + 1) _ _ _ (by omega) (by omega) (by rw [if_pos c_13, mxT_f c_14]; rw [if_pos c_13] at h2; exact h2) h3 hP hD hS (lv_sub hl [1, 2, 3, 4, 0] rfl)
                · refine lv_iload_n hx hb dX1_lacks_67 rfl (lv_at hl 3 rfl) ?_
                  refine lv_aload_n hx hb dX1_lacks_68 rfl (lv_at hl 0 rfl) ?_
                  refine lv_iload hx hb dX1_lacks_69 (lv_at hl 4 rfl) ?_
                  refine va_calli (va_runV (As := [.int (nI i9)]) (rest := [.int (nI k)]) ⟨hx, hb, hml, hown, hts⟩ (c_X1_tranks l D cI ad (nI 0) n np nq F T i9 hn hnp hsk (by omega)) (cwV 1 hts gX1_lacks_X1_tranks rfl rfl rfl (by decide +kernel) ⟨Nat.le_trans (Nat.le_of_ble_eq_true rfl) hRf, Nat.le_trans (Nat.le_of_ble_eq_true rfl) hRl⟩) (pr_V hP (ci := 1) (q0 := 0) rfl m_at0 rfl hP hK [0] rfl V0_at V0_c) rfl rfl hl.1 rfl (lv_room (Nat.le_of_ble_eq_true rfl)) dX1_lacks_71 ⟨Nat.le_trans (Nat.le_of_ble_eq_true rfl) hRc, Nat.le_trans (Nat.le_of_ble_eq_true rfl) hRs⟩) hS (fun _ _ h => h.elim) (fun _ h => h.elim) (fun r_15 _ t H1 locs ht hvm hw_15 hB hz hk hS => ?_)
                  have hP := P_kept hP hk
                  obtain rfl := hw_15
                  have hb9 := fT_le F np i9
                  refine va_mmax (rest := []) hx hb (hml.trans hl.1.symm) hown (hts (.methodLink RX1 147 Lib.Math.max.name) (by decide +kernel)) (hts (.static Lib.Math.max.name) (by decide +kernel)) (hts (.initialized "java/lang/Math") (by decide +kernel)) (hts (.code Lib.Math.max.name Lib.Math.max.code 2 (some .int)) (by decide +kernel)) (Nat.le_trans (Nat.le_of_ble_eq_true rfl) hRf) (Nat.le_trans (Nat.le_of_ble_eq_true rfl) hRl) (Nat.le_trans (Nat.le_of_ble_eq_true rfl) hRc) (Nat.le_trans (Nat.le_of_ble_eq_true rfl) hRs) dX1_lacks_74 ?_
                  rw [nI_max (by omega) (by omega)]
                  refine lv_istore_n (lv' := [(3, .int (nI (max k (fT F np i9)))), (0, .ref (ad 0)), (1, .int c0), (2, .int (nI k9)), (4, .int (nI i9))]) hx hb dX1_lacks_77 rfl hl (by decide) rfl (fun ls hl => ?_)
                  refine lv_iinc (k := 4) (v := nI (i9 + 1)) (lv' := [(4, .int (nI (i9 + 1))), (3, .int (nI (max k (fT F np i9)))), (0, .ref (ad 0)), (1, .int c0), (2, .int (nI k9))]) hx hb dX1_lacks_78 hl rfl (nI_add i9 1) (by decide) rfl (fun ls hl => ?_)
                  refine lv_goto (tgt := 43) hx hb dX1_lacks_81 (by decide) ?_
                  exact ih43 (max k (fT F np i9)) (i9 + 1) _ _ _ (by omega) (by omega) (by rw [if_pos c_13, mxT_t c_14]; rw [if_pos c_13] at h2; rw [← h2]) (Nat.max_le.mpr ⟨h3, by omega⟩) hP hD hS (lv_sub hl [2, 3, 4, 1, 0] rfl)
        exact L43 _ 0 0 _ _ _ (Nat.lt_succ_self _) (by omega) (by rw [if_pos c_6]; rfl) (by omega) hP hD hS (lv_sub hl [2, 3, 4, 1, 0] rfl)
    · refine lv_aload_n hx hb dX1_lacks_19 rfl (lv_at hl 0 rfl) ?_
      refine lv_iconst (v := nI 1) hx hb dX1_lacks_20 (by decide) ?_
      refine va_calli (va_runV (As := [.int (nI 1)]) (rest := []) ⟨hx, hb, hml, hown, hts⟩ (c_X1_no l D cI ad (nI 0) n np nq F T 1 hinj) (cwV 1 hts gX1_lacks_X1_no rfl rfl rfl (by decide +kernel) ⟨Nat.le_trans (Nat.le_of_ble_eq_true rfl) hRf, Nat.le_trans (Nat.le_of_ble_eq_true rfl) hRl⟩) (pr_V hP (ci := 1) (q0 := 0) rfl m_at0 rfl hP hK [0] rfl V0_at V0_c) rfl rfl hl.1 rfl (lv_room (Nat.le_of_ble_eq_true rfl)) dX1_lacks_21 ⟨Nat.le_trans (Nat.le_of_ble_eq_true rfl) hRc, Nat.le_trans (Nat.le_of_ble_eq_true rfl) hRs⟩) hS (fun _ _ h => h) (fun _ h => h) (fun r_16 _ t H1 locs ht hvm hw_16 hB hz hk hS => ?_)
      rw [ht] at hB
      have hP := hB
      have hP : va_P D vwCl (wM cI ad (nI 1) n np nq F T) H1 := hP
      have hD : va_D (inA ad 8) (wM cI ad (nI 1) n np nq F T) := m_D hinj
      obtain rfl := hw_16
      rw [← hQ]
      exact W.iret (v := nI 0) hx hb hr (fun t ht hW => ⟨⟨nI 0, (), rfl, (congrArg Prod.snd (show spLacks n np F c0 k0 = (1, 0) from (by unfold spLacks; rw [c_2, c_5]; rfl))).symm, (by show va_P D vwCl (wM cI ad (nI (spLacks n np F c0 k0).1) n np nq F T) t.heap; rw [show spLacks n np F c0 k0 = (1, 0) from (by unfold spLacks; rw [c_2, c_5]; rfl), ht]; exact hP)⟩, hS.F ht⟩) hS.2.2 dX1_lacks_24
set_option maxHeartbeats 4000000 in
set_option maxRecDepth 100000 in
/-- pairs -/
theorem c_X1_pairs (l : Launch) (D : va_G) (cI : ClassId) (ad : Nat → Nat) (th : Int32) (n np nq : Nat) (F : Nat → Nat → Int32) (T : Nat → Int32) (c0 : Int32) (hinj : inj ad 8) (hn : n ≤ 10) (hnp : np ≤ 150) (hsk : ∀ p, p < np → ∃ k, k < n ∧ F 4 p = nI k) : Met l yX1_pairs wsX1_pairs ({ frames := 2, cells := 0, slots := 0, locals := 47 } : Room) (va_Pc [.ref (ad 0), .int c0] (Pr D [(cI, .int)] (wM cI ad th n np nq F T) (EnvM (inA ad 8)))) (va_Qi (S := Unit) (fun (r : Int32) (_ : Unit) => r = (spPairs n np F c0).2) (fun (_ : Unit) (t : State) => va_P D vwCl (wM cI ad (nI (spPairs n np F c0).1) n np nq F T) t.heap) (inA ad 8)) 0 0 (inA ad 8) := by
  refine Met.ofW (cc := cX1_pairs) (maxL := 4) (ret := (some .int)) (by decide) rfl ?_
  intro p e s m args below meth c s₁ B hml hv
  obtain ⟨hargs, hP, hK, hV⟩ := hv
  have hx := B.exec
  have hb := B.bytes
  have hr := B.returns
  have hts := atoms_spec (ws := wsX1_pairs) B.pre
  have hown : s.vm.findClass RX1 = some m.cls := findClass_of_methodNamed B.named
  have hlocks := B.notSynchronized
  have hS : va_S (fun _ => False) s.heap s.heap [] := va_S.rf
  have hV0 : EnvM (fun _ => False) s := EnvM.nar hV sub_no
  have hiw : ∀ w ∈ wsX10, w ∈ wsX1_pairs := (fun _ h => List.mem_cons_of_mem _ (List.mem_append_right _ h))
  have hRf : 2 ≤ (headSpec wsX1_pairs ({ frames := 2, cells := 0, slots := 0, locals := 47 } : Room)).room.frames := Nat.le_refl _
  have hRl : 47 ≤ (headSpec wsX1_pairs ({ frames := 2, cells := 0, slots := 0, locals := 47 } : Room)).room.locals := Nat.le_refl _
  have hRc : 0 ≤ (headSpec wsX1_pairs ({ frames := 2, cells := 0, slots := 0, locals := 47 } : Room)).room.cells := Nat.le_refl _
  have hRs : 0 ≤ (headSpec wsX1_pairs ({ frames := 2, cells := 0, slots := 0, locals := 47 } : Room)).room.slots := Nat.le_refl _
  generalize (headSpec wsX1_pairs ({ frames := 2, cells := 0, slots := 0, locals := 47 } : Room)).room = R at hRf hRl hRc hRs ⊢
  have hl := lv_entry [.ref (ad 0), .int c0] (n := 4) (Nat.le_of_ble_eq_true rfl)
  refine W.eq (show entryFrame m args 4 = _ from by rw [hargs, lg_entry_eq]) ?_
  generalize (lg_sl [.ref (ad 0), .int c0] ++ List.replicate (4 - (lg_sl [.ref (ad 0), .int c0]).length) Slot.unset).toArray = ls at hl ⊢
  have hl : lv_has ls 4 [(0, .ref (ad 0)), (1, .int c0)] := hl
  have hD : va_D (inA ad 8) (wM cI ad th n np nq F T) := m_D hinj
  generalize hQ : MQ _ _ _ _ _ _ _ = Q
  refine lv_aload_n hx hb dX1_pairs_0 rfl (lv_at hl 0 rfl) ?_
  refine lv_iconst (v := nI 0) hx hb dX1_pairs_1 (by decide) ?_
  have hS : va_S (inA ad 8) s.heap _ _ := S_mono hS
  refine va_put (D := D) (ci := 1) (v := .int (nI 0)) (ty := .int) (C := RX1) (T := TX1) (N := 12) hx hb hts hiw tyX1 tyX1_ok nmX1 hown hK hP hD hS 0 m_at0 rfl 0 (by decide) (hts (.fieldLink RX1 34 "GloveCuttersModel" "thrown" "I") (by decide +kernel)) (fun _ h9 => h9) rfl (by decide +kernel) rfl rfl (Nat.le_of_ble_eq_true rfl) dX1_pairs_2 (fun H locs hP hD hS => ?_)
  have hP : va_P D vwCl (wM cI ad (nI 0) n np nq F T) H := hP
  have hD : va_D (inA ad 8) (wM cI ad (nI 0) n np nq F T) := hD
  refine lv_iload_n hx hb dX1_pairs_5 rfl (lv_at hl 1 rfl) ?_
  refine va_calli (va_runS (As := [.int c0]) (rest := []) ⟨hx, hb, hml, hown, hts⟩ (c_X1_isColour l D c0 ) (va_cwS 1 hts gX1_pairs_X1_isColour rfl rfl rfl (by decide +kernel) ⟨Nat.le_trans (Nat.le_of_ble_eq_true rfl) hRf, Nat.le_trans (Nat.le_of_ble_eq_true rfl) hRl⟩) (pr_S (P_nil) hK [] rfl V0_at V0_c) rfl rfl hl.1 rfl (lv_room (Nat.le_of_ble_eq_true rfl)) dX1_pairs_6 ⟨Nat.le_trans (Nat.le_of_ble_eq_true rfl) hRc, Nat.le_trans (Nat.le_of_ble_eq_true rfl) hRs⟩) hS (fun _ _ h => h.elim) (fun _ h => h.elim) (fun r_1 _ t H1 locs ht hvm hw_1 hB hz hk hS => ?_)
  have hP := P_kept hP hk
  obtain rfl := hw_1
  refine nb_if_ne (tgt := 18) hx hb dX1_pairs_9 (by decide) (fun c_2 => ?_) (fun c_2 => ?_)
  · refine lv_iconst (v := nI 0) hx hb dX1_pairs_18 (by decide) ?_
    refine lv_istore_n (lv' := [(2, .int (nI 0)), (0, .ref (ad 0)), (1, .int c0)]) hx hb dX1_pairs_19 rfl hl (by decide) rfl (fun ls hl => ?_)
    refine lv_iconst (v := nI 0) hx hb dX1_pairs_20 (by decide) ?_
    refine lv_istore_n (lv' := [(3, .int (nI 0)), (2, .int (nI 0)), (0, .ref (ad 0)), (1, .int c0)]) hx hb dX1_pairs_21 rfl hl (by decide) rfl (fun ls hl => ?_)
    have L22 : ∀ (fu : Nat) (k : Nat) (i9 : Nat) (H : Heap) (locs : List Loc) (ls : Array Slot), n - i9 < fu → (i9 ≤ n) → (k = tP F np c0 i9) → (k ≤ 150 * i9) → va_P D vwCl (wM cI ad (nI 0) n np nq F T) H → va_D (inA ad 8) (wM cI ad (nI 0) n np nq F T) → va_S (inA ad 8) s.heap H locs → lv_has ls 4 [(0, .ref (ad 0)), (1, .int c0), (2, .int (nI k)), (3, .int (nI i9))] → W p l e R s m args below meth c H locs 0 0 Q (F0 m 22 ls []) := by
      intro fu
      induction fu with
      | zero => intro _ _ _ _ _ h; exact absurd h (Nat.not_lt_zero _)
      | succ fu ih22 =>
        intro k i9 H locs ls hm22 h1 h2 h3 hP hD hS hl
        refine lv_iload_n hx hb dX1_pairs_22 rfl (lv_at hl 3 rfl) ?_
        refine lv_aload_n hx hb dX1_pairs_23 rfl (lv_at hl 0 rfl) ?_
        refine va_get (D := D) (ci := 1) (v := .int (nI n)) (C := RX1) (T := TX1) (N := 12) hx hb hts hiw hown hK hP 0 m_at0 rfl 1 (by decide) (hts (.fieldLink RX1 38 "GloveCuttersModel" "skins" "I") (by decide +kernel)) (fun _ h9 => h9) rfl dX1_pairs_24 ?_
        refine nv_icmp_ge (tgt := 60) hx hb (by omega) (by omega) dX1_pairs_27 (by decide) (fun c_3 => ?_) (fun c_3 => ?_)
        · refine lv_iconst (v := nI 1) hx hb dX1_pairs_60 (by decide) ?_
          refine lv_istore_n (lv' := [(3, .int (nI 1)), (0, .ref (ad 0)), (1, .int c0), (2, .int (nI k))]) hx hb dX1_pairs_61 rfl hl (by decide) rfl (fun ls hl => ?_)
          have L62 : ∀ (fu : Nat) (k2 : Nat) (q9 : Nat) (j9 : Nat) (H : Heap) (locs : List Loc) (ls : Array Slot), 4 - q9 < fu → (q9 = j9 + 1) → (q9 ≤ 4) → (k2 = prN F n np c0 j9) → (k2 ≤ 1500) → va_P D vwCl (wM cI ad (nI 0) n np nq F T) H → va_D (inA ad 8) (wM cI ad (nI 0) n np nq F T) → va_S (inA ad 8) s.heap H locs → lv_has ls 4 [(0, .ref (ad 0)), (1, .int c0), (2, .int (nI k2)), (3, .int (nI q9))] → W p l e R s m args below meth c H locs 0 0 Q (F0 m 62 ls []) := by
            intro fu
            induction fu with
            | zero => intro _ _ _ _ _ _ h; exact absurd h (Nat.not_lt_zero _)
            | succ fu ih62 =>
              intro k2 q9 j9 H locs ls hm62 g0 g1 g2 g3 hP hD hS hl
              refine lv_iload_n hx hb dX1_pairs_62 rfl (lv_at hl 3 rfl) ?_
              refine lv_iconst (v := nI 4) hx hb dX1_pairs_63 (by decide) ?_
              refine nv_icmp_ge (tgt := 90) hx hb (by omega) (by omega) dX1_pairs_64 (by decide) (fun c_4 => ?_) (fun c_4 => ?_)
              · refine lv_iload_n hx hb dX1_pairs_90 rfl (lv_at hl 2 rfl) ?_
                rw [← hQ]
                exact W.iret (v := nI k2) hx hb hr (fun t ht hW => ⟨⟨nI k2, (), rfl, (congrArg Prod.snd (show spPairs n np F c0 = (0, nI k2) from ((spPairs_y c_2).trans (by rw [g2, show j9 = 3 by omega])))).symm, (by show va_P D vwCl (wM cI ad (nI (spPairs n np F c0).1) n np nq F T) t.heap; rw [show spPairs n np F c0 = (0, nI k2) from ((spPairs_y c_2).trans (by rw [g2, show j9 = 3 by omega])), ht]; exact hP)⟩, hS.F ht⟩) hS.2.2 dX1_pairs_91
              · refine lv_iload_n hx hb dX1_pairs_67 rfl (lv_at hl 2 rfl) ?_
                refine lv_aload_n hx hb dX1_pairs_68 rfl (lv_at hl 0 rfl) ?_
                refine lv_iload_n hx hb dX1_pairs_69 rfl (lv_at hl 1 rfl) ?_
                refine lv_iload_n hx hb dX1_pairs_70 rfl (lv_at hl 3 rfl) ?_
                refine va_calli (va_runV (As := [.int c0, .int (nI q9)]) (rest := [.int (nI k2)]) ⟨hx, hb, hml, hown, hts⟩ (c_X1_free l D cI ad (nI 0) n np nq F T c0 (nI q9) hn hnp hsk) (cwV 2 hts gX1_pairs_X1_free rfl rfl rfl (by decide +kernel) ⟨Nat.le_trans (Nat.le_of_ble_eq_true rfl) hRf, Nat.le_trans (Nat.le_of_ble_eq_true rfl) hRl⟩) (pr_V hP (ci := 1) (q0 := 0) rfl m_at0 rfl hP hK [0] rfl V0_at V0_c) rfl rfl hl.1 rfl (lv_room (Nat.le_of_ble_eq_true rfl)) dX1_pairs_71 ⟨Nat.le_trans (Nat.le_of_ble_eq_true rfl) hRc, Nat.le_trans (Nat.le_of_ble_eq_true rfl) hRs⟩) hS (fun _ _ h => h.elim) (fun _ h => h.elim) (fun r_5 _ t H1 locs ht hvm hw_5 hB hz hk hS => ?_)
                have hP := P_kept hP hk
                obtain rfl := hw_5
                have hb8 := fC_le F np c0 (nI q9)
                have hb7 := kP_le q9
                have hb6 := Nat.div_le_self (fC F np c0 (nI q9)) (kP q9)
                obtain ⟨tb_NEEDS, hNEEDSZ, hNEEDST⟩ := hV.2.2
                refine va_gets hx hb hNEEDSZ hS hown (hts (.fieldLink RX1 116 "GloveCuttersModel" "NEEDS" "[I") (by decide +kernel)) (fun _ h9 => h9) dX1_pairs_74 ?_
                refine lv_iload_n hx hb dX1_pairs_77 rfl (lv_at hl 3 rfl) ?_
                refine nv_tab hx hb hNEEDST hS (by omega) dX1_pairs_78 ?_
                refine nv_idiv hx hb (by omega) (by omega) (by omega) dX1_pairs_79 ?_
                refine va_mmin (rest := []) hx hb (hml.trans hl.1.symm) hown (hts (.methodLink RX1 152 Lib.Math.min.name) (by decide +kernel)) (hts (.static Lib.Math.min.name) (by decide +kernel)) (hts (.initialized "java/lang/Math") (by decide +kernel)) (hts (.code Lib.Math.min.name Lib.Math.min.code 2 (some .int)) (by decide +kernel)) (Nat.le_trans (Nat.le_of_ble_eq_true rfl) hRf) (Nat.le_trans (Nat.le_of_ble_eq_true rfl) hRl) (Nat.le_trans (Nat.le_of_ble_eq_true rfl) hRc) (Nat.le_trans (Nat.le_of_ble_eq_true rfl) hRs) dX1_pairs_80 ?_
                rw [nI_min (by omega) (by omega)]
                refine lv_istore_n (lv' := [(2, .int (nI (min ((fC F np c0 (nI q9)) / (kP q9)) k2))), (0, .ref (ad 0)), (1, .int c0), (3, .int (nI q9))]) hx hb dX1_pairs_83 rfl hl (by decide) rfl (fun ls hl => ?_)
                refine lv_iinc (k := 3) (v := nI (q9 + 1)) (lv' := [(3, .int (nI (q9 + 1))), (2, .int (nI (min ((fC F np c0 (nI q9)) / (kP q9)) k2))), (0, .ref (ad 0)), (1, .int c0)]) hx hb dX1_pairs_84 hl rfl (nI_add q9 1) (by decide) rfl (fun ls hl => ?_)
                refine lv_goto (tgt := 62) hx hb dX1_pairs_87 (by decide) ?_
                exact ih62 (min ((fC F np c0 (nI q9)) / (kP q9)) k2) (q9 + 1) (j9 + 1) _ _ _ (by omega) (by omega) (by omega) (by rw [g2, g0, Nat.min_comm]; rfl) (Nat.le_trans (Nat.min_le_right _ _) g3) hP hD hS (lv_sub hl [2, 3, 1, 0] rfl)
          exact L62 _ k 1 0 _ _ _ (Nat.lt_succ_self _) rfl (by omega) (by rw [h2, show i9 = n by omega]; rfl) (by omega) hP hD hS (lv_sub hl [1, 2, 3, 0] rfl)
        · refine lv_iload_n hx hb dX1_pairs_30 rfl (lv_at hl 2 rfl) ?_
          refine lv_aload_n hx hb dX1_pairs_31 rfl (lv_at hl 0 rfl) ?_
          refine va_get (D := D) (ci := 1) (v := .ref (ad 1)) (C := RX1) (T := TX1) (N := 12) hx hb hts hiw hown hK hP 0 m_at0 rfl 2 (by decide) (hts (.fieldLink RX1 9 "GloveCuttersModel" "colour" "[I") (by decide +kernel)) (fun _ h9 => h9) rfl dX1_pairs_32 ?_
          refine lv_iload_n hx hb dX1_pairs_35 rfl (lv_at hl 3 rfl) ?_
          refine nv_iald hx hb hK hP 1 0 m_at1 rfl (by omega) (by omega) dX1_pairs_36 ?_
          refine lv_iload_n hx hb dX1_pairs_37 rfl (lv_at hl 1 rfl) ?_
          refine lv_icmp_ne (tgt := 51) hx hb dX1_pairs_38 (by decide) (fun c_6 => ?_) (fun c_6 => ?_)
          · refine lv_iconst (v := nI 0) hx hb dX1_pairs_51 (by decide) ?_
            refine nv_iadd hx hb dX1_pairs_52 ?_
            refine lv_istore_n (lv' := [(2, .int (nI (k + 0))), (0, .ref (ad 0)), (1, .int c0), (3, .int (nI i9))]) hx hb dX1_pairs_53 rfl hl (by decide) rfl (fun ls hl => ?_)
            refine lv_iinc (k := 3) (v := nI (i9 + 1)) (lv' := [(3, .int (nI (i9 + 1))), (2, .int (nI (k + 0))), (0, .ref (ad 0)), (1, .int c0)]) hx hb dX1_pairs_54 hl rfl (nI_add i9 1) (by decide) rfl (fun ls hl => ?_)
            refine lv_goto (tgt := 22) hx hb dX1_pairs_57 (by decide) ?_
            exact ih22 (k + 0) (i9 + 1) _ _ _ (by omega) (by omega) (by rw [tP_f c_6]; exact h2) (by omega) hP hD hS (lv_sub hl [2, 3, 1, 0] rfl)
          · refine lv_aload_n hx hb dX1_pairs_41 rfl (lv_at hl 0 rfl) ?_
            refine lv_iload_n hx hb dX1_pairs_42 rfl (lv_at hl 3 rfl) ?_
            refine va_calli (va_runV (As := [.int (nI i9)]) (rest := [.int (nI k)]) ⟨hx, hb, hml, hown, hts⟩ (c_X1_tranks l D cI ad (nI 0) n np nq F T i9 hn hnp hsk (by omega)) (cwV 1 hts gX1_pairs_X1_tranks rfl rfl rfl (by decide +kernel) ⟨Nat.le_trans (Nat.le_of_ble_eq_true rfl) hRf, Nat.le_trans (Nat.le_of_ble_eq_true rfl) hRl⟩) (pr_V hP (ci := 1) (q0 := 0) rfl m_at0 rfl hP hK [0] rfl V0_at V0_c) rfl rfl hl.1 rfl (lv_room (Nat.le_of_ble_eq_true rfl)) dX1_pairs_43 ⟨Nat.le_trans (Nat.le_of_ble_eq_true rfl) hRc, Nat.le_trans (Nat.le_of_ble_eq_true rfl) hRs⟩) hS (fun _ _ h => h.elim) (fun _ h => h.elim) (fun r_7 _ t H1 locs ht hvm hw_7 hB hz hk hS => ?_)
            have hP := P_kept hP hk
            obtain rfl := hw_7
            have hb9 := fT_le F np i9
            refine lv_iconst (v := nI 2) hx hb dX1_pairs_46 (by decide) ?_
            refine nv_idiv hx hb (by omega) (by omega) (by omega) dX1_pairs_47 ?_
            refine lv_goto (tgt := 52) hx hb dX1_pairs_48 (by decide) ?_
            refine nv_iadd hx hb dX1_pairs_52 ?_
            refine lv_istore_n (lv' := [(2, .int (nI (k + ((fT F np i9) / 2)))), (0, .ref (ad 0)), (1, .int c0), (3, .int (nI i9))]) hx hb dX1_pairs_53 rfl hl (by decide) rfl (fun ls hl => ?_)
            refine lv_iinc (k := 3) (v := nI (i9 + 1)) (lv' := [(3, .int (nI (i9 + 1))), (2, .int (nI (k + ((fT F np i9) / 2)))), (0, .ref (ad 0)), (1, .int c0)]) hx hb dX1_pairs_54 hl rfl (nI_add i9 1) (by decide) rfl (fun ls hl => ?_)
            refine lv_goto (tgt := 22) hx hb dX1_pairs_57 (by decide) ?_
            exact ih22 (k + ((fT F np i9) / 2)) (i9 + 1) _ _ _ (by omega) (by omega) (by rw [tP_t c_6, ← h2]) (by omega) hP hD hS (lv_sub hl [2, 3, 1, 0] rfl)
    exact L22 _ 0 0 _ _ _ (Nat.lt_succ_self _) (by omega) rfl (by omega) hP hD hS (lv_sub hl [2, 3, 1, 0] rfl)
  · refine lv_aload_n hx hb dX1_pairs_12 rfl (lv_at hl 0 rfl) ?_
    refine lv_iconst (v := nI 1) hx hb dX1_pairs_13 (by decide) ?_
    refine va_calli (va_runV (As := [.int (nI 1)]) (rest := []) ⟨hx, hb, hml, hown, hts⟩ (c_X1_no l D cI ad (nI 0) n np nq F T 1 hinj) (cwV 1 hts gX1_pairs_X1_no rfl rfl rfl (by decide +kernel) ⟨Nat.le_trans (Nat.le_of_ble_eq_true rfl) hRf, Nat.le_trans (Nat.le_of_ble_eq_true rfl) hRl⟩) (pr_V hP (ci := 1) (q0 := 0) rfl m_at0 rfl hP hK [0] rfl V0_at V0_c) rfl rfl hl.1 rfl (lv_room (Nat.le_of_ble_eq_true rfl)) dX1_pairs_14 ⟨Nat.le_trans (Nat.le_of_ble_eq_true rfl) hRc, Nat.le_trans (Nat.le_of_ble_eq_true rfl) hRs⟩) hS (fun _ _ h => h) (fun _ h => h) (fun r_8 _ t H1 locs ht hvm hw_8 hB hz hk hS => ?_)
    rw [ht] at hB
    have hP := hB
    have hP : va_P D vwCl (wM cI ad (nI 1) n np nq F T) H1 := hP
    have hD : va_D (inA ad 8) (wM cI ad (nI 1) n np nq F T) := m_D hinj
    obtain rfl := hw_8
    rw [← hQ]
    exact W.iret (v := nI 0) hx hb hr (fun t ht hW => ⟨⟨nI 0, (), rfl, (congrArg Prod.snd (show spPairs n np F c0 = (1, 0) from (by unfold spPairs; rw [c_2]; rfl))).symm, (by show va_P D vwCl (wM cI ad (nI (spPairs n np F c0).1) n np nq F T) t.heap; rw [show spPairs n np F c0 = (1, 0) from (by unfold spPairs; rw [c_2]; rfl), ht]; exact hP)⟩, hS.F ht⟩) hS.2.2 dX1_pairs_17
