set_option maxHeartbeats 4000000 in
set_option maxRecDepth 100000 in
/-- mark -/
theorem c_X1_mark (l : Launch) (D : va_G) (cI : ClassId) (ad : Nat → Nat) (th : Int32) (n np nq : Nat) (F : Nat → Nat → Int32) (T : Nat → Int32) (s0 x0 y0 w0 h0 v0 : Int32) (hinj : inj ad 8) (hn : n ≤ 10) : Met l yX1_mark wsX1_mark ({ frames := 3, cells := 0, slots := 0, locals := 66 } : Room) (va_Pc [.ref (ad 0), .int s0, .int x0, .int y0, .int w0, .int h0, .int v0] (Pr D [(cI, .int)] (wM cI ad th n np nq F T) V0)) (va_Qi (S := Unit) (fun (r : Int32) (_ : Unit) => r = (spMark n F s0 x0 y0 w0 h0 v0).2) (fun (_ : Unit) (t : State) => va_P D vwCl (if (spMark n F s0 x0 y0 w0 h0 v0).1 = 0 then wM cI ad (nI 0) n np nq (stMark F s0 x0 y0 w0 h0 v0) T else wM cI ad (nI (spMark n F s0 x0 y0 w0 h0 v0).1) n np nq F T) t.heap) (inA ad 8)) 0 0 (inA ad 8) := by
  refine Met.ofW (cc := cX1_mark) (maxL := 9) (ret := (some .int)) (by decide) rfl ?_
  intro p e s m args below meth c s₁ B hml hv
  obtain ⟨hargs, hP, hK, hV⟩ := hv
  have hx := B.exec
  have hb := B.bytes
  have hr := B.returns
  have hts := atoms_spec (ws := wsX1_mark) B.pre
  have hown : s.vm.findClass RX1 = some m.cls := findClass_of_methodNamed B.named
  have hlocks := B.notSynchronized
  have hS : va_S (fun _ => False) s.heap s.heap [] := va_S.rf
  have hiw : ∀ w ∈ wsX10, w ∈ wsX1_mark := (fun _ h => List.mem_cons_of_mem _ (List.mem_append_right _ h))
  have hRf : 3 ≤ (headSpec wsX1_mark ({ frames := 3, cells := 0, slots := 0, locals := 66 } : Room)).room.frames := Nat.le_refl _
  have hRl : 66 ≤ (headSpec wsX1_mark ({ frames := 3, cells := 0, slots := 0, locals := 66 } : Room)).room.locals := Nat.le_refl _
  have hRc : 0 ≤ (headSpec wsX1_mark ({ frames := 3, cells := 0, slots := 0, locals := 66 } : Room)).room.cells := Nat.le_refl _
  have hRs : 0 ≤ (headSpec wsX1_mark ({ frames := 3, cells := 0, slots := 0, locals := 66 } : Room)).room.slots := Nat.le_refl _
  generalize (headSpec wsX1_mark ({ frames := 3, cells := 0, slots := 0, locals := 66 } : Room)).room = R at hRf hRl hRc hRs ⊢
  have hl := lv_entry [.ref (ad 0), .int s0, .int x0, .int y0, .int w0, .int h0, .int v0] (n := 9) (Nat.le_of_ble_eq_true rfl)
  refine W.eq (show entryFrame m args 9 = _ from by rw [hargs, lg_entry_eq]) ?_
  generalize (lg_sl [.ref (ad 0), .int s0, .int x0, .int y0, .int w0, .int h0, .int v0] ++ List.replicate (9 - (lg_sl [.ref (ad 0), .int s0, .int x0, .int y0, .int w0, .int h0, .int v0]).length) Slot.unset).toArray = ls at hl ⊢
  have hl : lv_has ls 9 [(0, .ref (ad 0)), (1, .int s0), (2, .int x0), (3, .int y0), (4, .int w0), (5, .int h0), (6, .int v0)] := hl
  have hD : va_D (inA ad 8) (wM cI ad th n np nq F T) := m_D hinj
  generalize hQ : MQ _ _ _ _ _ _ _ = Q
  refine lv_aload_n hx hb dX1_mark_0 rfl (lv_at hl 0 rfl) ?_
  refine lv_iconst (v := nI 0) hx hb dX1_mark_1 (by decide) ?_
  have hS : va_S (inA ad 8) s.heap _ _ := S_mono hS
  refine va_put (D := D) (ci := 1) (v := .int (nI 0)) (ty := .int) (C := RX1) (T := TX1) (N := 12) hx hb hts hiw tyX1 tyX1_ok nmX1 hown hK hP hD hS 0 m_at0 rfl 0 (by decide) (hts (.fieldLink RX1 34 "GloveCuttersModel" "thrown" "I") (by decide +kernel)) (fun _ h9 => h9) rfl (by decide +kernel) rfl rfl (Nat.le_of_ble_eq_true rfl) dX1_mark_2 (fun H locs hP hD hS => ?_)
  have hP : va_P D vwCl (wM cI ad (nI 0) n np nq F T) H := hP
  have hD : va_D (inA ad 8) (wM cI ad (nI 0) n np nq F T) := hD
  refine lv_aload_n hx hb dX1_mark_5 rfl (lv_at hl 0 rfl) ?_
  refine lv_iload_n hx hb dX1_mark_6 rfl (lv_at hl 1 rfl) ?_
  refine lv_iload_n hx hb dX1_mark_7 rfl (lv_at hl 2 rfl) ?_
  refine lv_iload_n hx hb dX1_mark_8 rfl (lv_at hl 3 rfl) ?_
  refine va_calli (va_runV (As := [.int s0, .int x0, .int y0]) (rest := []) ⟨hx, hb, hml, hown, hts⟩ (c_X1_isCell l D cI ad (nI 0) n np nq F T s0 x0 y0 hn) (cwV 3 hts gX1_mark_X1_isCell rfl rfl rfl (by decide +kernel) ⟨Nat.le_trans (Nat.le_of_ble_eq_true rfl) hRf, Nat.le_trans (Nat.le_of_ble_eq_true rfl) hRl⟩) (pr_V hP (ci := 1) (q0 := 0) rfl m_at0 rfl hP hK [0] rfl V0_at V0_c) rfl rfl hl.1 rfl (lv_room (Nat.le_of_ble_eq_true rfl)) dX1_mark_9 ⟨Nat.le_trans (Nat.le_of_ble_eq_true rfl) hRc, Nat.le_trans (Nat.le_of_ble_eq_true rfl) hRs⟩) hS (fun _ _ h => h.elim) (fun _ h => h.elim) (fun r_1 _ t H1 locs ht hvm hw_1 hB hz hk hS => ?_)
  have hP := P_kept hP hk
  obtain rfl := hw_1
  refine nb_if_ne (tgt := 21) hx hb dX1_mark_12 (by decide) (fun c_2 => ?_) (fun c_2 => ?_)
  · have c_2b := c_2
    simp only [Bool.and_eq_true] at c_2b
    obtain ⟨hs1, hx1, hy1⟩ := c_2b
    obtain ⟨j, hj, rfl⟩ := inR_t (by omega) hs1
    obtain ⟨x9, hx9, rfl⟩ := inR_t (by omega) hx1
    obtain ⟨y9, hy9, rfl⟩ := inR_t (by omega) hy1
    refine lv_iload hx hb dX1_mark_21 (lv_at hl 4 rfl) ?_
    refine lv_iconst (v := nI 1) hx hb dX1_mark_23 (by decide) ?_
    refine lv_bipush (v := nI 12) hx hb dX1_mark_24 (by decide) ?_
    refine lv_iload_n hx hb dX1_mark_26 rfl (lv_at hl 2 rfl) ?_
    refine nv_isub hx hb (by omega) dX1_mark_27 ?_
    refine va_calli (va_runS (As := [.int w0, .int (nI 1), .int (nI (12 - x9))]) (rest := []) ⟨hx, hb, hml, hown, hts⟩ (c_X1_isIn l D w0 (nI 1) (nI (12 - x9)) ) (va_cwS 3 hts gX1_mark_X1_isIn rfl rfl rfl (by decide +kernel) ⟨Nat.le_trans (Nat.le_of_ble_eq_true rfl) hRf, Nat.le_trans (Nat.le_of_ble_eq_true rfl) hRl⟩) (pr_S (P_nil) hK [] rfl V0_at V0_c) rfl rfl hl.1 rfl (lv_room (Nat.le_of_ble_eq_true rfl)) dX1_mark_28 ⟨Nat.le_trans (Nat.le_of_ble_eq_true rfl) hRc, Nat.le_trans (Nat.le_of_ble_eq_true rfl) hRs⟩) hS (fun _ _ h => h.elim) (fun _ h => h.elim) (fun r_3 _ t H1 locs ht hvm hw_3 hB hz hk hS => ?_)
    have hP := P_kept hP hk
    obtain rfl := hw_3
    refine nb_if_eq (tgt := 57) hx hb dX1_mark_31 (by decide) (fun c_4 => ?_) (fun c_4 => ?_)
    · refine lv_aload_n hx hb dX1_mark_57 rfl (lv_at hl 0 rfl) ?_
      refine lv_iconst (v := nI 2) hx hb dX1_mark_58 (by decide) ?_
      refine va_calli (va_runV (As := [.int (nI 2)]) (rest := []) ⟨hx, hb, hml, hown, hts⟩ (c_X1_no l D cI ad (nI 0) n np nq F T 2 hinj) (cwV 1 hts gX1_mark_X1_no rfl rfl rfl (by decide +kernel) ⟨Nat.le_trans (Nat.le_of_ble_eq_true rfl) hRf, Nat.le_trans (Nat.le_of_ble_eq_true rfl) hRl⟩) (pr_V hP (ci := 1) (q0 := 0) rfl m_at0 rfl hP hK [0] rfl V0_at V0_c) rfl rfl hl.1 rfl (lv_room (Nat.le_of_ble_eq_true rfl)) dX1_mark_59 ⟨Nat.le_trans (Nat.le_of_ble_eq_true rfl) hRc, Nat.le_trans (Nat.le_of_ble_eq_true rfl) hRs⟩) hS (fun _ _ h => h) (fun _ h => h) (fun r_5 _ t H1 locs ht hvm hw_5 hB hz hk hS => ?_)
      rw [ht] at hB
      have hP := hB
      have hP : va_P D vwCl (wM cI ad (nI 2) n np nq F T) H1 := hP
      have hD : va_D (inA ad 8) (wM cI ad (nI 2) n np nq F T) := m_D hinj
      obtain rfl := hw_5
      rw [← hQ]
      exact W.iret (v := nI 0) hx hb hr (fun t ht hW => ⟨⟨nI 0, (), rfl, (congrArg Prod.snd (show spMark n F (nI j) (nI x9) (nI y9) w0 h0 v0 = (2, 0) from (spMark_2 hn hj hx9 hy9 (by rw [show inW w0 (12 - x9) = false from c_4]; rfl)))).symm, (by show va_P D vwCl (if (spMark n F (nI j) (nI x9) (nI y9) w0 h0 v0).1 = 0 then wM cI ad (nI 0) n np nq (stMark F (nI j) (nI x9) (nI y9) w0 h0 v0) T else wM cI ad (nI (spMark n F (nI j) (nI x9) (nI y9) w0 h0 v0).1) n np nq F T) t.heap; rw [show spMark n F (nI j) (nI x9) (nI y9) w0 h0 v0 = (2, 0) from (spMark_2 hn hj hx9 hy9 (by rw [show inW w0 (12 - x9) = false from c_4]; rfl)), ht]; rw [if_neg (by decide)]; exact hP)⟩, hS.F ht⟩) hS.2.2 dX1_mark_62
    · refine lv_iload hx hb dX1_mark_34 (lv_at hl 5 rfl) ?_
      refine lv_iconst (v := nI 1) hx hb dX1_mark_36 (by decide) ?_
      refine lv_bipush (v := nI 8) hx hb dX1_mark_37 (by decide) ?_
      refine lv_iload_n hx hb dX1_mark_39 rfl (lv_at hl 3 rfl) ?_
      refine nv_isub hx hb (by omega) dX1_mark_40 ?_
      refine va_calli (va_runS (As := [.int h0, .int (nI 1), .int (nI (8 - y9))]) (rest := []) ⟨hx, hb, hml, hown, hts⟩ (c_X1_isIn l D h0 (nI 1) (nI (8 - y9)) ) (va_cwS 3 hts gX1_mark_X1_isIn rfl rfl rfl (by decide +kernel) ⟨Nat.le_trans (Nat.le_of_ble_eq_true rfl) hRf, Nat.le_trans (Nat.le_of_ble_eq_true rfl) hRl⟩) (pr_S (P_nil) hK [] rfl V0_at V0_c) rfl rfl hl.1 rfl (lv_room (Nat.le_of_ble_eq_true rfl)) dX1_mark_41 ⟨Nat.le_trans (Nat.le_of_ble_eq_true rfl) hRc, Nat.le_trans (Nat.le_of_ble_eq_true rfl) hRs⟩) hS (fun _ _ h => h.elim) (fun _ h => h.elim) (fun r_6 _ t H1 locs ht hvm hw_6 hB hz hk hS => ?_)
      have hP := P_kept hP hk
      obtain rfl := hw_6
      refine nb_if_eq (tgt := 57) hx hb dX1_mark_44 (by decide) (fun c_7 => ?_) (fun c_7 => ?_)
      · refine lv_aload_n hx hb dX1_mark_57 rfl (lv_at hl 0 rfl) ?_
        refine lv_iconst (v := nI 2) hx hb dX1_mark_58 (by decide) ?_
        refine va_calli (va_runV (As := [.int (nI 2)]) (rest := []) ⟨hx, hb, hml, hown, hts⟩ (c_X1_no l D cI ad (nI 0) n np nq F T 2 hinj) (cwV 1 hts gX1_mark_X1_no rfl rfl rfl (by decide +kernel) ⟨Nat.le_trans (Nat.le_of_ble_eq_true rfl) hRf, Nat.le_trans (Nat.le_of_ble_eq_true rfl) hRl⟩) (pr_V hP (ci := 1) (q0 := 0) rfl m_at0 rfl hP hK [0] rfl V0_at V0_c) rfl rfl hl.1 rfl (lv_room (Nat.le_of_ble_eq_true rfl)) dX1_mark_59 ⟨Nat.le_trans (Nat.le_of_ble_eq_true rfl) hRc, Nat.le_trans (Nat.le_of_ble_eq_true rfl) hRs⟩) hS (fun _ _ h => h) (fun _ h => h) (fun r_8 _ t H1 locs ht hvm hw_8 hB hz hk hS => ?_)
        rw [ht] at hB
        have hP := hB
        have hP : va_P D vwCl (wM cI ad (nI 2) n np nq F T) H1 := hP
        have hD : va_D (inA ad 8) (wM cI ad (nI 2) n np nq F T) := m_D hinj
        obtain rfl := hw_8
        rw [← hQ]
        exact W.iret (v := nI 0) hx hb hr (fun t ht hW => ⟨⟨nI 0, (), rfl, (congrArg Prod.snd (show spMark n F (nI j) (nI x9) (nI y9) w0 h0 v0 = (2, 0) from (spMark_2 hn hj hx9 hy9 (by rw [show inW h0 (8 - y9) = false from c_7, Bool.false_and, Bool.and_false])))).symm, (by show va_P D vwCl (if (spMark n F (nI j) (nI x9) (nI y9) w0 h0 v0).1 = 0 then wM cI ad (nI 0) n np nq (stMark F (nI j) (nI x9) (nI y9) w0 h0 v0) T else wM cI ad (nI (spMark n F (nI j) (nI x9) (nI y9) w0 h0 v0).1) n np nq F T) t.heap; rw [show spMark n F (nI j) (nI x9) (nI y9) w0 h0 v0 = (2, 0) from (spMark_2 hn hj hx9 hy9 (by rw [show inW h0 (8 - y9) = false from c_7, Bool.false_and, Bool.and_false])), ht]; rw [if_neg (by decide)]; exact hP)⟩, hS.F ht⟩) hS.2.2 dX1_mark_62
      · refine lv_iload hx hb dX1_mark_47 (lv_at hl 6 rfl) ?_
        refine lv_iconst (v := nI 0) hx hb dX1_mark_49 (by decide) ?_
        refine lv_iconst (v := nI 2) hx hb dX1_mark_50 (by decide) ?_
        refine va_calli (va_runS (As := [.int v0, .int (nI 0), .int (nI 2)]) (rest := []) ⟨hx, hb, hml, hown, hts⟩ (c_X1_isIn l D v0 (nI 0) (nI 2) ) (va_cwS 3 hts gX1_mark_X1_isIn rfl rfl rfl (by decide +kernel) ⟨Nat.le_trans (Nat.le_of_ble_eq_true rfl) hRf, Nat.le_trans (Nat.le_of_ble_eq_true rfl) hRl⟩) (pr_S (P_nil) hK [] rfl V0_at V0_c) rfl rfl hl.1 rfl (lv_room (Nat.le_of_ble_eq_true rfl)) dX1_mark_51 ⟨Nat.le_trans (Nat.le_of_ble_eq_true rfl) hRc, Nat.le_trans (Nat.le_of_ble_eq_true rfl) hRs⟩) hS (fun _ _ h => h.elim) (fun _ h => h.elim) (fun r_9 _ t H1 locs ht hvm hw_9 hB hz hk hS => ?_)
        have hP := P_kept hP hk
        obtain rfl := hw_9
        refine nb_if_ne (tgt := 63) hx hb dX1_mark_54 (by decide) (fun c_10 => ?_) (fun c_10 => ?_)
        · have hv9 : inR v0 3 = true := by (rw [← isI_k (k := 2) (by decide)]; exact c_10)
          obtain ⟨w9, hw9, rfl⟩ := inW_t (n := 12 - x9) (by omega) c_4
          obtain ⟨h9, hh9, rfl⟩ := inW_t (n := 8 - y9) (by omega) c_7
          have hwh : w9 * h9 ≤ 96 := Nat.mul_le_mul (show w9 ≤ 12 by omega) (show h9 ≤ 8 by omega)
          refine lv_bipush (v := nI 96) hx hb dX1_mark_63 (by decide) ?_
          refine lv_iload_n hx hb dX1_mark_65 rfl (lv_at hl 1 rfl) ?_
          refine nv_imul hx hb dX1_mark_66 ?_
          refine lv_bipush (v := nI 12) hx hb dX1_mark_67 (by decide) ?_
          refine lv_iload_n hx hb dX1_mark_69 rfl (lv_at hl 3 rfl) ?_
          refine nv_imul hx hb dX1_mark_70 ?_
          refine nv_iadd hx hb dX1_mark_71 ?_
          refine lv_iload_n hx hb dX1_mark_72 rfl (lv_at hl 2 rfl) ?_
          refine nv_iadd hx hb dX1_mark_73 ?_
          refine lv_istore (lv' := [(7, .int (nI (96 * j + 12 * y9 + x9))), (0, .ref (ad 0)), (1, .int (nI j)), (2, .int (nI x9)), (3, .int (nI y9)), (4, .int (nI w9)), (5, .int (nI h9)), (6, .int v0)]) hx hb dX1_mark_74 hl (by decide) rfl (fun ls hl => ?_)
          refine lv_aload_n hx hb dX1_mark_76 rfl (lv_at hl 1 rfl) ?_
          refine va_get (D := D) (ci := 1) (v := .ref (ad 2)) (C := RX1) (T := TX1) (N := 12) hx hb hts hiw hown hK hP 0 m_at0 rfl 3 (by decide) (hts (.fieldLink RX1 13 "GloveCuttersModel" "cells" "[I") (by decide +kernel)) (fun _ h9 => h9) rfl dX1_mark_77 ?_
          refine lv_iload hx hb dX1_mark_80 (lv_at hl 0 rfl) ?_
          refine lv_iload hx hb dX1_mark_82 (lv_at hl 5 rfl) ?_
          refine lv_iload hx hb dX1_mark_84 (lv_at hl 6 rfl) ?_
          refine lv_iconst (v := nI 3) hx hb dX1_mark_86 (by decide) ?_
          refine va_calli (va_runS (As := [.ref (ad 2), .int (nI (96 * j + 12 * y9 + x9)), .int (nI w9), .int (nI h9), .int (nI 3)]) (rest := []) ⟨hx, hb, hml, hown, hts⟩ (c_X1_many l D cI (ad 2) 960 (mCells F) (96 * j + 12 * y9 + x9) w9 h9 (nI 3) (by omega) (by omega) (by omega) (by omega) (by omega)) (va_cwS 5 hts gX1_mark_X1_many rfl rfl rfl (by decide +kernel) ⟨Nat.le_trans (Nat.le_of_ble_eq_true rfl) hRf, Nat.le_trans (Nat.le_of_ble_eq_true rfl) hRl⟩) (pr_S (P_pick hP (k := 2) m_at2) hK [0] rfl V0_at V0_c) rfl rfl hl.1 rfl (lv_room (Nat.le_of_ble_eq_true rfl)) dX1_mark_87 ⟨Nat.le_trans (Nat.le_of_ble_eq_true rfl) hRc, Nat.le_trans (Nat.le_of_ble_eq_true rfl) hRs⟩) hS (fun _ _ h => h.elim) (fun _ h => h.elim) (fun r_11 _ t H1 locs ht hvm hw_11 hB hz hk hS => ?_)
          have hP := P_kept hP hk
          obtain rfl := hw_11
          rw [ctM (by omega) (by omega)]
          have hb11 := ct_le (F (14 + j)) (12 * y9 + x9) w9 (nI 3) (w9 * h9)
          refine nv_if_le (tgt := 99) hx hb (by omega) dX1_mark_90 (by decide) (fun c_12 => ?_) (fun c_12 => ?_)
          · refine lv_aload_n hx hb dX1_mark_99 rfl (lv_at hl 1 rfl) ?_
            refine va_get (D := D) (ci := 1) (v := .ref (ad 2)) (C := RX1) (T := TX1) (N := 12) hx hb hts hiw hown hK hP 0 m_at0 rfl 3 (by decide) (hts (.fieldLink RX1 13 "GloveCuttersModel" "cells" "[I") (by decide +kernel)) (fun _ h9 => h9) rfl dX1_mark_100 ?_
            refine lv_iload hx hb dX1_mark_103 (lv_at hl 0 rfl) ?_
            refine lv_iload hx hb dX1_mark_105 (lv_at hl 5 rfl) ?_
            refine lv_iload hx hb dX1_mark_107 (lv_at hl 6 rfl) ?_
            refine lv_iload hx hb dX1_mark_109 (lv_at hl 7 rfl) ?_
            refine va_calli (va_runS (As := [.ref (ad 2), .int (nI (96 * j + 12 * y9 + x9)), .int (nI w9), .int (nI h9), .int v0]) (rest := []) ⟨hx, hb, hml, hown, hts⟩ (c_X1_many l D cI (ad 2) 960 (mCells F) (96 * j + 12 * y9 + x9) w9 h9 v0 (by omega) (by omega) (by omega) (by omega) (by omega)) (va_cwS 5 hts gX1_mark_X1_many rfl rfl rfl (by decide +kernel) ⟨Nat.le_trans (Nat.le_of_ble_eq_true rfl) hRf, Nat.le_trans (Nat.le_of_ble_eq_true rfl) hRl⟩) (pr_S (P_pick hP (k := 2) m_at2) hK [0] rfl V0_at V0_c) rfl rfl hl.1 rfl (lv_room (Nat.le_of_ble_eq_true rfl)) dX1_mark_111 ⟨Nat.le_trans (Nat.le_of_ble_eq_true rfl) hRc, Nat.le_trans (Nat.le_of_ble_eq_true rfl) hRs⟩) hS (fun _ _ h => h.elim) (fun _ h => h.elim) (fun r_13 _ t H1 locs ht hvm hw_13 hB hz hk hS => ?_)
            have hP := P_kept hP hk
            obtain rfl := hw_13
            rw [ctM (by omega) (by omega)]
            have hb13 := ct_le (F (14 + j)) (12 * y9 + x9) w9 v0 (w9 * h9)
            refine lv_istore (lv' := [(8, .int (nI (ct (F (14 + j)) (12 * y9 + x9) w9 v0 (w9 * h9)))), (7, .int (nI (96 * j + 12 * y9 + x9))), (0, .ref (ad 0)), (1, .int (nI j)), (2, .int (nI x9)), (3, .int (nI y9)), (4, .int (nI w9)), (5, .int (nI h9)), (6, .int v0)]) hx hb dX1_mark_114 hl (by decide) rfl (fun ls hl => ?_)
            refine lv_aload_n hx hb dX1_mark_116 rfl (lv_at hl 2 rfl) ?_
            refine va_get (D := D) (ci := 1) (v := .ref (ad 2)) (C := RX1) (T := TX1) (N := 12) hx hb hts hiw hown hK hP 0 m_at0 rfl 3 (by decide) (hts (.fieldLink RX1 13 "GloveCuttersModel" "cells" "[I") (by decide +kernel)) (fun _ h9 => h9) rfl dX1_mark_117 ?_
            refine lv_iload hx hb dX1_mark_120 (lv_at hl 1 rfl) ?_
            refine lv_iload hx hb dX1_mark_122 (lv_at hl 6 rfl) ?_
            refine lv_iload hx hb dX1_mark_124 (lv_at hl 7 rfl) ?_
            refine lv_iload hx hb dX1_mark_126 (lv_at hl 8 rfl) ?_
            refine va_callv (va_runS (As := [.ref (ad 2), .int (nI (96 * j + 12 * y9 + x9)), .int (nI w9), .int (nI h9), .int v0]) (rest := []) ⟨hx, hb, hml, hown, hts⟩ (c_X1_fill l D cI (ad 2) 960 (mCells F) (96 * j + 12 * y9 + x9) w9 h9 v0 (by omega) (by omega) (by omega) (by omega) (by omega)) (va_cwS 5 hts gX1_mark_X1_fill rfl rfl rfl (by decide +kernel) ⟨Nat.le_trans (Nat.le_of_ble_eq_true rfl) hRf, Nat.le_trans (Nat.le_of_ble_eq_true rfl) hRl⟩) (pr_S (P_pick hP (k := 2) m_at2) hK [0] rfl V0_at V0_c) rfl rfl hl.1 rfl (lv_room (Nat.le_of_ble_eq_true rfl)) dX1_mark_128 ⟨Nat.le_trans (Nat.le_of_ble_eq_true rfl) hRc, Nat.le_trans (Nat.le_of_ble_eq_true rfl) hRs⟩) hS (fun q _ h => ⟨2, by omega, h⟩) (fun q h => ⟨2, by omega, h⟩) (fun _ t H1 locs ht hvm hw_14 hB hz hk hS => ?_)
            rw [ht] at hB
            have hP := P_put hP hD m_at2 hk hB
            rw [flM (by omega) (by omega) _ (Nat.le_refl _), m_set2c] at hP
            obtain ⟨F_16, eF_16⟩ : ∃ z, z = va_up F (14 + j) (fl (F (14 + j)) (12 * y9 + x9) w9 v0 (w9 * h9)) := ⟨_, rfl⟩
            rw [← eF_16] at hP
            have hP : va_P D vwCl (wM cI ad (nI 0) n np nq F_16 T) _ := hP
            have hD : va_D (inA ad 8) (wM cI ad (nI 0) n np nq F_16 T) := m_D hinj
            refine lv_iload hx hb dX1_mark_131 (lv_at hl 6 rfl) ?_
            refine lv_iload hx hb dX1_mark_133 (lv_at hl 7 rfl) ?_
            refine nv_imul hx hb dX1_mark_135 ?_
            refine lv_iload hx hb dX1_mark_136 (lv_at hl 0 rfl) ?_
            refine nv_isub hx hb (by omega) dX1_mark_138 ?_
            rw [← hQ]
            exact W.iret (v := nI ((w9 * h9) - (ct (F (14 + j)) (12 * y9 + x9) w9 v0 (w9 * h9)))) hx hb hr (fun t ht hW => ⟨⟨nI ((w9 * h9) - (ct (F (14 + j)) (12 * y9 + x9) w9 v0 (w9 * h9))), (), rfl, (congrArg Prod.snd (show spMark n F (nI j) (nI x9) (nI y9) (nI w9) (nI h9) v0 = (0, nI (w9 * h9 - ct (F (14 + j)) (12 * y9 + x9) w9 v0 (w9 * h9))) from (by rw [spMark_1 hn hj hx9 hy9 hw9 hh9 hv9, if_pos c_12]))).symm, (by show va_P D vwCl (if (spMark n F (nI j) (nI x9) (nI y9) (nI w9) (nI h9) v0).1 = 0 then wM cI ad (nI 0) n np nq (stMark F (nI j) (nI x9) (nI y9) (nI w9) (nI h9) v0) T else wM cI ad (nI (spMark n F (nI j) (nI x9) (nI y9) (nI w9) (nI h9) v0).1) n np nq F T) t.heap; rw [show spMark n F (nI j) (nI x9) (nI y9) (nI w9) (nI h9) v0 = (0, nI (w9 * h9 - ct (F (14 + j)) (12 * y9 + x9) w9 v0 (w9 * h9))) from (by rw [spMark_1 hn hj hx9 hy9 hw9 hh9 hv9, if_pos c_12]), ht]; rw [if_pos rfl]; rw [stMark_n (by omega) hx9 hy9 (by omega) (by omega)]; show va_P D vwCl (wM cI ad (nI 0) n np nq (va_up F (14 + j) (fl (F (14 + j)) (12 * y9 + x9) w9 v0 (w9 * h9))) T) H1; rw [← eF_16]; exact hP)⟩, hS.F ht⟩) hS.2.2 dX1_mark_139
          · refine lv_aload_n hx hb dX1_mark_93 rfl (lv_at hl 1 rfl) ?_
            refine lv_iconst (v := nI 3) hx hb dX1_mark_94 (by decide) ?_
            refine va_calli (va_runV (As := [.int (nI 3)]) (rest := []) ⟨hx, hb, hml, hown, hts⟩ (c_X1_no l D cI ad (nI 0) n np nq F T 3 hinj) (cwV 1 hts gX1_mark_X1_no rfl rfl rfl (by decide +kernel) ⟨Nat.le_trans (Nat.le_of_ble_eq_true rfl) hRf, Nat.le_trans (Nat.le_of_ble_eq_true rfl) hRl⟩) (pr_V hP (ci := 1) (q0 := 0) rfl m_at0 rfl hP hK [0] rfl V0_at V0_c) rfl rfl hl.1 rfl (lv_room (Nat.le_of_ble_eq_true rfl)) dX1_mark_95 ⟨Nat.le_trans (Nat.le_of_ble_eq_true rfl) hRc, Nat.le_trans (Nat.le_of_ble_eq_true rfl) hRs⟩) hS (fun _ _ h => h) (fun _ h => h) (fun r_17 _ t H1 locs ht hvm hw_17 hB hz hk hS => ?_)
            rw [ht] at hB
            have hP := hB
            have hP : va_P D vwCl (wM cI ad (nI 3) n np nq F T) H1 := hP
            have hD : va_D (inA ad 8) (wM cI ad (nI 3) n np nq F T) := m_D hinj
            obtain rfl := hw_17
            rw [← hQ]
            exact W.iret (v := nI 0) hx hb hr (fun t ht hW => ⟨⟨nI 0, (), rfl, (congrArg Prod.snd (show spMark n F (nI j) (nI x9) (nI y9) (nI w9) (nI h9) v0 = (3, 0) from (by rw [spMark_1 hn hj hx9 hy9 hw9 hh9 hv9, if_neg (by omega)]))).symm, (by show va_P D vwCl (if (spMark n F (nI j) (nI x9) (nI y9) (nI w9) (nI h9) v0).1 = 0 then wM cI ad (nI 0) n np nq (stMark F (nI j) (nI x9) (nI y9) (nI w9) (nI h9) v0) T else wM cI ad (nI (spMark n F (nI j) (nI x9) (nI y9) (nI w9) (nI h9) v0).1) n np nq F T) t.heap; rw [show spMark n F (nI j) (nI x9) (nI y9) (nI w9) (nI h9) v0 = (3, 0) from (by rw [spMark_1 hn hj hx9 hy9 hw9 hh9 hv9, if_neg (by omega)]), ht]; rw [if_neg (by decide)]; exact hP)⟩, hS.F ht⟩) hS.2.2 dX1_mark_98
        · refine lv_aload_n hx hb dX1_mark_57 rfl (lv_at hl 0 rfl) ?_
          refine lv_iconst (v := nI 2) hx hb dX1_mark_58 (by decide) ?_
          refine va_calli (va_runV (As := [.int (nI 2)]) (rest := []) ⟨hx, hb, hml, hown, hts⟩ (c_X1_no l D cI ad (nI 0) n np nq F T 2 hinj) (cwV 1 hts gX1_mark_X1_no rfl rfl rfl (by decide +kernel) ⟨Nat.le_trans (Nat.le_of_ble_eq_true rfl) hRf, Nat.le_trans (Nat.le_of_ble_eq_true rfl) hRl⟩) (pr_V hP (ci := 1) (q0 := 0) rfl m_at0 rfl hP hK [0] rfl V0_at V0_c) rfl rfl hl.1 rfl (lv_room (Nat.le_of_ble_eq_true rfl)) dX1_mark_59 ⟨Nat.le_trans (Nat.le_of_ble_eq_true rfl) hRc, Nat.le_trans (Nat.le_of_ble_eq_true rfl) hRs⟩) hS (fun _ _ h => h) (fun _ h => h) (fun r_18 _ t H1 locs ht hvm hw_18 hB hz hk hS => ?_)
          rw [ht] at hB
          have hP := hB
          have hP : va_P D vwCl (wM cI ad (nI 2) n np nq F T) H1 := hP
          have hD : va_D (inA ad 8) (wM cI ad (nI 2) n np nq F T) := m_D hinj
          obtain rfl := hw_18
          rw [← hQ]
          exact W.iret (v := nI 0) hx hb hr (fun t ht hW => ⟨⟨nI 0, (), rfl, (congrArg Prod.snd (show spMark n F (nI j) (nI x9) (nI y9) w0 h0 v0 = (2, 0) from (spMark_2 hn hj hx9 hy9 (by rw [← isI_k (x := v0) (k := 2) (by decide), c_10, Bool.and_false, Bool.and_false])))).symm, (by show va_P D vwCl (if (spMark n F (nI j) (nI x9) (nI y9) w0 h0 v0).1 = 0 then wM cI ad (nI 0) n np nq (stMark F (nI j) (nI x9) (nI y9) w0 h0 v0) T else wM cI ad (nI (spMark n F (nI j) (nI x9) (nI y9) w0 h0 v0).1) n np nq F T) t.heap; rw [show spMark n F (nI j) (nI x9) (nI y9) w0 h0 v0 = (2, 0) from (spMark_2 hn hj hx9 hy9 (by rw [← isI_k (x := v0) (k := 2) (by decide), c_10, Bool.and_false, Bool.and_false])), ht]; rw [if_neg (by decide)]; exact hP)⟩, hS.F ht⟩) hS.2.2 dX1_mark_62
  · refine lv_aload_n hx hb dX1_mark_15 rfl (lv_at hl 0 rfl) ?_
    refine lv_iconst (v := nI 1) hx hb dX1_mark_16 (by decide) ?_
    refine va_calli (va_runV (As := [.int (nI 1)]) (rest := []) ⟨hx, hb, hml, hown, hts⟩ (c_X1_no l D cI ad (nI 0) n np nq F T 1 hinj) (cwV 1 hts gX1_mark_X1_no rfl rfl rfl (by decide +kernel) ⟨Nat.le_trans (Nat.le_of_ble_eq_true rfl) hRf, Nat.le_trans (Nat.le_of_ble_eq_true rfl) hRl⟩) (pr_V hP (ci := 1) (q0 := 0) rfl m_at0 rfl hP hK [0] rfl V0_at V0_c) rfl rfl hl.1 rfl (lv_room (Nat.le_of_ble_eq_true rfl)) dX1_mark_17 ⟨Nat.le_trans (Nat.le_of_ble_eq_true rfl) hRc, Nat.le_trans (Nat.le_of_ble_eq_true rfl) hRs⟩) hS (fun _ _ h => h) (fun _ h => h) (fun r_19 _ t H1 locs ht hvm hw_19 hB hz hk hS => ?_)
    rw [ht] at hB
    have hP := hB
    have hP : va_P D vwCl (wM cI ad (nI 1) n np nq F T) H1 := hP
    have hD : va_D (inA ad 8) (wM cI ad (nI 1) n np nq F T) := m_D hinj
    obtain rfl := hw_19
    rw [← hQ]
    exact W.iret (v := nI 0) hx hb hr (fun t ht hW => ⟨⟨nI 0, (), rfl, (congrArg Prod.snd (show spMark n F s0 x0 y0 w0 h0 v0 = (1, 0) from (by unfold spMark; rw [c_2]; rfl))).symm, (by show va_P D vwCl (if (spMark n F s0 x0 y0 w0 h0 v0).1 = 0 then wM cI ad (nI 0) n np nq (stMark F s0 x0 y0 w0 h0 v0) T else wM cI ad (nI (spMark n F s0 x0 y0 w0 h0 v0).1) n np nq F T) t.heap; rw [show spMark n F s0 x0 y0 w0 h0 v0 = (1, 0) from (by unfold spMark; rw [c_2]; rfl), ht]; rw [if_neg (by decide)]; exact hP)⟩, hS.F ht⟩) hS.2.2 dX1_mark_20
set_option maxHeartbeats 4000000 in
set_option maxRecDepth 100000 in
/-- cut -/
theorem c_X1_cut (l : Launch) (D : va_G) (cI : ClassId) (ad : Nat → Nat) (th : Int32) (n np nq : Nat) (F : Nat → Nat → Int32) (T : Nat → Int32) (s0 k0 : Int32) (tb : Bool) (x0 y0 : Int32) (hinj : inj ad 8) (hn : n ≤ 10) (hnp : np ≤ 150) (hsc : ∀ s, s < 10 → small (F (14 + s)) 96) : Met l yX1_cut wsX1_cut ({ frames := 3, cells := 0, slots := 0, locals := 66 } : Room) (va_Pc [.ref (ad 0), .int s0, .int k0, .int (bI tb), .int x0, .int y0] (Pr D [(cI, .int)] (wM cI ad th n np nq F T) (EnvM (inA ad 8)))) (va_Qi (S := Unit) (fun (r : Int32) (_ : Unit) => r = (spCut n np F s0 k0 tb x0 y0).2) (fun (_ : Unit) (t : State) => va_P D vwCl (if (spCut n np F s0 k0 tb x0 y0).1 = 0 then wM cI ad (nI 0) n (np + 1) nq (stCut F np s0 k0 tb x0 y0) T else wM cI ad (nI (spCut n np F s0 k0 tb x0 y0).1) n np nq F T) t.heap) (inA ad 8)) 0 0 (inA ad 8) := by
  refine Met.ofW (cc := cX1_cut) (maxL := 8) (ret := (some .int)) (by decide) rfl ?_
  intro p e s m args below meth c s₁ B hml hv
  obtain ⟨hargs, hP, hK, hV⟩ := hv
  have hx := B.exec
  have hb := B.bytes
  have hr := B.returns
  have hts := atoms_spec (ws := wsX1_cut) B.pre
  have hown : s.vm.findClass RX1 = some m.cls := findClass_of_methodNamed B.named
  have hlocks := B.notSynchronized
  have hS : va_S (fun _ => False) s.heap s.heap [] := va_S.rf
  have hV0 : EnvM (fun _ => False) s := EnvM.nar hV sub_no
  have hiw : ∀ w ∈ wsX10, w ∈ wsX1_cut := (fun _ h => List.mem_cons_of_mem _ (List.mem_append_right _ h))
  have hRf : 3 ≤ (headSpec wsX1_cut ({ frames := 3, cells := 0, slots := 0, locals := 66 } : Room)).room.frames := Nat.le_refl _
  have hRl : 66 ≤ (headSpec wsX1_cut ({ frames := 3, cells := 0, slots := 0, locals := 66 } : Room)).room.locals := Nat.le_refl _
  have hRc : 0 ≤ (headSpec wsX1_cut ({ frames := 3, cells := 0, slots := 0, locals := 66 } : Room)).room.cells := Nat.le_refl _
  have hRs : 0 ≤ (headSpec wsX1_cut ({ frames := 3, cells := 0, slots := 0, locals := 66 } : Room)).room.slots := Nat.le_refl _
  generalize (headSpec wsX1_cut ({ frames := 3, cells := 0, slots := 0, locals := 66 } : Room)).room = R at hRf hRl hRc hRs ⊢
  have hl := lv_entry [.ref (ad 0), .int s0, .int k0, .int (bI tb), .int x0, .int y0] (n := 8) (Nat.le_of_ble_eq_true rfl)
  refine W.eq (show entryFrame m args 8 = _ from by rw [hargs, lg_entry_eq]) ?_
  generalize (lg_sl [.ref (ad 0), .int s0, .int k0, .int (bI tb), .int x0, .int y0] ++ List.replicate (8 - (lg_sl [.ref (ad 0), .int s0, .int k0, .int (bI tb), .int x0, .int y0]).length) Slot.unset).toArray = ls at hl ⊢
  have hl : lv_has ls 8 [(0, .ref (ad 0)), (1, .int s0), (2, .int k0), (3, .int (bI tb)), (4, .int x0), (5, .int y0)] := hl
  have hD : va_D (inA ad 8) (wM cI ad th n np nq F T) := m_D hinj
  generalize hQ : MQ _ _ _ _ _ _ _ = Q
  refine lv_aload_n hx hb dX1_cut_0 rfl (lv_at hl 0 rfl) ?_
  refine lv_iconst (v := nI 0) hx hb dX1_cut_1 (by decide) ?_
  have hS : va_S (inA ad 8) s.heap _ _ := S_mono hS
  refine va_put (D := D) (ci := 1) (v := .int (nI 0)) (ty := .int) (C := RX1) (T := TX1) (N := 12) hx hb hts hiw tyX1 tyX1_ok nmX1 hown hK hP hD hS 0 m_at0 rfl 0 (by decide) (hts (.fieldLink RX1 34 "GloveCuttersModel" "thrown" "I") (by decide +kernel)) (fun _ h9 => h9) rfl (by decide +kernel) rfl rfl (Nat.le_of_ble_eq_true rfl) dX1_cut_2 (fun H locs hP hD hS => ?_)
  have hP : va_P D vwCl (wM cI ad (nI 0) n np nq F T) H := hP
  have hD : va_D (inA ad 8) (wM cI ad (nI 0) n np nq F T) := hD
  refine lv_aload_n hx hb dX1_cut_5 rfl (lv_at hl 0 rfl) ?_
  refine lv_iload_n hx hb dX1_cut_6 rfl (lv_at hl 1 rfl) ?_
  refine lv_iload hx hb dX1_cut_7 (lv_at hl 4 rfl) ?_
  refine lv_iload hx hb dX1_cut_9 (lv_at hl 5 rfl) ?_
  refine va_calli (va_runV (As := [.int s0, .int x0, .int y0]) (rest := []) ⟨hx, hb, hml, hown, hts⟩ (c_X1_isCell l D cI ad (nI 0) n np nq F T s0 x0 y0 hn) (cwV 3 hts gX1_cut_X1_isCell rfl rfl rfl (by decide +kernel) ⟨Nat.le_trans (Nat.le_of_ble_eq_true rfl) hRf, Nat.le_trans (Nat.le_of_ble_eq_true rfl) hRl⟩) (pr_V hP (ci := 1) (q0 := 0) rfl m_at0 rfl hP hK [0] rfl V0_at V0_c) rfl rfl hl.1 rfl (lv_room (Nat.le_of_ble_eq_true rfl)) dX1_cut_11 ⟨Nat.le_trans (Nat.le_of_ble_eq_true rfl) hRc, Nat.le_trans (Nat.le_of_ble_eq_true rfl) hRs⟩) hS (fun _ _ h => h.elim) (fun _ h => h.elim) (fun r_1 _ t H1 locs ht hvm hw_1 hB hz hk hS => ?_)
  have hP := P_kept hP hk
  obtain rfl := hw_1
  refine nb_if_ne (tgt := 23) hx hb dX1_cut_14 (by decide) (fun c_2 => ?_) (fun c_2 => ?_)
  · have c_2b := c_2
    simp only [Bool.and_eq_true] at c_2b
    obtain ⟨hs1, hx1, hy1⟩ := c_2b
    obtain ⟨j, hj, rfl⟩ := inR_t (by omega) hs1
    obtain ⟨x9, hx9, rfl⟩ := inR_t (by omega) hx1
    obtain ⟨y9, hy9, rfl⟩ := inR_t (by omega) hy1
    refine lv_iload_n hx hb dX1_cut_23 rfl (lv_at hl 2 rfl) ?_
    refine va_calli (va_runS (As := [.int k0]) (rest := []) ⟨hx, hb, hml, hown, hts⟩ (c_X1_isKind l D k0 ) (va_cwS 1 hts gX1_cut_X1_isKind rfl rfl rfl (by decide +kernel) ⟨Nat.le_trans (Nat.le_of_ble_eq_true rfl) hRf, Nat.le_trans (Nat.le_of_ble_eq_true rfl) hRl⟩) (pr_S (P_nil) hK [] rfl V0_at V0_c) rfl rfl hl.1 rfl (lv_room (Nat.le_of_ble_eq_true rfl)) dX1_cut_24 ⟨Nat.le_trans (Nat.le_of_ble_eq_true rfl) hRc, Nat.le_trans (Nat.le_of_ble_eq_true rfl) hRs⟩) hS (fun _ _ h => h.elim) (fun _ h => h.elim) (fun r_3 _ t H1 locs ht hvm hw_3 hB hz hk hS => ?_)
    have hP := P_kept hP hk
    obtain rfl := hw_3
    refine nb_if_ne (tgt := 36) hx hb dX1_cut_27 (by decide) (fun c_4 => ?_) (fun c_4 => ?_)
    · obtain ⟨k9, hk9, rfl⟩ := inR_t (by decide) c_4
      have hw9 := wd_le k9 tb
      have hh9 := hg_le k9 tb
      refine lv_bipush (v := nI 12) hx hb dX1_cut_36 (by decide) ?_
      refine lv_iload hx hb dX1_cut_38 (lv_at hl 5 rfl) ?_
      refine nv_imul hx hb dX1_cut_40 ?_
      refine lv_iload hx hb dX1_cut_41 (lv_at hl 4 rfl) ?_
      refine nv_iadd hx hb dX1_cut_43 ?_
      refine lv_istore (lv' := [(6, .int (nI ((12 * y9) + x9))), (0, .ref (ad 0)), (1, .int (nI j)), (2, .int (nI k9)), (3, .int (bI tb)), (4, .int (nI x9)), (5, .int (nI y9))]) hx hb dX1_cut_44 hl (by decide) rfl (fun ls hl => ?_)
      refine lv_aload_n hx hb dX1_cut_46 rfl (lv_at hl 1 rfl) ?_
      refine va_get (D := D) (ci := 1) (v := .int (nI np)) (C := RX1) (T := TX1) (N := 12) hx hb hts hiw hown hK hP 0 m_at0 rfl 4 (by decide) (hts (.fieldLink RX1 67 "GloveCuttersModel" "pieces" "I") (by decide +kernel)) (fun _ h9 => h9) rfl dX1_cut_47 ?_
      refine lv_sipush (v := nI 150) hx hb dX1_cut_50 (by decide) ?_
      refine nv_icmp_eq (tgt := 74) hx hb (by omega) (by omega) dX1_cut_53 (by decide) (fun c_5 => ?_) (fun c_5 => ?_)
      · refine lv_aload_n hx hb dX1_cut_74 rfl (lv_at hl 1 rfl) ?_
        refine lv_iconst (v := nI 3) hx hb dX1_cut_75 (by decide) ?_
        refine va_calli (va_runV (As := [.int (nI 3)]) (rest := []) ⟨hx, hb, hml, hown, hts⟩ (c_X1_no l D cI ad (nI 0) n np nq F T 3 hinj) (cwV 1 hts gX1_cut_X1_no rfl rfl rfl (by decide +kernel) ⟨Nat.le_trans (Nat.le_of_ble_eq_true rfl) hRf, Nat.le_trans (Nat.le_of_ble_eq_true rfl) hRl⟩) (pr_V hP (ci := 1) (q0 := 0) rfl m_at0 rfl hP hK [0] rfl V0_at V0_c) rfl rfl hl.1 rfl (lv_room (Nat.le_of_ble_eq_true rfl)) dX1_cut_76 ⟨Nat.le_trans (Nat.le_of_ble_eq_true rfl) hRc, Nat.le_trans (Nat.le_of_ble_eq_true rfl) hRs⟩) hS (fun _ _ h => h) (fun _ h => h) (fun r_6 _ t H1 locs ht hvm hw_6 hB hz hk hS => ?_)
        rw [ht] at hB
        have hP := hB
        have hP : va_P D vwCl (wM cI ad (nI 3) n np nq F T) H1 := hP
        have hD : va_D (inA ad 8) (wM cI ad (nI 3) n np nq F T) := m_D hinj
        obtain rfl := hw_6
        rw [← hQ]
        exact W.iret (v := nI 0) hx hb hr (fun t ht hW => ⟨⟨nI 0, (), rfl, (congrArg Prod.snd (show spCut n np F (nI j) (nI k9) tb (nI x9) (nI y9) = (3, 0) from (by rw [spCut_1 hn hj hx9 hy9 hk9, decide_eq_false (show ¬ np < 150 by omega), Bool.and_false]; rfl))).symm, (by show va_P D vwCl (if (spCut n np F (nI j) (nI k9) tb (nI x9) (nI y9)).1 = 0 then wM cI ad (nI 0) n (np + 1) nq (stCut F np (nI j) (nI k9) tb (nI x9) (nI y9)) T else wM cI ad (nI (spCut n np F (nI j) (nI k9) tb (nI x9) (nI y9)).1) n np nq F T) t.heap; rw [show spCut n np F (nI j) (nI k9) tb (nI x9) (nI y9) = (3, 0) from (by rw [spCut_1 hn hj hx9 hy9 hk9, decide_eq_false (show ¬ np < 150 by omega), Bool.and_false]; rfl), ht]; rw [if_neg (by decide)]; exact hP)⟩, hS.F ht⟩) hS.2.2 dX1_cut_79
      · refine lv_aload_n hx hb dX1_cut_56 rfl (lv_at hl 1 rfl) ?_
        refine va_get (D := D) (ci := 1) (v := .ref (ad 2)) (C := RX1) (T := TX1) (N := 12) hx hb hts hiw hown hK hP 0 m_at0 rfl 3 (by decide) (hts (.fieldLink RX1 13 "GloveCuttersModel" "cells" "[I") (by decide +kernel)) (fun _ h9 => h9) rfl dX1_cut_57 ?_
        refine lv_bipush (v := nI 96) hx hb dX1_cut_60 (by decide) ?_
        refine lv_iload_n hx hb dX1_cut_62 rfl (lv_at hl 2 rfl) ?_
        refine nv_imul hx hb dX1_cut_63 ?_
        refine lv_iload_n hx hb dX1_cut_64 rfl (lv_at hl 3 rfl) ?_
        refine lv_iload_n hx hb dX1_cut_65 rfl (lv_at hl 4 rfl) ?_
        refine lv_iload hx hb dX1_cut_66 (lv_at hl 0 rfl) ?_
        refine va_calli (va_runS (As := [.ref (ad 2), .int (nI (96 * j)), .int (nI k9), .int (bI tb), .int (nI ((12 * y9) + x9))]) (rest := []) ⟨hx, hb, hml, hown, hts⟩ (c_X1_can l D cI (ad 2) 960 (mCells F) (96 * j) k9 tb ((12 * y9) + x9) (by omega) (by omega) (by omega) (by omega) (fun q hq => by have h9 := hsc j (by omega) q hq; rw [← mCells_r (F := F) (s := j) hq] at h9; exact h9)) (va_cwS 5 hts gX1_cut_X1_can rfl rfl rfl (by decide +kernel) ⟨Nat.le_trans (Nat.le_of_ble_eq_true rfl) hRf, Nat.le_trans (Nat.le_of_ble_eq_true rfl) hRl⟩) (pr_S (P_pick hP (k := 2) m_at2) hK [0] rfl (hV.at hS sub_id sub_no) EnvM_c) rfl rfl hl.1 rfl (lv_room (Nat.le_of_ble_eq_true rfl)) dX1_cut_68 ⟨Nat.le_trans (Nat.le_of_ble_eq_true rfl) hRc, Nat.le_trans (Nat.le_of_ble_eq_true rfl) hRs⟩) hS (fun _ _ h => h.elim) (fun _ h => h.elim) (fun r_7 _ t H1 locs ht hvm hw_7 hB hz hk hS => ?_)
        have hP := P_kept hP hk
        obtain rfl := hw_7
        have efit : fitA (fun q => mCells F (96 * j + q)) k9 tb (12 * y9 + x9) = fitB (F (14 + j)) k9 tb x9 y9 := by (rw [fitA_cong (f := fun q => mCells F (96 * j + q)) (f' := F (14 + j)) (fun q hq => mCells_r hq)]; unfold fitA; rw [show (12 * y9 + x9) % 12 = x9 by omega, show (12 * y9 + x9) / 12 = y9 by omega])
        refine nb_if_ne (tgt := 80) hx hb dX1_cut_71 (by decide) (fun c_8 => ?_) (fun c_8 => ?_)
        · have hft : x9 + wd k9 tb ≤ 12 ∧ y9 + hg k9 tb ≤ 8 := by (have hq9 := c_8; rw [efit] at hq9; unfold fitB at hq9; simp only [Bool.and_eq_true, decide_eq_true_eq] at hq9; omega)
          refine lv_bipush (v := nI 96) hx hb dX1_cut_80 (by decide) ?_
          refine lv_iload_n hx hb dX1_cut_82 rfl (lv_at hl 2 rfl) ?_
          refine nv_imul hx hb dX1_cut_83 ?_
          refine lv_iload hx hb dX1_cut_84 (lv_at hl 0 rfl) ?_
          refine nv_iadd hx hb dX1_cut_86 ?_
          rw [show 96 * j + (12 * y9 + x9) = 96 * j + 12 * y9 + x9 by omega]
          refine lv_istore (lv' := [(7, .int (nI (96 * j + 12 * y9 + x9))), (6, .int (nI ((12 * y9) + x9))), (0, .ref (ad 0)), (1, .int (nI j)), (2, .int (nI k9)), (3, .int (bI tb)), (4, .int (nI x9)), (5, .int (nI y9))]) hx hb dX1_cut_87 hl (by decide) rfl (fun ls hl => ?_)
          refine lv_aload_n hx hb dX1_cut_89 rfl (lv_at hl 2 rfl) ?_
          refine va_get (D := D) (ci := 1) (v := .ref (ad 3)) (C := RX1) (T := TX1) (N := 12) hx hb hts hiw hown hK hP 0 m_at0 rfl 5 (by decide) (hts (.fieldLink RX1 16 "GloveCuttersModel" "skinOf" "[I") (by decide +kernel)) (fun _ h9 => h9) rfl dX1_cut_90 ?_
          refine lv_aload_n hx hb dX1_cut_93 rfl (lv_at hl 2 rfl) ?_
          refine va_get (D := D) (ci := 1) (v := .int (nI np)) (C := RX1) (T := TX1) (N := 12) hx hb hts hiw hown hK hP 0 m_at0 rfl 4 (by decide) (hts (.fieldLink RX1 67 "GloveCuttersModel" "pieces" "I") (by decide +kernel)) (fun _ h9 => h9) rfl dX1_cut_94 ?_
          refine lv_iload_n hx hb dX1_cut_97 rfl (lv_at hl 3 rfl) ?_
          refine nv_iast hx hb hK hP hD hS 3 0 m_at3 rfl (by omega) (by omega) dX1_cut_98 (fun H locs hP hD hS => ?_)
          rw [m_set3] at hP hD
          obtain ⟨F_9, eF_9⟩ : ∃ z, z = va_up F 4 (upd (F 4) np (nI j)) := ⟨_, rfl⟩
          rw [← eF_9] at hP hD
          refine lv_aload_n hx hb dX1_cut_99 rfl (lv_at hl 2 rfl) ?_
          refine va_get (D := D) (ci := 1) (v := .ref (ad 4)) (C := RX1) (T := TX1) (N := 12) hx hb hts hiw hown hK hP 0 m_at0 rfl 6 (by decide) (hts (.fieldLink RX1 19 "GloveCuttersModel" "kindOf" "[I") (by decide +kernel)) (fun _ h9 => h9) rfl dX1_cut_100 ?_
          refine lv_aload_n hx hb dX1_cut_103 rfl (lv_at hl 2 rfl) ?_
          refine va_get (D := D) (ci := 1) (v := .int (nI np)) (C := RX1) (T := TX1) (N := 12) hx hb hts hiw hown hK hP 0 m_at0 rfl 4 (by decide) (hts (.fieldLink RX1 67 "GloveCuttersModel" "pieces" "I") (by decide +kernel)) (fun _ h9 => h9) rfl dX1_cut_104 ?_
          refine lv_iload_n hx hb dX1_cut_107 rfl (lv_at hl 4 rfl) ?_
          refine nv_iast hx hb hK hP hD hS 4 0 m_at4 rfl (by omega) (by omega) dX1_cut_108 (fun H locs hP hD hS => ?_)
          rw [m_set4] at hP hD
          obtain ⟨F_10, eF_10⟩ : ∃ z, z = va_up F_9 5 (upd (F_9 5) np (nI k9)) := ⟨_, rfl⟩
          rw [← eF_10] at hP hD
          refine lv_aload_n hx hb dX1_cut_109 rfl (lv_at hl 2 rfl) ?_
          refine va_get (D := D) (ci := 1) (v := .ref (ad 5)) (C := RX1) (T := TX1) (N := 12) hx hb hts hiw hown hK hP 0 m_at0 rfl 7 (by decide) (hts (.fieldLink RX1 22 "GloveCuttersModel" "pairOf" "[I") (by decide +kernel)) (fun _ h9 => h9) rfl dX1_cut_110 ?_
          refine lv_aload_n hx hb dX1_cut_113 rfl (lv_at hl 2 rfl) ?_
          refine va_get (D := D) (ci := 1) (v := .int (nI np)) (C := RX1) (T := TX1) (N := 12) hx hb hts hiw hown hK hP 0 m_at0 rfl 4 (by decide) (hts (.fieldLink RX1 67 "GloveCuttersModel" "pieces" "I") (by decide +kernel)) (fun _ h9 => h9) rfl dX1_cut_114 ?_
          refine lv_iconst (v := -1) hx hb dX1_cut_117 (by decide) ?_
          refine nv_iast hx hb hK hP hD hS 5 0 m_at5 rfl (by omega) (by omega) dX1_cut_118 (fun H locs hP hD hS => ?_)
          rw [m_set5] at hP hD
          obtain ⟨F_11, eF_11⟩ : ∃ z, z = va_up F_10 6 (upd (F_10 6) np (-1)) := ⟨_, rfl⟩
          rw [← eF_11] at hP hD
          refine lv_aload_n hx hb dX1_cut_119 rfl (lv_at hl 2 rfl) ?_
          refine va_get (D := D) (ci := 1) (v := .ref (ad 6)) (C := RX1) (T := TX1) (N := 12) hx hb hts hiw hown hK hP 0 m_at0 rfl 8 (by decide) (hts (.fieldLink RX1 25 "GloveCuttersModel" "thinOf" "[I") (by decide +kernel)) (fun _ h9 => h9) rfl dX1_cut_120 ?_
          refine lv_aload_n hx hb dX1_cut_123 rfl (lv_at hl 2 rfl) ?_
          refine va_get (D := D) (ci := 1) (v := .int (nI np)) (C := RX1) (T := TX1) (N := 12) hx hb hts hiw hown hK hP 0 m_at0 rfl 4 (by decide) (hts (.fieldLink RX1 67 "GloveCuttersModel" "pieces" "I") (by decide +kernel)) (fun _ h9 => h9) rfl dX1_cut_124 ?_
          refine lv_aload_n hx hb dX1_cut_127 rfl (lv_at hl 2 rfl) ?_
          refine va_get (D := D) (ci := 1) (v := .ref (ad 2)) (C := RX1) (T := TX1) (N := 12) hx hb hts hiw hown hK hP 0 m_at0 rfl 3 (by decide) (hts (.fieldLink RX1 13 "GloveCuttersModel" "cells" "[I") (by decide +kernel)) (fun _ h9 => h9) rfl dX1_cut_128 ?_
          refine lv_iload hx hb dX1_cut_131 (lv_at hl 0 rfl) ?_
          refine lv_iload_n hx hb dX1_cut_133 rfl (lv_at hl 4 rfl) ?_
          refine lv_iload_n hx hb dX1_cut_134 rfl (lv_at hl 5 rfl) ?_
          refine va_calli (va_runS (As := [.int (nI k9), .int (bI tb)]) (rest := [.int (nI (96 * j + 12 * y9 + x9)), .ref (ad 2), .int (nI np), .ref (ad 6)]) ⟨hx, hb, hml, hown, hts⟩ (c_X1_wideOf l D k9 tb (by omega)) (va_cwS 2 hts gX1_cut_X1_wideOf rfl rfl rfl (by decide +kernel) ⟨Nat.le_trans (Nat.le_of_ble_eq_true rfl) hRf, Nat.le_trans (Nat.le_of_ble_eq_true rfl) hRl⟩) (pr_S (P_nil) hK [] rfl (hV.at hS sub_id sub_no) EnvM_c) rfl rfl hl.1 rfl (lv_room (Nat.le_of_ble_eq_true rfl)) dX1_cut_135 ⟨Nat.le_trans (Nat.le_of_ble_eq_true rfl) hRc, Nat.le_trans (Nat.le_of_ble_eq_true rfl) hRs⟩) hS (fun _ _ h => h.elim) (fun _ h => h.elim) (fun r_12 _ t H1 locs ht hvm hw_12 hB hz hk hS => ?_)
          have hP := P_kept hP hk
          obtain rfl := hw_12
          refine lv_iload_n hx hb dX1_cut_138 rfl (lv_at hl 4 rfl) ?_
          refine lv_iload_n hx hb dX1_cut_139 rfl (lv_at hl 5 rfl) ?_
          refine va_calli (va_runS (As := [.int (nI k9), .int (bI tb)]) (rest := [.int (nI (wd k9 tb)), .int (nI (96 * j + 12 * y9 + x9)), .ref (ad 2), .int (nI np), .ref (ad 6)]) ⟨hx, hb, hml, hown, hts⟩ (c_X1_highOf l D k9 tb (by omega)) (va_cwS 2 hts gX1_cut_X1_highOf rfl rfl rfl (by decide +kernel) ⟨Nat.le_trans (Nat.le_of_ble_eq_true rfl) hRf, Nat.le_trans (Nat.le_of_ble_eq_true rfl) hRl⟩) (pr_S (P_nil) hK [] rfl (hV.at hS sub_id sub_no) EnvM_c) rfl rfl hl.1 rfl (lv_room (Nat.le_of_ble_eq_true rfl)) dX1_cut_140 ⟨Nat.le_trans (Nat.le_of_ble_eq_true rfl) hRc, Nat.le_trans (Nat.le_of_ble_eq_true rfl) hRs⟩) hS (fun _ _ h => h.elim) (fun _ h => h.elim) (fun r_13 _ t H1 locs ht hvm hw_13 hB hz hk hS => ?_)
          have hP := P_kept hP hk
          obtain rfl := hw_13
          refine lv_iconst (v := nI 1) hx hb dX1_cut_143 (by decide) ?_
          refine va_calli (va_runS (As := [.ref (ad 2), .int (nI (96 * j + 12 * y9 + x9)), .int (nI (wd k9 tb)), .int (nI (hg k9 tb)), .int (nI 1)]) (rest := [.int (nI np), .ref (ad 6)]) ⟨hx, hb, hml, hown, hts⟩ (c_X1_many l D cI (ad 2) 960 (mCells F_11) (96 * j + 12 * y9 + x9) (wd k9 tb) (hg k9 tb) (nI 1) (by omega) (by omega) (by omega) (by omega) (by omega)) (va_cwS 5 hts gX1_cut_X1_many rfl rfl rfl (by decide +kernel) ⟨Nat.le_trans (Nat.le_of_ble_eq_true rfl) hRf, Nat.le_trans (Nat.le_of_ble_eq_true rfl) hRl⟩) (pr_S (P_pick hP (k := 2) m_at2) hK [0] rfl V0_at V0_c) rfl rfl hl.1 rfl (lv_room (Nat.le_of_ble_eq_true rfl)) dX1_cut_144 ⟨Nat.le_trans (Nat.le_of_ble_eq_true rfl) hRc, Nat.le_trans (Nat.le_of_ble_eq_true rfl) hRs⟩) hS (fun _ _ h => h.elim) (fun _ h => h.elim) (fun r_14 _ t H1 locs ht hvm hw_14 hB hz hk hS => ?_)
          have hP := P_kept hP hk
          obtain rfl := hw_14
          rw [ctM (by omega) (by omega)]
          have eR1 : F_11 (14 + j) = F (14 + j) := by rw [eF_11, va_up_ne _ _ (by omega), eF_10, va_up_ne _ _ (by omega), eF_9, va_up_ne _ _ (by omega)]
          rw [eR1]
          refine nv_iast hx hb hK hP hD hS 6 0 m_at6 rfl (by omega) (by omega) dX1_cut_147 (fun H locs hP hD hS => ?_)
          rw [m_set6] at hP hD
          obtain ⟨F_15, eF_15⟩ : ∃ z, z = va_up F_11 7 (upd (F_11 7) np (nI (ct (F (14 + j)) (12 * y9 + x9) (wd k9 tb) (nI 1) (wd k9 tb * hg k9 tb)))) := ⟨_, rfl⟩
          rw [← eF_15] at hP hD
          refine lv_aload_n hx hb dX1_cut_148 rfl (lv_at hl 2 rfl) ?_
          refine va_get (D := D) (ci := 1) (v := .ref (ad 2)) (C := RX1) (T := TX1) (N := 12) hx hb hts hiw hown hK hP 0 m_at0 rfl 3 (by decide) (hts (.fieldLink RX1 13 "GloveCuttersModel" "cells" "[I") (by decide +kernel)) (fun _ h9 => h9) rfl dX1_cut_149 ?_
          refine lv_iload hx hb dX1_cut_152 (lv_at hl 0 rfl) ?_
          refine lv_iload_n hx hb dX1_cut_154 rfl (lv_at hl 4 rfl) ?_
          refine lv_iload_n hx hb dX1_cut_155 rfl (lv_at hl 5 rfl) ?_
          refine va_calli (va_runS (As := [.int (nI k9), .int (bI tb)]) (rest := [.int (nI (96 * j + 12 * y9 + x9)), .ref (ad 2)]) ⟨hx, hb, hml, hown, hts⟩ (c_X1_wideOf l D k9 tb (by omega)) (va_cwS 2 hts gX1_cut_X1_wideOf rfl rfl rfl (by decide +kernel) ⟨Nat.le_trans (Nat.le_of_ble_eq_true rfl) hRf, Nat.le_trans (Nat.le_of_ble_eq_true rfl) hRl⟩) (pr_S (P_nil) hK [] rfl (hV.at hS sub_id sub_no) EnvM_c) rfl rfl hl.1 rfl (lv_room (Nat.le_of_ble_eq_true rfl)) dX1_cut_156 ⟨Nat.le_trans (Nat.le_of_ble_eq_true rfl) hRc, Nat.le_trans (Nat.le_of_ble_eq_true rfl) hRs⟩) hS (fun _ _ h => h.elim) (fun _ h => h.elim) (fun r_16 _ t H1 locs ht hvm hw_16 hB hz hk hS => ?_)
          have hP := P_kept hP hk
          obtain rfl := hw_16
          refine lv_iload_n hx hb dX1_cut_159 rfl (lv_at hl 4 rfl) ?_
          refine lv_iload_n hx hb dX1_cut_160 rfl (lv_at hl 5 rfl) ?_
          refine va_calli (va_runS (As := [.int (nI k9), .int (bI tb)]) (rest := [.int (nI (wd k9 tb)), .int (nI (96 * j + 12 * y9 + x9)), .ref (ad 2)]) ⟨hx, hb, hml, hown, hts⟩ (c_X1_highOf l D k9 tb (by omega)) (va_cwS 2 hts gX1_cut_X1_highOf rfl rfl rfl (by decide +kernel) ⟨Nat.le_trans (Nat.le_of_ble_eq_true rfl) hRf, Nat.le_trans (Nat.le_of_ble_eq_true rfl) hRl⟩) (pr_S (P_nil) hK [] rfl (hV.at hS sub_id sub_no) EnvM_c) rfl rfl hl.1 rfl (lv_room (Nat.le_of_ble_eq_true rfl)) dX1_cut_161 ⟨Nat.le_trans (Nat.le_of_ble_eq_true rfl) hRc, Nat.le_trans (Nat.le_of_ble_eq_true rfl) hRs⟩) hS (fun _ _ h => h.elim) (fun _ h => h.elim) (fun r_17 _ t H1 locs ht hvm hw_17 hB hz hk hS => ?_)
          have hP := P_kept hP hk
          obtain rfl := hw_17
          refine lv_iconst (v := nI 3) hx hb dX1_cut_164 (by decide) ?_
          refine va_callv (va_runS (As := [.ref (ad 2), .int (nI (96 * j + 12 * y9 + x9)), .int (nI (wd k9 tb)), .int (nI (hg k9 tb)), .int (nI 3)]) (rest := []) ⟨hx, hb, hml, hown, hts⟩ (c_X1_fill l D cI (ad 2) 960 (mCells F_15) (96 * j + 12 * y9 + x9) (wd k9 tb) (hg k9 tb) (nI 3) (by omega) (by omega) (by omega) (by omega) (by omega)) (va_cwS 5 hts gX1_cut_X1_fill rfl rfl rfl (by decide +kernel) ⟨Nat.le_trans (Nat.le_of_ble_eq_true rfl) hRf, Nat.le_trans (Nat.le_of_ble_eq_true rfl) hRl⟩) (pr_S (P_pick hP (k := 2) m_at2) hK [0] rfl V0_at V0_c) rfl rfl hl.1 rfl (lv_room (Nat.le_of_ble_eq_true rfl)) dX1_cut_165 ⟨Nat.le_trans (Nat.le_of_ble_eq_true rfl) hRc, Nat.le_trans (Nat.le_of_ble_eq_true rfl) hRs⟩) hS (fun q _ h => ⟨2, by omega, h⟩) (fun q h => ⟨2, by omega, h⟩) (fun _ t H1 locs ht hvm hw_18 hB hz hk hS => ?_)
          rw [ht] at hB
          have hP := P_put hP hD m_at2 hk hB
          rw [flM (by omega) (by omega) _ (Nat.le_refl _), m_set2c] at hP
          obtain ⟨F_20, eF_20⟩ : ∃ z, z = va_up F_15 (14 + j) (fl (F_15 (14 + j)) (12 * y9 + x9) (wd k9 tb) (nI 3) ((wd k9 tb) * (hg k9 tb))) := ⟨_, rfl⟩
          rw [← eF_20] at hP
          have hP : va_P D vwCl (wM cI ad (nI 0) n np nq F_20 T) _ := hP
          have hD : va_D (inA ad 8) (wM cI ad (nI 0) n np nq F_20 T) := m_D hinj
          refine lv_aload_n hx hb dX1_cut_168 rfl (lv_at hl 2 rfl) ?_
          refine lv_dup hx hb dX1_cut_169 rfl ?_
          refine va_get (D := D) (ci := 1) (v := .int (nI np)) (C := RX1) (T := TX1) (N := 12) hx hb hts hiw hown hK hP 0 m_at0 rfl 4 (by decide) (hts (.fieldLink RX1 67 "GloveCuttersModel" "pieces" "I") (by decide +kernel)) (fun _ h9 => h9) rfl dX1_cut_170 ?_
          refine lv_iconst (v := nI 1) hx hb dX1_cut_173 (by decide) ?_
          refine nv_iadd hx hb dX1_cut_174 ?_
          refine va_put (D := D) (ci := 1) (v := .int (nI (np + 1))) (ty := .int) (C := RX1) (T := TX1) (N := 12) hx hb hts hiw tyX1 tyX1_ok nmX1 hown hK hP hD hS 0 m_at0 rfl 4 (by decide) (hts (.fieldLink RX1 67 "GloveCuttersModel" "pieces" "I") (by decide +kernel)) (fun _ h9 => h9) rfl (by decide +kernel) rfl rfl (Nat.le_of_ble_eq_true rfl) dX1_cut_175 (fun H locs hP hD hS => ?_)
          have hP : va_P D vwCl (wM cI ad (nI 0) n (np + 1) nq F_20 T) H := hP
          have hD : va_D (inA ad 8) (wM cI ad (nI 0) n (np + 1) nq F_20 T) := hD
          refine lv_aload_n hx hb dX1_cut_178 rfl (lv_at hl 2 rfl) ?_
          refine va_get (D := D) (ci := 1) (v := .int (nI (np + 1))) (C := RX1) (T := TX1) (N := 12) hx hb hts hiw hown hK hP 0 m_at0 rfl 4 (by decide) (hts (.fieldLink RX1 67 "GloveCuttersModel" "pieces" "I") (by decide +kernel)) (fun _ h9 => h9) rfl dX1_cut_179 ?_
          refine lv_iconst (v := nI 1) hx hb dX1_cut_182 (by decide) ?_
          refine nv_isub hx hb (by omega) dX1_cut_183 ?_
          rw [← hQ]
          exact W.iret (v := nI ((np + 1) - 1)) hx hb hr (fun t ht hW => ⟨⟨nI ((np + 1) - 1), (), rfl, (congrArg Prod.snd (show spCut n np F (nI j) (nI k9) tb (nI x9) (nI y9) = (0, nI (np + 1 - 1)) from (by rw [show np + 1 - 1 = np by omega, spCut_1 hn hj hx9 hy9 hk9, ← efit, c_8, decide_eq_true (show np < 150 by omega)]; rfl))).symm, (by show va_P D vwCl (if (spCut n np F (nI j) (nI k9) tb (nI x9) (nI y9)).1 = 0 then wM cI ad (nI 0) n (np + 1) nq (stCut F np (nI j) (nI k9) tb (nI x9) (nI y9)) T else wM cI ad (nI (spCut n np F (nI j) (nI k9) tb (nI x9) (nI y9)).1) n np nq F T) t.heap; rw [show spCut n np F (nI j) (nI k9) tb (nI x9) (nI y9) = (0, nI (np + 1 - 1)) from (by rw [show np + 1 - 1 = np by omega, spCut_1 hn hj hx9 hy9 hk9, ← efit, c_8, decide_eq_true (show np < 150 by omega)]; rfl), ht]; rw [if_pos rfl]; rw [stCut_n (by omega) hx9 hy9 hk9]; have eR2 : F_15 (14 + j) = F (14 + j) := (by rw [eF_15, va_up_ne _ _ (by omega)]; exact eR1); rw [eR2] at eF_20; have e8 : cutF F np j k9 tb (12 * y9 + x9) = va_up F_20 2 (upd (F 2) j (F 2 j + nI 1)) := (by rw [eF_20]; subst eF_15 eF_11 eF_10 eF_9; rfl); rw [e8, wM_up (Or.inl rfl)]; exact hP)⟩, hS.F ht⟩) hS.2.2 dX1_cut_184
        · refine lv_aload_n hx hb dX1_cut_74 rfl (lv_at hl 1 rfl) ?_
          refine lv_iconst (v := nI 3) hx hb dX1_cut_75 (by decide) ?_
          refine va_calli (va_runV (As := [.int (nI 3)]) (rest := []) ⟨hx, hb, hml, hown, hts⟩ (c_X1_no l D cI ad (nI 0) n np nq F T 3 hinj) (cwV 1 hts gX1_cut_X1_no rfl rfl rfl (by decide +kernel) ⟨Nat.le_trans (Nat.le_of_ble_eq_true rfl) hRf, Nat.le_trans (Nat.le_of_ble_eq_true rfl) hRl⟩) (pr_V hP (ci := 1) (q0 := 0) rfl m_at0 rfl hP hK [0] rfl V0_at V0_c) rfl rfl hl.1 rfl (lv_room (Nat.le_of_ble_eq_true rfl)) dX1_cut_76 ⟨Nat.le_trans (Nat.le_of_ble_eq_true rfl) hRc, Nat.le_trans (Nat.le_of_ble_eq_true rfl) hRs⟩) hS (fun _ _ h => h) (fun _ h => h) (fun r_21 _ t H1 locs ht hvm hw_21 hB hz hk hS => ?_)
          rw [ht] at hB
          have hP := hB
          have hP : va_P D vwCl (wM cI ad (nI 3) n np nq F T) H1 := hP
          have hD : va_D (inA ad 8) (wM cI ad (nI 3) n np nq F T) := m_D hinj
          obtain rfl := hw_21
          rw [← hQ]
          exact W.iret (v := nI 0) hx hb hr (fun t ht hW => ⟨⟨nI 0, (), rfl, (congrArg Prod.snd (show spCut n np F (nI j) (nI k9) tb (nI x9) (nI y9) = (3, 0) from (by rw [spCut_1 hn hj hx9 hy9 hk9, ← efit, c_8]; rfl))).symm, (by show va_P D vwCl (if (spCut n np F (nI j) (nI k9) tb (nI x9) (nI y9)).1 = 0 then wM cI ad (nI 0) n (np + 1) nq (stCut F np (nI j) (nI k9) tb (nI x9) (nI y9)) T else wM cI ad (nI (spCut n np F (nI j) (nI k9) tb (nI x9) (nI y9)).1) n np nq F T) t.heap; rw [show spCut n np F (nI j) (nI k9) tb (nI x9) (nI y9) = (3, 0) from (by rw [spCut_1 hn hj hx9 hy9 hk9, ← efit, c_8]; rfl), ht]; rw [if_neg (by decide)]; exact hP)⟩, hS.F ht⟩) hS.2.2 dX1_cut_79
    · refine lv_aload_n hx hb dX1_cut_30 rfl (lv_at hl 0 rfl) ?_
      refine lv_iconst (v := nI 2) hx hb dX1_cut_31 (by decide) ?_
      refine va_calli (va_runV (As := [.int (nI 2)]) (rest := []) ⟨hx, hb, hml, hown, hts⟩ (c_X1_no l D cI ad (nI 0) n np nq F T 2 hinj) (cwV 1 hts gX1_cut_X1_no rfl rfl rfl (by decide +kernel) ⟨Nat.le_trans (Nat.le_of_ble_eq_true rfl) hRf, Nat.le_trans (Nat.le_of_ble_eq_true rfl) hRl⟩) (pr_V hP (ci := 1) (q0 := 0) rfl m_at0 rfl hP hK [0] rfl V0_at V0_c) rfl rfl hl.1 rfl (lv_room (Nat.le_of_ble_eq_true rfl)) dX1_cut_32 ⟨Nat.le_trans (Nat.le_of_ble_eq_true rfl) hRc, Nat.le_trans (Nat.le_of_ble_eq_true rfl) hRs⟩) hS (fun _ _ h => h) (fun _ h => h) (fun r_22 _ t H1 locs ht hvm hw_22 hB hz hk hS => ?_)
      rw [ht] at hB
      have hP := hB
      have hP : va_P D vwCl (wM cI ad (nI 2) n np nq F T) H1 := hP
      have hD : va_D (inA ad 8) (wM cI ad (nI 2) n np nq F T) := m_D hinj
      obtain rfl := hw_22
      rw [← hQ]
      exact W.iret (v := nI 0) hx hb hr (fun t ht hW => ⟨⟨nI 0, (), rfl, (congrArg Prod.snd (show spCut n np F (nI j) k0 tb (nI x9) (nI y9) = (2, 0) from (by unfold spCut; rw [inR_in hj (by omega), inR_in hx9 (by omega), inR_in hy9 (by omega), c_4]; rfl))).symm, (by show va_P D vwCl (if (spCut n np F (nI j) k0 tb (nI x9) (nI y9)).1 = 0 then wM cI ad (nI 0) n (np + 1) nq (stCut F np (nI j) k0 tb (nI x9) (nI y9)) T else wM cI ad (nI (spCut n np F (nI j) k0 tb (nI x9) (nI y9)).1) n np nq F T) t.heap; rw [show spCut n np F (nI j) k0 tb (nI x9) (nI y9) = (2, 0) from (by unfold spCut; rw [inR_in hj (by omega), inR_in hx9 (by omega), inR_in hy9 (by omega), c_4]; rfl), ht]; rw [if_neg (by decide)]; exact hP)⟩, hS.F ht⟩) hS.2.2 dX1_cut_35
  · refine lv_aload_n hx hb dX1_cut_17 rfl (lv_at hl 0 rfl) ?_
    refine lv_iconst (v := nI 1) hx hb dX1_cut_18 (by decide) ?_
    refine va_calli (va_runV (As := [.int (nI 1)]) (rest := []) ⟨hx, hb, hml, hown, hts⟩ (c_X1_no l D cI ad (nI 0) n np nq F T 1 hinj) (cwV 1 hts gX1_cut_X1_no rfl rfl rfl (by decide +kernel) ⟨Nat.le_trans (Nat.le_of_ble_eq_true rfl) hRf, Nat.le_trans (Nat.le_of_ble_eq_true rfl) hRl⟩) (pr_V hP (ci := 1) (q0 := 0) rfl m_at0 rfl hP hK [0] rfl V0_at V0_c) rfl rfl hl.1 rfl (lv_room (Nat.le_of_ble_eq_true rfl)) dX1_cut_19 ⟨Nat.le_trans (Nat.le_of_ble_eq_true rfl) hRc, Nat.le_trans (Nat.le_of_ble_eq_true rfl) hRs⟩) hS (fun _ _ h => h) (fun _ h => h) (fun r_23 _ t H1 locs ht hvm hw_23 hB hz hk hS => ?_)
    rw [ht] at hB
    have hP := hB
    have hP : va_P D vwCl (wM cI ad (nI 1) n np nq F T) H1 := hP
    have hD : va_D (inA ad 8) (wM cI ad (nI 1) n np nq F T) := m_D hinj
    obtain rfl := hw_23
    rw [← hQ]
    exact W.iret (v := nI 0) hx hb hr (fun t ht hW => ⟨⟨nI 0, (), rfl, (congrArg Prod.snd (show spCut n np F s0 k0 tb x0 y0 = (1, 0) from (by unfold spCut; rw [c_2]; rfl))).symm, (by show va_P D vwCl (if (spCut n np F s0 k0 tb x0 y0).1 = 0 then wM cI ad (nI 0) n (np + 1) nq (stCut F np s0 k0 tb x0 y0) T else wM cI ad (nI (spCut n np F s0 k0 tb x0 y0).1) n np nq F T) t.heap; rw [show spCut n np F s0 k0 tb x0 y0 = (1, 0) from (by unfold spCut; rw [c_2]; rfl), ht]; rw [if_neg (by decide)]; exact hP)⟩, hS.F ht⟩) hS.2.2 dX1_cut_22
set_option maxHeartbeats 4000000 in
set_option maxRecDepth 100000 in
/-- rip -/
theorem c_X1_rip (l : Launch) (D : va_G) (cI : ClassId) (ad : Nat → Nat) (th : Int32) (n np nq : Nat) (F : Nat → Nat → Int32) (T : Nat → Int32) (q0 : Int32) (hinj : inj ad 8) (hnp : np ≤ 150) (hnq : nq ≤ 20) (hrip : ∀ q, q < nq → F 12 q = 0 ∨ F 12 q = 1) : Met l yX1_rip wsX1_rip ({ frames := 1, cells := 0, slots := 0, locals := 22 } : Room) (va_Pc [.ref (ad 0), .int q0] (Pr D [(cI, .int)] (wM cI ad th n np nq F T) V0)) (va_Qi (S := Unit) (fun (r : Int32) (_ : Unit) => r = (spRip np nq F q0).2) (fun (_ : Unit) (t : State) => va_P D vwCl (if (spRip np nq F q0).1 = 0 then wM cI ad (nI 0) n np nq (ripF F np (cl q0)) T else wM cI ad (nI (spRip np nq F q0).1) n np nq F T) t.heap) (inA ad 8)) 0 0 (inA ad 8) := by
  refine Met.ofW (cc := cX1_rip) (maxL := 4) (ret := (some .int)) (by decide) rfl ?_
  intro p e s m args below meth c s₁ B hml hv
  obtain ⟨hargs, hP, hK, hV⟩ := hv
  have hx := B.exec
  have hb := B.bytes
  have hr := B.returns
  have hts := atoms_spec (ws := wsX1_rip) B.pre
  have hown : s.vm.findClass RX1 = some m.cls := findClass_of_methodNamed B.named
  have hlocks := B.notSynchronized
  have hS : va_S (fun _ => False) s.heap s.heap [] := va_S.rf
  have hiw : ∀ w ∈ wsX10, w ∈ wsX1_rip := (fun _ h => List.mem_cons_of_mem _ (List.mem_append_right _ h))
  have hRf : 1 ≤ (headSpec wsX1_rip ({ frames := 1, cells := 0, slots := 0, locals := 22 } : Room)).room.frames := Nat.le_refl _
  have hRl : 22 ≤ (headSpec wsX1_rip ({ frames := 1, cells := 0, slots := 0, locals := 22 } : Room)).room.locals := Nat.le_refl _
  have hRc : 0 ≤ (headSpec wsX1_rip ({ frames := 1, cells := 0, slots := 0, locals := 22 } : Room)).room.cells := Nat.le_refl _
  have hRs : 0 ≤ (headSpec wsX1_rip ({ frames := 1, cells := 0, slots := 0, locals := 22 } : Room)).room.slots := Nat.le_refl _
  generalize (headSpec wsX1_rip ({ frames := 1, cells := 0, slots := 0, locals := 22 } : Room)).room = R at hRf hRl hRc hRs ⊢
  have hl := lv_entry [.ref (ad 0), .int q0] (n := 4) (Nat.le_of_ble_eq_true rfl)
  refine W.eq (show entryFrame m args 4 = _ from by rw [hargs, lg_entry_eq]) ?_
  generalize (lg_sl [.ref (ad 0), .int q0] ++ List.replicate (4 - (lg_sl [.ref (ad 0), .int q0]).length) Slot.unset).toArray = ls at hl ⊢
  have hl : lv_has ls 4 [(0, .ref (ad 0)), (1, .int q0)] := hl
  have hD : va_D (inA ad 8) (wM cI ad th n np nq F T) := m_D hinj
  generalize hQ : MQ _ _ _ _ _ _ _ = Q
  refine lv_aload_n hx hb dX1_rip_0 rfl (lv_at hl 0 rfl) ?_
  refine lv_iconst (v := nI 0) hx hb dX1_rip_1 (by decide) ?_
  have hS : va_S (inA ad 8) s.heap _ _ := S_mono hS
  refine va_put (D := D) (ci := 1) (v := .int (nI 0)) (ty := .int) (C := RX1) (T := TX1) (N := 12) hx hb hts hiw tyX1 tyX1_ok nmX1 hown hK hP hD hS 0 m_at0 rfl 0 (by decide) (hts (.fieldLink RX1 34 "GloveCuttersModel" "thrown" "I") (by decide +kernel)) (fun _ h9 => h9) rfl (by decide +kernel) rfl rfl (Nat.le_of_ble_eq_true rfl) dX1_rip_2 (fun H locs hP hD hS => ?_)
  have hP : va_P D vwCl (wM cI ad (nI 0) n np nq F T) H := hP
  have hD : va_D (inA ad 8) (wM cI ad (nI 0) n np nq F T) := hD
  refine lv_iload_n hx hb dX1_rip_5 rfl (lv_at hl 1 rfl) ?_
  refine lv_iconst (v := nI 0) hx hb dX1_rip_6 (by decide) ?_
  refine lv_aload_n hx hb dX1_rip_7 rfl (lv_at hl 0 rfl) ?_
  refine va_get (D := D) (ci := 1) (v := .int (nI nq)) (C := RX1) (T := TX1) (N := 12) hx hb hts hiw hown hK hP 0 m_at0 rfl 9 (by decide) (hts (.fieldLink RX1 119 "GloveCuttersModel" "pairs" "I") (by decide +kernel)) (fun _ h9 => h9) rfl dX1_rip_8 ?_
  refine lv_iconst (v := nI 1) hx hb dX1_rip_11 (by decide) ?_
  refine lv_isub hx hb dX1_rip_12 ?_
  refine va_calli (va_runS (As := [.int q0, .int (nI 0), .int ((nI nq) - (nI 1))]) (rest := []) ⟨hx, hb, hml, hown, hts⟩ (c_X1_isIn l D q0 (nI 0) ((nI nq) - (nI 1)) ) (va_cwS 3 hts gX1_rip_X1_isIn rfl rfl rfl (by decide +kernel) ⟨Nat.le_trans (Nat.le_of_ble_eq_true rfl) hRf, Nat.le_trans (Nat.le_of_ble_eq_true rfl) hRl⟩) (pr_S (P_nil) hK [] rfl V0_at V0_c) rfl rfl hl.1 rfl (lv_room (Nat.le_of_ble_eq_true rfl)) dX1_rip_13 ⟨Nat.le_trans (Nat.le_of_ble_eq_true rfl) hRc, Nat.le_trans (Nat.le_of_ble_eq_true rfl) hRs⟩) hS (fun _ _ h => h.elim) (fun _ h => h.elim) (fun r_1 _ t H1 locs ht hvm hw_1 hB hz hk hS => ?_)
  have hP := P_kept hP hk
  obtain rfl := hw_1
  refine nb_if_ne (tgt := 25) hx hb dX1_rip_16 (by decide) (fun c_2 => ?_) (fun c_2 => ?_)
  · obtain ⟨j, hj, rfl⟩ := inR_t (n := nq) (by omega) (by rw [← isI_n (by omega)]; exact c_2)
    refine lv_aload_n hx hb dX1_rip_25 rfl (lv_at hl 0 rfl) ?_
    refine va_get (D := D) (ci := 1) (v := .ref (ad 7)) (C := RX1) (T := TX1) (N := 12) hx hb hts hiw hown hK hP 0 m_at0 rfl 10 (by decide) (hts (.fieldLink RX1 28 "GloveCuttersModel" "book" "[I") (by decide +kernel)) (fun _ h9 => h9) rfl dX1_rip_26 ?_
    refine lv_iconst (v := nI 5) hx hb dX1_rip_29 (by decide) ?_
    refine lv_iload_n hx hb dX1_rip_30 rfl (lv_at hl 1 rfl) ?_
    refine nv_imul hx hb dX1_rip_31 ?_
    refine lv_iconst (v := nI 4) hx hb dX1_rip_32 (by decide) ?_
    refine nv_iadd hx hb dX1_rip_33 ?_
    refine nv_iald hx hb hK hP 7 0 m_at7 rfl (by omega) (by omega) dX1_rip_34 ?_
    rw [show mBook F (5 * j + 4) = F 12 j from mBook_r (r := 4) (by decide)]
    refine lv_iconst (v := nI 1) hx hb dX1_rip_35 (by decide) ?_
    refine lv_icmp_ne (tgt := 45) hx hb dX1_rip_36 (by decide) (fun c_3 => ?_) (fun c_3 => ?_)
    · refine lv_aload_n hx hb dX1_rip_45 rfl (lv_at hl 0 rfl) ?_
      refine va_get (D := D) (ci := 1) (v := .ref (ad 7)) (C := RX1) (T := TX1) (N := 12) hx hb hts hiw hown hK hP 0 m_at0 rfl 10 (by decide) (hts (.fieldLink RX1 28 "GloveCuttersModel" "book" "[I") (by decide +kernel)) (fun _ h9 => h9) rfl dX1_rip_46 ?_
      refine lv_iconst (v := nI 5) hx hb dX1_rip_49 (by decide) ?_
      refine lv_iload_n hx hb dX1_rip_50 rfl (lv_at hl 1 rfl) ?_
      refine nv_imul hx hb dX1_rip_51 ?_
      refine lv_iconst (v := nI 4) hx hb dX1_rip_52 (by decide) ?_
      refine nv_iadd hx hb dX1_rip_53 ?_
      refine lv_iconst (v := nI 1) hx hb dX1_rip_54 (by decide) ?_
      refine nv_iast hx hb hK hP hD hS 7 0 m_at7 rfl (by omega) (by omega) dX1_rip_55 (fun H locs hP hD hS => ?_)
      rw [mBook_upd (r := 4) (nI 1) (by decide), m_set7 rfl (fun k hk => va_up_ne _ _ (by omega))] at hP hD
      obtain ⟨F_4, eF_4⟩ : ∃ z, z = va_up F (8 + 4) (upd (F (8 + 4)) j (nI 1)) := ⟨_, rfl⟩
      rw [← eF_4] at hP hD
      have eF_b : F_4 = va_up F 12 (upd (F 12) j (nI 1)) := eF_4
      refine lv_iconst (v := nI 0) hx hb dX1_rip_56 (by decide) ?_
      refine lv_istore_n (lv' := [(2, .int (nI 0)), (0, .ref (ad 0)), (1, .int (nI j))]) hx hb dX1_rip_57 rfl hl (by decide) rfl (fun ls hl => ?_)
      refine lv_iconst (v := nI 0) hx hb dX1_rip_58 (by decide) ?_
      refine lv_istore_n (lv' := [(3, .int (nI 0)), (2, .int (nI 0)), (0, .ref (ad 0)), (1, .int (nI j))]) hx hb dX1_rip_59 rfl hl (by decide) rfl (fun ls hl => ?_)
      have L60 : ∀ (fu : Nat) (k : Nat) (i : Nat) (G : Nat → Nat → Int32) (H : Heap) (locs : List Loc) (ls : Array Slot), np - i < fu → (i ≤ np) → (k = rpc (F 5) (nI j) (F 6) i) → (k ≤ i) → (G = va_up (va_up F 12 (upd (F 12) j (nI 1))) 6 (rp (F 5) (nI j) (F 6) i)) → va_P D vwCl (wM cI ad (nI 0) n np nq G T) H → va_D (inA ad 8) (wM cI ad (nI 0) n np nq G T) → va_S (inA ad 8) s.heap H locs → lv_has ls 4 [(0, .ref (ad 0)), (1, .int (nI j)), (2, .int (nI k)), (3, .int (nI i))] → W p l e R s m args below meth c H locs 0 0 Q (F0 m 60 ls []) := by
        intro fu
        induction fu with
        | zero => intro _ _ _ _ _ _ h; exact absurd h (Nat.not_lt_zero _)
        | succ fu ih60 =>
          intro k i G H locs ls hm60 h1 h2 h3 hG hP hD hS hl
          refine lv_iload_n hx hb dX1_rip_60 rfl (lv_at hl 3 rfl) ?_
          refine lv_aload_n hx hb dX1_rip_61 rfl (lv_at hl 0 rfl) ?_
          refine va_get (D := D) (ci := 1) (v := .int (nI np)) (C := RX1) (T := TX1) (N := 12) hx hb hts hiw hown hK hP 0 m_at0 rfl 4 (by decide) (hts (.fieldLink RX1 67 "GloveCuttersModel" "pieces" "I") (by decide +kernel)) (fun _ h9 => h9) rfl dX1_rip_62 ?_
          refine nv_icmp_ge (tgt := 127) hx hb (by omega) (by omega) dX1_rip_65 (by decide) (fun c_5 => ?_) (fun c_5 => ?_)
          · refine lv_iload_n hx hb dX1_rip_127 rfl (lv_at hl 2 rfl) ?_
            rw [← hQ]
            exact W.iret (v := nI k) hx hb hr (fun t ht hW => ⟨⟨nI k, (), rfl, (congrArg Prod.snd (show spRip np nq F (nI j) = (0, nI k) from (by rw [spRip_1 hnq hj, beq_t ((hrip j hj).resolve_right c_3), h2, show i = np by omega]; rfl))).symm, (by show va_P D vwCl (if (spRip np nq F (nI j)).1 = 0 then wM cI ad (nI 0) n np nq (ripF F np (cl (nI j))) T else wM cI ad (nI (spRip np nq F (nI j)).1) n np nq F T) t.heap; rw [show spRip np nq F (nI j) = (0, nI k) from (by rw [spRip_1 hnq hj, beq_t ((hrip j hj).resolve_right c_3), h2, show i = np by omega]; rfl), ht]; rw [if_pos rfl]; rw [cl_n (by omega)]; have e8 : ripF F np j = G := (by rw [hG, show i = np by omega]; rfl); rw [e8]; exact hP)⟩, hS.F ht⟩) hS.2.2 dX1_rip_128
          · refine lv_aload_n hx hb dX1_rip_68 rfl (lv_at hl 0 rfl) ?_
            refine va_get (D := D) (ci := 1) (v := .ref (ad 5)) (C := RX1) (T := TX1) (N := 12) hx hb hts hiw hown hK hP 0 m_at0 rfl 7 (by decide) (hts (.fieldLink RX1 22 "GloveCuttersModel" "pairOf" "[I") (by decide +kernel)) (fun _ h9 => h9) rfl dX1_rip_69 ?_
            refine lv_iload_n hx hb dX1_rip_72 rfl (lv_at hl 3 rfl) ?_
            refine nv_iald hx hb hK hP 5 0 m_at5 rfl (by omega) (by omega) dX1_rip_73 ?_
            refine lv_iload_n hx hb dX1_rip_74 rfl (lv_at hl 1 rfl) ?_
            refine lv_icmp_eq (tgt := 81) hx hb dX1_rip_75 (by decide) (fun c_6 => ?_) (fun c_6 => ?_)
            · refine lv_aload_n hx hb dX1_rip_81 rfl (lv_at hl 0 rfl) ?_
              refine va_get (D := D) (ci := 1) (v := .ref (ad 5)) (C := RX1) (T := TX1) (N := 12) hx hb hts hiw hown hK hP 0 m_at0 rfl 7 (by decide) (hts (.fieldLink RX1 22 "GloveCuttersModel" "pairOf" "[I") (by decide +kernel)) (fun _ h9 => h9) rfl dX1_rip_82 ?_
              refine lv_iload_n hx hb dX1_rip_85 rfl (lv_at hl 3 rfl) ?_
              refine lv_aload_n hx hb dX1_rip_86 rfl (lv_at hl 0 rfl) ?_
              refine va_get (D := D) (ci := 1) (v := .ref (ad 4)) (C := RX1) (T := TX1) (N := 12) hx hb hts hiw hown hK hP 0 m_at0 rfl 6 (by decide) (hts (.fieldLink RX1 19 "GloveCuttersModel" "kindOf" "[I") (by decide +kernel)) (fun _ h9 => h9) rfl dX1_rip_87 ?_
              refine lv_iload_n hx hb dX1_rip_90 rfl (lv_at hl 3 rfl) ?_
              refine nv_iald hx hb hK hP 4 0 m_at4 rfl (by omega) (by omega) dX1_rip_91 ?_
              refine lv_iconst (v := nI 2) hx hb dX1_rip_92 (by decide) ?_
              refine lv_icmp_ne (tgt := 101) hx hb dX1_rip_93 (by decide) (fun c_7 => ?_) (fun c_7 => ?_)
              · refine lv_iconst (v := -1) hx hb dX1_rip_101 (by decide) ?_
                refine nv_iast hx hb hK hP hD hS 5 0 m_at5 rfl (by omega) (by omega) dX1_rip_102 (fun H locs hP hD hS => ?_)
                rw [m_set5] at hP hD
                obtain ⟨F_8, eF_8⟩ : ∃ z, z = va_up G 6 (upd (G 6) i (-1)) := ⟨_, rfl⟩
                rw [← eF_8] at hP hD
                refine lv_iload_n hx hb dX1_rip_103 rfl (lv_at hl 2 rfl) ?_
                refine lv_aload_n hx hb dX1_rip_104 rfl (lv_at hl 0 rfl) ?_
                refine va_get (D := D) (ci := 1) (v := .ref (ad 4)) (C := RX1) (T := TX1) (N := 12) hx hb hts hiw hown hK hP 0 m_at0 rfl 6 (by decide) (hts (.fieldLink RX1 19 "GloveCuttersModel" "kindOf" "[I") (by decide +kernel)) (fun _ h9 => h9) rfl dX1_rip_105 ?_
                refine lv_iload_n hx hb dX1_rip_108 rfl (lv_at hl 3 rfl) ?_
                refine nv_iald hx hb hK hP 4 0 m_at4 rfl (by omega) (by omega) dX1_rip_109 ?_
                refine lv_iconst (v := nI 2) hx hb dX1_rip_110 (by decide) ?_
                refine lv_icmp_ne (tgt := 118) hx hb dX1_rip_111 (by decide) (fun c_9 => ?_) (fun c_9 => ?_)
                · refine lv_iconst (v := nI 1) hx hb dX1_rip_118 (by decide) ?_
                  refine nv_iadd hx hb dX1_rip_119 ?_
                  refine lv_istore_n (lv' := [(2, .int (nI (k + 1))), (0, .ref (ad 0)), (1, .int (nI j)), (3, .int (nI i))]) hx hb dX1_rip_120 rfl hl (by decide) rfl (fun ls hl => ?_)
                  refine lv_iinc (k := 3) (v := nI (i + 1)) (lv' := [(3, .int (nI (i + 1))), (2, .int (nI (k + 1))), (0, .ref (ad 0)), (1, .int (nI j))]) hx hb dX1_rip_121 hl rfl (nI_add i 1) (by decide) rfl (fun ls hl => ?_)
                  refine lv_goto (tgt := 60) hx hb dX1_rip_124 (by decide) ?_
                  exact ih60 (k + 1) (i + 1) F_8 _ _ _ (by omega) (by omega) (by rw [(rp_f (show rp (F 5) (nI j) (F 6) i i = nI j by have q9 := c_6; rw [hG, va_up_self] at q9; exact q9) (fun q9 => c_7 ((show G 5 i = F 5 i by rw [hG]; rfl).trans q9))).2, ← h2]) (by omega) (by rw [(rp_f (show rp (F 5) (nI j) (F 6) i i = nI j by have q9 := c_6; rw [hG, va_up_self] at q9; exact q9) (fun q9 => c_7 ((show G 5 i = F 5 i by rw [hG]; rfl).trans q9))).1, eF_8, hG, uu, va_up_self]) hP hD hS (lv_sub hl [2, 3, 1, 0] rfl)
                · exact absurd ((show G 5 i = F 5 i by rw [hG]; rfl).trans ((show F_8 5 i = F 5 i by rw [eF_8, hG]; rfl).symm.trans c_9)) c_7
              · refine lv_bipush (v := -2) hx hb dX1_rip_96 (by decide) ?_
                refine lv_goto (tgt := 102) hx hb dX1_rip_98 (by decide) ?_
                refine nv_iast hx hb hK hP hD hS 5 0 m_at5 rfl (by omega) (by omega) dX1_rip_102 (fun H locs hP hD hS => ?_)
                rw [m_set5] at hP hD
                obtain ⟨F_10, eF_10⟩ : ∃ z, z = va_up G 6 (upd (G 6) i (-2)) := ⟨_, rfl⟩
                rw [← eF_10] at hP hD
                refine lv_iload_n hx hb dX1_rip_103 rfl (lv_at hl 2 rfl) ?_
                refine lv_aload_n hx hb dX1_rip_104 rfl (lv_at hl 0 rfl) ?_
                refine va_get (D := D) (ci := 1) (v := .ref (ad 4)) (C := RX1) (T := TX1) (N := 12) hx hb hts hiw hown hK hP 0 m_at0 rfl 6 (by decide) (hts (.fieldLink RX1 19 "GloveCuttersModel" "kindOf" "[I") (by decide +kernel)) (fun _ h9 => h9) rfl dX1_rip_105 ?_
                refine lv_iload_n hx hb dX1_rip_108 rfl (lv_at hl 3 rfl) ?_
                refine nv_iald hx hb hK hP 4 0 m_at4 rfl (by omega) (by omega) dX1_rip_109 ?_
                refine lv_iconst (v := nI 2) hx hb dX1_rip_110 (by decide) ?_
                refine lv_icmp_ne (tgt := 118) hx hb dX1_rip_111 (by decide) (fun c_11 => ?_) (fun c_11 => ?_)
                · exact absurd ((show F_10 5 i = F 5 i by rw [eF_10, hG]; rfl).trans ((show G 5 i = F 5 i by rw [hG]; rfl).symm.trans c_7)) c_11
                · refine lv_iconst (v := nI 0) hx hb dX1_rip_114 (by decide) ?_
                  refine lv_goto (tgt := 119) hx hb dX1_rip_115 (by decide) ?_
                  refine nv_iadd hx hb dX1_rip_119 ?_
                  refine lv_istore_n (lv' := [(2, .int (nI (k + 0))), (0, .ref (ad 0)), (1, .int (nI j)), (3, .int (nI i))]) hx hb dX1_rip_120 rfl hl (by decide) rfl (fun ls hl => ?_)
                  refine lv_iinc (k := 3) (v := nI (i + 1)) (lv' := [(3, .int (nI (i + 1))), (2, .int (nI (k + 0))), (0, .ref (ad 0)), (1, .int (nI j))]) hx hb dX1_rip_121 hl rfl (nI_add i 1) (by decide) rfl (fun ls hl => ?_)
                  refine lv_goto (tgt := 60) hx hb dX1_rip_124 (by decide) ?_
                  exact ih60 (k + 0) (i + 1) F_10 _ _ _ (by omega) (by omega) (by rw [(rp_l (show rp (F 5) (nI j) (F 6) i i = nI j by have q9 := c_6; rw [hG, va_up_self] at q9; exact q9) ((show G 5 i = F 5 i by rw [hG]; rfl).symm.trans c_7)).2]; exact h2) (by omega) (by rw [(rp_l (show rp (F 5) (nI j) (F 6) i i = nI j by have q9 := c_6; rw [hG, va_up_self] at q9; exact q9) ((show G 5 i = F 5 i by rw [hG]; rfl).symm.trans c_7)).1, eF_10, hG, uu, va_up_self]) hP hD hS (lv_sub hl [2, 3, 1, 0] rfl)
            · refine lv_goto (tgt := 121) hx hb dX1_rip_78 (by decide) ?_
              refine lv_iinc (k := 3) (v := nI (i + 1)) (lv' := [(3, .int (nI (i + 1))), (0, .ref (ad 0)), (1, .int (nI j)), (2, .int (nI k))]) hx hb dX1_rip_121 hl rfl (nI_add i 1) (by decide) rfl (fun ls hl => ?_)
              refine lv_goto (tgt := 60) hx hb dX1_rip_124 (by decide) ?_
              exact ih60 k (i + 1) G _ _ _ (by omega) (by omega) (by rw [(rp_n (fun q9 => c_6 (by rw [hG, va_up_self]; exact q9))).2]; exact h2) (by omega) (by rw [(rp_n (fun q9 => c_6 (by rw [hG, va_up_self]; exact q9))).1]; exact hG) hP hD hS (lv_sub hl [1, 2, 3, 0] rfl)
      exact L60 _ 0 0 F_4 _ _ _ (Nat.lt_succ_self _) (by omega) rfl (by omega) (by rw [eF_b]; exact (va_up_id _ 6).symm) hP hD hS (lv_sub hl [2, 3, 1, 0] rfl)
    · refine lv_aload_n hx hb dX1_rip_39 rfl (lv_at hl 0 rfl) ?_
      refine lv_iconst (v := nI 2) hx hb dX1_rip_40 (by decide) ?_
      refine va_calli (va_runV (As := [.int (nI 2)]) (rest := []) ⟨hx, hb, hml, hown, hts⟩ (c_X1_no l D cI ad (nI 0) n np nq F T 2 hinj) (cwV 1 hts gX1_rip_X1_no rfl rfl rfl (by decide +kernel) ⟨Nat.le_trans (Nat.le_of_ble_eq_true rfl) hRf, Nat.le_trans (Nat.le_of_ble_eq_true rfl) hRl⟩) (pr_V hP (ci := 1) (q0 := 0) rfl m_at0 rfl hP hK [0] rfl V0_at V0_c) rfl rfl hl.1 rfl (lv_room (Nat.le_of_ble_eq_true rfl)) dX1_rip_41 ⟨Nat.le_trans (Nat.le_of_ble_eq_true rfl) hRc, Nat.le_trans (Nat.le_of_ble_eq_true rfl) hRs⟩) hS (fun _ _ h => h) (fun _ h => h) (fun r_12 _ t H1 locs ht hvm hw_12 hB hz hk hS => ?_)
      rw [ht] at hB
      have hP := hB
      have hP : va_P D vwCl (wM cI ad (nI 2) n np nq F T) H1 := hP
      have hD : va_D (inA ad 8) (wM cI ad (nI 2) n np nq F T) := m_D hinj
      obtain rfl := hw_12
      rw [← hQ]
      exact W.iret (v := nI 0) hx hb hr (fun t ht hW => ⟨⟨nI 0, (), rfl, (congrArg Prod.snd (show spRip np nq F (nI j) = (2, 0) from (by rw [spRip_1 hnq hj, show F 12 j = nI 1 from c_3]; rfl))).symm, (by show va_P D vwCl (if (spRip np nq F (nI j)).1 = 0 then wM cI ad (nI 0) n np nq (ripF F np (cl (nI j))) T else wM cI ad (nI (spRip np nq F (nI j)).1) n np nq F T) t.heap; rw [show spRip np nq F (nI j) = (2, 0) from (by rw [spRip_1 hnq hj, show F 12 j = nI 1 from c_3]; rfl), ht]; rw [if_neg (by decide)]; exact hP)⟩, hS.F ht⟩) hS.2.2 dX1_rip_44
  · refine lv_aload_n hx hb dX1_rip_19 rfl (lv_at hl 0 rfl) ?_
    refine lv_iconst (v := nI 1) hx hb dX1_rip_20 (by decide) ?_
    refine va_calli (va_runV (As := [.int (nI 1)]) (rest := []) ⟨hx, hb, hml, hown, hts⟩ (c_X1_no l D cI ad (nI 0) n np nq F T 1 hinj) (cwV 1 hts gX1_rip_X1_no rfl rfl rfl (by decide +kernel) ⟨Nat.le_trans (Nat.le_of_ble_eq_true rfl) hRf, Nat.le_trans (Nat.le_of_ble_eq_true rfl) hRl⟩) (pr_V hP (ci := 1) (q0 := 0) rfl m_at0 rfl hP hK [0] rfl V0_at V0_c) rfl rfl hl.1 rfl (lv_room (Nat.le_of_ble_eq_true rfl)) dX1_rip_21 ⟨Nat.le_trans (Nat.le_of_ble_eq_true rfl) hRc, Nat.le_trans (Nat.le_of_ble_eq_true rfl) hRs⟩) hS (fun _ _ h => h) (fun _ h => h) (fun r_13 _ t H1 locs ht hvm hw_13 hB hz hk hS => ?_)
    rw [ht] at hB
    have hP := hB
    have hP : va_P D vwCl (wM cI ad (nI 1) n np nq F T) H1 := hP
    have hD : va_D (inA ad 8) (wM cI ad (nI 1) n np nq F T) := m_D hinj
    obtain rfl := hw_13
    rw [← hQ]
    exact W.iret (v := nI 0) hx hb hr (fun t ht hW => ⟨⟨nI 0, (), rfl, (congrArg Prod.snd (show spRip np nq F q0 = (1, 0) from (by unfold spRip; rw [← isI_n (by omega), c_2]; rfl))).symm, (by show va_P D vwCl (if (spRip np nq F q0).1 = 0 then wM cI ad (nI 0) n np nq (ripF F np (cl q0)) T else wM cI ad (nI (spRip np nq F q0).1) n np nq F T) t.heap; rw [show spRip np nq F q0 = (1, 0) from (by unfold spRip; rw [← isI_n (by omega), c_2]; rfl), ht]; rw [if_neg (by decide)]; exact hP)⟩, hS.F ht⟩) hS.2.2 dX1_rip_24
set_option maxHeartbeats 4000000 in
set_option maxRecDepth 100000 in
/-- given -/
theorem c_X1_given (l : Launch) (D : va_G) (cI : ClassId) (ad : Nat → Nat) (th : Int32) (n np nq : Nat) (F : Nat → Nat → Int32) (T : Nat → Int32) (s0 k9 : Nat) (tb : Bool) (hinj : inj ad 8) (hs : s0 < 10) (hkd : k9 < 4) (hsc : ∀ s, s < 10 → small (F (14 + s)) 96) : Met l yX1_given wsX1_given ({ frames := 3, cells := 0, slots := 0, locals := 78 } : Room) (va_Pc [.ref (ad 0), .int (nI s0), .int (nI k9), .int (bI tb)] (Pr D [(cI, .int)] (wM cI ad th n np nq F T) (EnvM (inA ad 8)))) (va_Qi (S := (Nat → Int32)) (fun (r : Int32) (_ : Nat → Int32) => r = nI (gvT F k9 tb s0)) (fun (u : Nat → Int32) (t : State) => va_P D vwCl (wM cI ad th n np nq F u) t.heap) (inA ad 8)) 0 0 (inA ad 8) := by
  refine Met.ofW (cc := cX1_given) (maxL := 6) (ret := (some .int)) (by decide) rfl ?_
  intro p e s m args below meth c s₁ B hml hv
  obtain ⟨hargs, hP, hK, hV⟩ := hv
  have hx := B.exec
  have hb := B.bytes
  have hr := B.returns
  have hts := atoms_spec (ws := wsX1_given) B.pre
  have hown : s.vm.findClass RX1 = some m.cls := findClass_of_methodNamed B.named
  have hlocks := B.notSynchronized
  have hS : va_S (fun _ => False) s.heap s.heap [] := va_S.rf
  have hV0 : EnvM (fun _ => False) s := EnvM.nar hV sub_no
  have hiw : ∀ w ∈ wsX10, w ∈ wsX1_given := (fun _ h => List.mem_cons_of_mem _ (List.mem_append_right _ h))
  have hRf : 3 ≤ (headSpec wsX1_given ({ frames := 3, cells := 0, slots := 0, locals := 78 } : Room)).room.frames := Nat.le_refl _
  have hRl : 78 ≤ (headSpec wsX1_given ({ frames := 3, cells := 0, slots := 0, locals := 78 } : Room)).room.locals := Nat.le_refl _
  have hRc : 0 ≤ (headSpec wsX1_given ({ frames := 3, cells := 0, slots := 0, locals := 78 } : Room)).room.cells := Nat.le_refl _
  have hRs : 0 ≤ (headSpec wsX1_given ({ frames := 3, cells := 0, slots := 0, locals := 78 } : Room)).room.slots := Nat.le_refl _
  generalize (headSpec wsX1_given ({ frames := 3, cells := 0, slots := 0, locals := 78 } : Room)).room = R at hRf hRl hRc hRs ⊢
  have hl := lv_entry [.ref (ad 0), .int (nI s0), .int (nI k9), .int (bI tb)] (n := 6) (Nat.le_of_ble_eq_true rfl)
  refine W.eq (show entryFrame m args 6 = _ from by rw [hargs, lg_entry_eq]) ?_
  generalize (lg_sl [.ref (ad 0), .int (nI s0), .int (nI k9), .int (bI tb)] ++ List.replicate (6 - (lg_sl [.ref (ad 0), .int (nI s0), .int (nI k9), .int (bI tb)]).length) Slot.unset).toArray = ls at hl ⊢
  have hl : lv_has ls 6 [(0, .ref (ad 0)), (1, .int (nI s0)), (2, .int (nI k9)), (3, .int (bI tb))] := hl
  have hD : va_D (inA ad 8) (wM cI ad th n np nq F T) := m_D hinj
  generalize hQ : MQ _ _ _ _ _ _ _ = Q
  have hw9 := wd_le k9 tb
  have hh9 := hg_le k9 tb
  refine lv_aload_n hx hb dX1_given_0 rfl (lv_at hl 0 rfl) ?_
  refine va_get (D := D) (ci := 1) (v := .ref (ad 2)) (C := RX1) (T := TX1) (N := 12) hx hb hts hiw hown hK hP 0 m_at0 rfl 3 (by decide) (hts (.fieldLink RX1 13 "GloveCuttersModel" "cells" "[I") (by decide +kernel)) (fun _ h9 => h9) rfl dX1_given_1 ?_
  refine lv_bipush (v := nI 96) hx hb dX1_given_4 (by decide) ?_
  refine lv_iload_n hx hb dX1_given_6 rfl (lv_at hl 1 rfl) ?_
  refine nv_imul hx hb dX1_given_7 ?_
  refine lv_aload_n hx hb dX1_given_8 rfl (lv_at hl 0 rfl) ?_
  refine va_get (D := D) (ci := 1) (v := .ref (ad 8)) (C := RX1) (T := TX1) (N := 12) hx hb hts hiw hown hK hP 0 m_at0 rfl 11 (by decide) (hts (.fieldLink RX1 31 "GloveCuttersModel" "trial" "[I") (by decide +kernel)) (fun _ h9 => h9) rfl dX1_given_9 ?_
  refine lv_iconst (v := nI 0) hx hb dX1_given_12 (by decide) ?_
  refine lv_bipush (v := nI 96) hx hb dX1_given_13 (by decide) ?_
  have hS : va_S (inA ad 8) s.heap _ _ := S_mono hS
  have hcl9 : (nI (96 * s0)).toNatClampNeg = 96 * s0 := nI_clamp (by omega)
  refine va_copyi (rest := []) hx hb (hml.trans hl.1.symm) hown (hts (.methodLink RX1 134 arraycopyName) (by decide +kernel)) (hts (.native arraycopyName) (by decide +kernel)) (hts (.static arraycopyName) (by decide +kernel)) (hts (.initialized "java/lang/System") (by decide +kernel)) hK hP hD hS 2 8 0 0 m_at2 m_at8 rfl rfl rfl (nI_pos (by omega)) (by decide) (by decide) (by rw [hcl9]; show 96 * s0 + 96 ≤ 960; omega) (by decide) (fun _ _ => rfl) (Nat.le_trans (Nat.le_of_ble_eq_true rfl) hRf) (Nat.le_trans (Nat.le_of_ble_eq_true rfl) hRl) dX1_given_15 (fun H locs hP hD hS => ?_)
  rw [m_set8, hcl9, show (nI 0).toNatClampNeg = 0 from rfl, show (nI 96).toNatClampNeg = 96 from rfl] at hP
  obtain ⟨T_1, eT_1⟩ : ∃ z, z = va_cpy (mCells F) T (96 * s0) 0 96 := ⟨_, rfl⟩
  rw [← eT_1] at hP
  have hD : va_D (inA ad 8) (wM cI ad th n np nq F T_1) := m_D hinj
  have hT9 : ∀ q, q < 96 → T_1 q = F (14 + s0) q := fun q hq => by (rw [eT_1, pk_cpy_in (by omega) (by omega), show 96 * s0 + (q - 0) = 96 * s0 + q by omega]; exact mCells_r hq)
  refine lv_iconst (v := nI 0) hx hb dX1_given_18 (by decide) ?_
  refine lv_istore (lv' := [(4, .int (nI 0)), (0, .ref (ad 0)), (1, .int (nI s0)), (2, .int (nI k9)), (3, .int (bI tb))]) hx hb dX1_given_19 hl (by decide) rfl (fun ls hl => ?_)
  refine lv_aload_n hx hb dX1_given_21 rfl (lv_at hl 1 rfl) ?_
  refine va_get (D := D) (ci := 1) (v := .ref (ad 8)) (C := RX1) (T := TX1) (N := 12) hx hb hts hiw hown hK hP 0 m_at0 rfl 11 (by decide) (hts (.fieldLink RX1 31 "GloveCuttersModel" "trial" "[I") (by decide +kernel)) (fun _ h9 => h9) rfl dX1_given_22 ?_
  refine lv_iconst (v := nI 0) hx hb dX1_given_25 (by decide) ?_
  refine lv_iload_n hx hb dX1_given_26 rfl (lv_at hl 3 rfl) ?_
  refine lv_iload_n hx hb dX1_given_27 rfl (lv_at hl 4 rfl) ?_
  have hsmT : small T_1 96 := fun q hq => by (rw [hT9 q hq]; exact hsc s0 hs q hq)
  refine va_calli (va_runS (As := [.ref (ad 8), .int (nI 0), .int (nI k9), .int (bI tb)]) (rest := []) ⟨hx, hb, hml, hown, hts⟩ (c_X1_first l D cI (ad 8) 96 T_1 0 k9 tb (by omega) (by omega) (by omega) (fun q hq => by (show T_1 (0 + q) = 0 ∨ T_1 (0 + q) = nI 1 ∨ T_1 (0 + q) = nI 2 ∨ T_1 (0 + q) = nI 3; rw [Nat.zero_add]; exact hsmT q hq))) (va_cwS 4 hts gX1_given_X1_first rfl rfl rfl (by decide +kernel) ⟨Nat.le_trans (Nat.le_of_ble_eq_true rfl) hRf, Nat.le_trans (Nat.le_of_ble_eq_true rfl) hRl⟩) (pr_S (P_pick hP (k := 8) m_at8) hK [0] rfl (hV.at hS sub_id sub_no) EnvM_c) rfl rfl hl.1 rfl (lv_room (Nat.le_of_ble_eq_true rfl)) dX1_given_28 ⟨Nat.le_trans (Nat.le_of_ble_eq_true rfl) hRc, Nat.le_trans (Nat.le_of_ble_eq_true rfl) hRs⟩) hS (fun _ _ h => h.elim) (fun _ h => h.elim) (fun r_2 _ t H1 locs ht hvm hw_2 hB hz hk hS => ?_)
  have hP := P_kept hP hk
  obtain rfl := hw_2
  rw [show (fun q => T_1 (0 + q)) = T_1 from funext fun q => by rw [Nat.zero_add]]
  refine lv_istore (lv' := [(5, .int (fI (fitA T_1 k9 tb) 0 (96 - 0))), (4, .int (nI 0)), (0, .ref (ad 0)), (1, .int (nI s0)), (2, .int (nI k9)), (3, .int (bI tb))]) hx hb dX1_given_31 hl (by decide) rfl (fun ls hl => ?_)
  have L33 : ∀ (fu : Nat) (g9 : Nat) (v9 : Int32) (U : Nat → Int32) (u : Nat) (H : Heap) (locs : List Loc) (ls : Array Slot), 96 - g9 < fu → (g9 ≤ 96) → (v9 = fI (fitA U k9 tb) 0 (96 - 0)) → (∀ m, m < g9 → fitA U k9 tb m = false) → (gvT F k9 tb s0 = g9 + gvN U k9 tb u) → (97 ≤ u + g9) → (small U 96) → va_P D vwCl (wM cI ad th n np nq F U) H → va_D (inA ad 8) (wM cI ad th n np nq F U) → va_S (inA ad 8) s.heap H locs → lv_has ls 6 [(0, .ref (ad 0)), (1, .int (nI s0)), (2, .int (nI k9)), (3, .int (bI tb)), (4, .int (nI g9)), (5, .int v9)] → W p l e R s m args below meth c H locs 0 0 Q (F0 m 33 ls []) := by
    intro fu
    induction fu with
    | zero => intro _ _ _ _ _ _ _ h; exact absurd h (Nat.not_lt_zero _)
    | succ fu ih33 =>
      intro g9 v9 U u H locs ls hm33 hgl hv hm ht0 hu hsU hP hD hS hl
      refine lv_iload hx hb dX1_given_33 (lv_at hl 5 rfl) ?_
      refine lv_iconst (v := -1) hx hb dX1_given_35 (by decide) ?_
      refine lv_icmp_eq (tgt := 77) hx hb dX1_given_36 (by decide) (fun c_3 => ?_) (fun c_3 => ?_)
      · refine lv_iload hx hb dX1_given_77 (lv_at hl 4 rfl) ?_
        rw [← hQ]
        exact W.iret (v := nI g9) hx hb hr (fun t ht hW => ⟨⟨nI g9, U, rfl, (by rw [ht0, gvN_n (hv.symm.trans c_3)]; rfl), (by show va_P D vwCl (wM cI ad th n np nq F U) t.heap; rw [ht]; exact hP)⟩, hS.F ht⟩) hS.2.2 dX1_given_79
      · obtain ⟨a9, ha9, e9, hf9, hm9⟩ : ∃ a, a < 96 ∧ fI (fitA U k9 tb) 0 (96 - 0) = nI a ∧ fitA U k9 tb a = true ∧ ∀ m, m < a → fitA U k9 tb m = false := by (rcases fI_cases U k9 tb with h9 | h9; exact h9; exact absurd (hv.trans h9.1) c_3)
        obtain rfl : v9 = nI a9 := hv.trans e9
        have hga : g9 ≤ a9 := Nat.not_lt.mp fun q => by rw [hm a9 q] at hf9; cases hf9
        obtain ⟨u9, rfl⟩ : ∃ u9, u = u9 + 1 := ⟨u - 1, by omega⟩
        have hft : a9 % 12 + wd k9 tb ≤ 12 ∧ a9 / 12 + hg k9 tb ≤ 8 := by (have hq9 := hf9; unfold fitA fitB at hq9; simp only [Bool.and_eq_true, decide_eq_true_eq] at hq9; omega)
        refine lv_aload_n hx hb dX1_given_39 rfl (lv_at hl 0 rfl) ?_
        refine va_get (D := D) (ci := 1) (v := .ref (ad 8)) (C := RX1) (T := TX1) (N := 12) hx hb hts hiw hown hK hP 0 m_at0 rfl 11 (by decide) (hts (.fieldLink RX1 31 "GloveCuttersModel" "trial" "[I") (by decide +kernel)) (fun _ h9 => h9) rfl dX1_given_40 ?_
        refine lv_iload hx hb dX1_given_43 (lv_at hl 5 rfl) ?_
        refine lv_iload_n hx hb dX1_given_45 rfl (lv_at hl 2 rfl) ?_
        refine lv_iload_n hx hb dX1_given_46 rfl (lv_at hl 3 rfl) ?_
        refine va_calli (va_runS (As := [.int (nI k9), .int (bI tb)]) (rest := [.int (nI a9), .ref (ad 8)]) ⟨hx, hb, hml, hown, hts⟩ (c_X1_wideOf l D k9 tb (by omega)) (va_cwS 2 hts gX1_given_X1_wideOf rfl rfl rfl (by decide +kernel) ⟨Nat.le_trans (Nat.le_of_ble_eq_true rfl) hRf, Nat.le_trans (Nat.le_of_ble_eq_true rfl) hRl⟩) (pr_S (P_nil) hK [] rfl (hV.at hS sub_id sub_no) EnvM_c) rfl rfl hl.1 rfl (lv_room (Nat.le_of_ble_eq_true rfl)) dX1_given_47 ⟨Nat.le_trans (Nat.le_of_ble_eq_true rfl) hRc, Nat.le_trans (Nat.le_of_ble_eq_true rfl) hRs⟩) hS (fun _ _ h => h.elim) (fun _ h => h.elim) (fun r_4 _ t H1 locs ht hvm hw_4 hB hz hk hS => ?_)
        have hP := P_kept hP hk
        obtain rfl := hw_4
        refine lv_iload_n hx hb dX1_given_50 rfl (lv_at hl 2 rfl) ?_
        refine lv_iload_n hx hb dX1_given_51 rfl (lv_at hl 3 rfl) ?_
        refine va_calli (va_runS (As := [.int (nI k9), .int (bI tb)]) (rest := [.int (nI (wd k9 tb)), .int (nI a9), .ref (ad 8)]) ⟨hx, hb, hml, hown, hts⟩ (c_X1_highOf l D k9 tb (by omega)) (va_cwS 2 hts gX1_given_X1_highOf rfl rfl rfl (by decide +kernel) ⟨Nat.le_trans (Nat.le_of_ble_eq_true rfl) hRf, Nat.le_trans (Nat.le_of_ble_eq_true rfl) hRl⟩) (pr_S (P_nil) hK [] rfl (hV.at hS sub_id sub_no) EnvM_c) rfl rfl hl.1 rfl (lv_room (Nat.le_of_ble_eq_true rfl)) dX1_given_52 ⟨Nat.le_trans (Nat.le_of_ble_eq_true rfl) hRc, Nat.le_trans (Nat.le_of_ble_eq_true rfl) hRs⟩) hS (fun _ _ h => h.elim) (fun _ h => h.elim) (fun r_5 _ t H1 locs ht hvm hw_5 hB hz hk hS => ?_)
        have hP := P_kept hP hk
        obtain rfl := hw_5
        refine lv_iconst (v := nI 3) hx hb dX1_given_55 (by decide) ?_
        refine va_callv (va_runS (As := [.ref (ad 8), .int (nI a9), .int (nI (wd k9 tb)), .int (nI (hg k9 tb)), .int (nI 3)]) (rest := []) ⟨hx, hb, hml, hown, hts⟩ (c_X1_fill l D cI (ad 8) 96 U a9 (wd k9 tb) (hg k9 tb) (nI 3) (by omega) (by omega) (by omega) (by omega) (by omega)) (va_cwS 5 hts gX1_given_X1_fill rfl rfl rfl (by decide +kernel) ⟨Nat.le_trans (Nat.le_of_ble_eq_true rfl) hRf, Nat.le_trans (Nat.le_of_ble_eq_true rfl) hRl⟩) (pr_S (P_pick hP (k := 8) m_at8) hK [0] rfl V0_at V0_c) rfl rfl hl.1 rfl (lv_room (Nat.le_of_ble_eq_true rfl)) dX1_given_56 ⟨Nat.le_trans (Nat.le_of_ble_eq_true rfl) hRc, Nat.le_trans (Nat.le_of_ble_eq_true rfl) hRs⟩) hS (fun q _ h => ⟨8, by omega, h⟩) (fun q h => ⟨8, by omega, h⟩) (fun _ t H1 locs ht hvm hw_6 hB hz hk hS => ?_)
        rw [ht] at hB
        have hP := P_put hP hD m_at8 hk hB
        rw [m_set8] at hP
        obtain ⟨T_8, eT_8⟩ : ∃ z, z = fl U a9 (wd k9 tb) (nI 3) ((wd k9 tb) * (hg k9 tb)) := ⟨_, rfl⟩
        rw [← eT_8] at hP
        have hP : va_P D vwCl (wM cI ad th n np nq F T_8) _ := hP
        have hD : va_D (inA ad 8) (wM cI ad th n np nq F T_8) := m_D hinj
        refine lv_iinc (k := 4) (v := nI (g9 + 1)) (lv' := [(4, .int (nI (g9 + 1))), (0, .ref (ad 0)), (1, .int (nI s0)), (2, .int (nI k9)), (3, .int (bI tb)), (5, .int (nI a9))]) hx hb dX1_given_59 hl rfl (nI_add g9 1) (by decide) rfl (fun ls hl => ?_)
        refine lv_aload_n hx hb dX1_given_62 rfl (lv_at hl 1 rfl) ?_
        refine va_get (D := D) (ci := 1) (v := .ref (ad 8)) (C := RX1) (T := TX1) (N := 12) hx hb hts hiw hown hK hP 0 m_at0 rfl 11 (by decide) (hts (.fieldLink RX1 31 "GloveCuttersModel" "trial" "[I") (by decide +kernel)) (fun _ h9 => h9) rfl dX1_given_63 ?_
        refine lv_iconst (v := nI 0) hx hb dX1_given_66 (by decide) ?_
        refine lv_iload_n hx hb dX1_given_67 rfl (lv_at hl 3 rfl) ?_
        refine lv_iload_n hx hb dX1_given_68 rfl (lv_at hl 4 rfl) ?_
        have hsmT : small T_8 96 := fun q hq => by (rcases fl_or U a9 (wd k9 tb) (nI 3) (wd k9 tb * hg k9 tb) q with z | z; rw [eT_8, z]; exact hsU q hq; rw [eT_8, z]; exact Or.inr (Or.inr (Or.inr rfl)))
        refine va_calli (va_runS (As := [.ref (ad 8), .int (nI 0), .int (nI k9), .int (bI tb)]) (rest := []) ⟨hx, hb, hml, hown, hts⟩ (c_X1_first l D cI (ad 8) 96 T_8 0 k9 tb (by omega) (by omega) (by omega) (fun q hq => by (show T_8 (0 + q) = 0 ∨ T_8 (0 + q) = nI 1 ∨ T_8 (0 + q) = nI 2 ∨ T_8 (0 + q) = nI 3; rw [Nat.zero_add]; exact hsmT q hq))) (va_cwS 4 hts gX1_given_X1_first rfl rfl rfl (by decide +kernel) ⟨Nat.le_trans (Nat.le_of_ble_eq_true rfl) hRf, Nat.le_trans (Nat.le_of_ble_eq_true rfl) hRl⟩) (pr_S (P_pick hP (k := 8) m_at8) hK [0] rfl (hV.at hS sub_id sub_no) EnvM_c) rfl rfl hl.1 rfl (lv_room (Nat.le_of_ble_eq_true rfl)) dX1_given_69 ⟨Nat.le_trans (Nat.le_of_ble_eq_true rfl) hRc, Nat.le_trans (Nat.le_of_ble_eq_true rfl) hRs⟩) hS (fun _ _ h => h.elim) (fun _ h => h.elim) (fun r_9 _ t H1 locs ht hvm hw_9 hB hz hk hS => ?_)
        have hP := P_kept hP hk
        obtain rfl := hw_9
        rw [show (fun q => T_8 (0 + q)) = T_8 from funext fun q => by rw [Nat.zero_add]]
        refine lv_istore (lv' := [(5, .int (fI (fitA T_8 k9 tb) 0 (96 - 0))), (4, .int (nI (g9 + 1))), (0, .ref (ad 0)), (1, .int (nI s0)), (2, .int (nI k9)), (3, .int (bI tb))]) hx hb dX1_given_72 hl (by decide) rfl (fun ls hl => ?_)
        refine lv_goto (tgt := 33) hx hb dX1_given_74 (by decide) ?_
        exact ih33 (g9 + 1) (fI (fitA T_8 k9 tb) 0 (96 - 0)) T_8 u9 _ _ _ (by omega) (by omega) rfl (fun m q => by rw [eT_8]; exact gv_no hm9 m (by omega)) (by rw [eT_8, ht0, gvN_y ha9 e9]; show _ = g9 + 1 + gvN (gvF U k9 tb a9) k9 tb u9; omega) (by omega) hsmT hP hD hS (lv_sub hl [2, 3, 4, 5, 1, 0] rfl)
  exact L33 _ 0 (fI (fitA T_1 k9 tb) 0 (96 - 0)) T_1 97 _ _ _ (Nat.lt_succ_self _) (by omega) rfl (fun m q => absurd q (Nat.not_lt_zero m)) (by rw [Nat.zero_add]; exact (gvN_cong 97 hT9).symm) (by omega) hsmT hP hD hS (lv_sub hl [2, 3, 4, 5, 1, 0] rfl)
set_option maxHeartbeats 4000000 in
set_option maxRecDepth 100000 in
/-- gives -/
theorem c_X1_gives (l : Launch) (D : va_G) (cI : ClassId) (ad : Nat → Nat) (th : Int32) (n np nq : Nat) (F : Nat → Nat → Int32) (T : Nat → Int32) (s0 k0 : Int32) (tb : Bool) (hinj : inj ad 8) (hn : n ≤ 10) (hsc : ∀ s, s < 10 → small (F (14 + s)) 96) : Met l yX1_gives wsX1_gives ({ frames := 4, cells := 0, slots := 0, locals := 103 } : Room) (va_Pc [.ref (ad 0), .int s0, .int k0, .int (bI tb)] (Pr D [(cI, .int)] (wM cI ad th n np nq F T) (EnvM (inA ad 8)))) (va_Qi (S := (Nat → Int32)) (fun (r : Int32) (_ : (Nat → Int32)) => r = (spGives n F s0 k0 tb).2) (fun (u : (Nat → Int32)) (t : State) => va_P D vwCl (wM cI ad (nI (spGives n F s0 k0 tb).1) n np nq F u) t.heap) (inA ad 8)) 0 0 (inA ad 8) := by
  refine Met.ofW (cc := cX1_gives) (maxL := 4) (ret := (some .int)) (by decide) rfl ?_
  intro p e s m args below meth c s₁ B hml hv
  obtain ⟨hargs, hP, hK, hV⟩ := hv
  have hx := B.exec
  have hb := B.bytes
  have hr := B.returns
  have hts := atoms_spec (ws := wsX1_gives) B.pre
  have hown : s.vm.findClass RX1 = some m.cls := findClass_of_methodNamed B.named
  have hlocks := B.notSynchronized
  have hS : va_S (fun _ => False) s.heap s.heap [] := va_S.rf
  have hV0 : EnvM (fun _ => False) s := EnvM.nar hV sub_no
  have hiw : ∀ w ∈ wsX10, w ∈ wsX1_gives := (fun _ h => List.mem_cons_of_mem _ (List.mem_append_right _ h))
  have hRf : 4 ≤ (headSpec wsX1_gives ({ frames := 4, cells := 0, slots := 0, locals := 103 } : Room)).room.frames := Nat.le_refl _
  have hRl : 103 ≤ (headSpec wsX1_gives ({ frames := 4, cells := 0, slots := 0, locals := 103 } : Room)).room.locals := Nat.le_refl _
  have hRc : 0 ≤ (headSpec wsX1_gives ({ frames := 4, cells := 0, slots := 0, locals := 103 } : Room)).room.cells := Nat.le_refl _
  have hRs : 0 ≤ (headSpec wsX1_gives ({ frames := 4, cells := 0, slots := 0, locals := 103 } : Room)).room.slots := Nat.le_refl _
  generalize (headSpec wsX1_gives ({ frames := 4, cells := 0, slots := 0, locals := 103 } : Room)).room = R at hRf hRl hRc hRs ⊢
  have hl := lv_entry [.ref (ad 0), .int s0, .int k0, .int (bI tb)] (n := 4) (Nat.le_of_ble_eq_true rfl)
  refine W.eq (show entryFrame m args 4 = _ from by rw [hargs, lg_entry_eq]) ?_
  generalize (lg_sl [.ref (ad 0), .int s0, .int k0, .int (bI tb)] ++ List.replicate (4 - (lg_sl [.ref (ad 0), .int s0, .int k0, .int (bI tb)]).length) Slot.unset).toArray = ls at hl ⊢
  have hl : lv_has ls 4 [(0, .ref (ad 0)), (1, .int s0), (2, .int k0), (3, .int (bI tb))] := hl
  have hD : va_D (inA ad 8) (wM cI ad th n np nq F T) := m_D hinj
  generalize hQ : MQ _ _ _ _ _ _ _ = Q
  refine lv_aload_n hx hb dX1_gives_0 rfl (lv_at hl 0 rfl) ?_
  refine lv_iconst (v := nI 0) hx hb dX1_gives_1 (by decide) ?_
  have hS : va_S (inA ad 8) s.heap _ _ := S_mono hS
  refine va_put (D := D) (ci := 1) (v := .int (nI 0)) (ty := .int) (C := RX1) (T := TX1) (N := 12) hx hb hts hiw tyX1 tyX1_ok nmX1 hown hK hP hD hS 0 m_at0 rfl 0 (by decide) (hts (.fieldLink RX1 34 "GloveCuttersModel" "thrown" "I") (by decide +kernel)) (fun _ h9 => h9) rfl (by decide +kernel) rfl rfl (Nat.le_of_ble_eq_true rfl) dX1_gives_2 (fun H locs hP hD hS => ?_)
  have hP : va_P D vwCl (wM cI ad (nI 0) n np nq F T) H := hP
  have hD : va_D (inA ad 8) (wM cI ad (nI 0) n np nq F T) := hD
  refine lv_aload_n hx hb dX1_gives_5 rfl (lv_at hl 0 rfl) ?_
  refine lv_iload_n hx hb dX1_gives_6 rfl (lv_at hl 1 rfl) ?_
  refine va_calli (va_runV (As := [.int s0]) (rest := []) ⟨hx, hb, hml, hown, hts⟩ (c_X1_isSkin l D cI ad (nI 0) n np nq F T s0 hn) (cwV 1 hts gX1_gives_X1_isSkin rfl rfl rfl (by decide +kernel) ⟨Nat.le_trans (Nat.le_of_ble_eq_true rfl) hRf, Nat.le_trans (Nat.le_of_ble_eq_true rfl) hRl⟩) (pr_V hP (ci := 1) (q0 := 0) rfl m_at0 rfl hP hK [0] rfl V0_at V0_c) rfl rfl hl.1 rfl (lv_room (Nat.le_of_ble_eq_true rfl)) dX1_gives_7 ⟨Nat.le_trans (Nat.le_of_ble_eq_true rfl) hRc, Nat.le_trans (Nat.le_of_ble_eq_true rfl) hRs⟩) hS (fun _ _ h => h.elim) (fun _ h => h.elim) (fun r_1 _ t H1 locs ht hvm hw_1 hB hz hk hS => ?_)
  have hP := P_kept hP hk
  obtain rfl := hw_1
  refine nb_if_ne (tgt := 19) hx hb dX1_gives_10 (by decide) (fun c_2 => ?_) (fun c_2 => ?_)
  · obtain ⟨j, hj, rfl⟩ := inR_t (by omega) c_2
    refine lv_iload_n hx hb dX1_gives_19 rfl (lv_at hl 2 rfl) ?_
    refine va_calli (va_runS (As := [.int k0]) (rest := []) ⟨hx, hb, hml, hown, hts⟩ (c_X1_isKind l D k0 ) (va_cwS 1 hts gX1_gives_X1_isKind rfl rfl rfl (by decide +kernel) ⟨Nat.le_trans (Nat.le_of_ble_eq_true rfl) hRf, Nat.le_trans (Nat.le_of_ble_eq_true rfl) hRl⟩) (pr_S (P_nil) hK [] rfl V0_at V0_c) rfl rfl hl.1 rfl (lv_room (Nat.le_of_ble_eq_true rfl)) dX1_gives_20 ⟨Nat.le_trans (Nat.le_of_ble_eq_true rfl) hRc, Nat.le_trans (Nat.le_of_ble_eq_true rfl) hRs⟩) hS (fun _ _ h => h.elim) (fun _ h => h.elim) (fun r_3 _ t H1 locs ht hvm hw_3 hB hz hk hS => ?_)
    have hP := P_kept hP hk
    obtain rfl := hw_3
    refine nb_if_eq (tgt := 36) hx hb dX1_gives_23 (by decide) (fun c_4 => ?_) (fun c_4 => ?_)
    · refine lv_aload_n hx hb dX1_gives_36 rfl (lv_at hl 0 rfl) ?_
      refine lv_iconst (v := nI 2) hx hb dX1_gives_37 (by decide) ?_
      refine va_calli (va_runV (As := [.int (nI 2)]) (rest := []) ⟨hx, hb, hml, hown, hts⟩ (c_X1_no l D cI ad (nI 0) n np nq F T 2 hinj) (cwV 1 hts gX1_gives_X1_no rfl rfl rfl (by decide +kernel) ⟨Nat.le_trans (Nat.le_of_ble_eq_true rfl) hRf, Nat.le_trans (Nat.le_of_ble_eq_true rfl) hRl⟩) (pr_V hP (ci := 1) (q0 := 0) rfl m_at0 rfl hP hK [0] rfl V0_at V0_c) rfl rfl hl.1 rfl (lv_room (Nat.le_of_ble_eq_true rfl)) dX1_gives_38 ⟨Nat.le_trans (Nat.le_of_ble_eq_true rfl) hRc, Nat.le_trans (Nat.le_of_ble_eq_true rfl) hRs⟩) hS (fun _ _ h => h) (fun _ h => h) (fun r_5 _ t H1 locs ht hvm hw_5 hB hz hk hS => ?_)
      rw [ht] at hB
      have hP := hB
      have hP : va_P D vwCl (wM cI ad (nI 2) n np nq F T) H1 := hP
      have hD : va_D (inA ad 8) (wM cI ad (nI 2) n np nq F T) := m_D hinj
      obtain rfl := hw_5
      rw [← hQ]
      exact W.iret (v := nI 0) hx hb hr (fun t ht hW => ⟨⟨nI 0, T, rfl, (congrArg Prod.snd (show spGives n F (nI j) k0 tb = (2, 0) from (by unfold spGives; rw [inR_in hj (by omega), c_4]; rfl))).symm, (by show va_P D vwCl (wM cI ad (nI (spGives n F (nI j) k0 tb).1) n np nq F T) t.heap; rw [show spGives n F (nI j) k0 tb = (2, 0) from (by unfold spGives; rw [inR_in hj (by omega), c_4]; rfl), ht]; exact hP)⟩, hS.F ht⟩) hS.2.2 dX1_gives_41
    · obtain ⟨k9, hk9, rfl⟩ := inR_t (by decide) c_4
      refine lv_aload_n hx hb dX1_gives_26 rfl (lv_at hl 0 rfl) ?_
      refine lv_iload_n hx hb dX1_gives_27 rfl (lv_at hl 1 rfl) ?_
      refine lv_iload_n hx hb dX1_gives_28 rfl (lv_at hl 2 rfl) ?_
      refine lv_iload_n hx hb dX1_gives_29 rfl (lv_at hl 3 rfl) ?_
      refine va_calli (va_runV (As := [.int (nI j), .int (nI k9), .int (bI tb)]) (rest := []) ⟨hx, hb, hml, hown, hts⟩ (c_X1_given l D cI ad (nI 0) n np nq F T j k9 tb hinj (by omega) (by omega) hsc) (cwV 3 hts gX1_gives_X1_given rfl rfl rfl (by decide +kernel) ⟨Nat.le_trans (Nat.le_of_ble_eq_true rfl) hRf, Nat.le_trans (Nat.le_of_ble_eq_true rfl) hRl⟩) (pr_V hP (ci := 1) (q0 := 0) rfl m_at0 rfl hP hK [0] rfl (hV.at hS sub_id sub_id) EnvM_c) rfl rfl hl.1 rfl (lv_room (Nat.le_of_ble_eq_true rfl)) dX1_gives_30 ⟨Nat.le_trans (Nat.le_of_ble_eq_true rfl) hRc, Nat.le_trans (Nat.le_of_ble_eq_true rfl) hRs⟩) hS (fun _ _ h => h) (fun _ h => h) (fun r_6 u_6 t H1 locs ht hvm hw_6 hB hz hk hS => ?_)
      rw [ht] at hB
      have hP := hB
      have hP : va_P D vwCl (wM cI ad (nI 0) n np nq F u_6) H1 := hP
      have hD : va_D (inA ad 8) (wM cI ad (nI 0) n np nq F u_6) := m_D hinj
      obtain rfl := hw_6
      refine lv_goto (tgt := 41) hx hb dX1_gives_33 (by decide) ?_
      rw [← hQ]
      exact W.iret (v := nI (gvT F k9 tb j)) hx hb hr (fun t ht hW => ⟨⟨nI (gvT F k9 tb j), u_6, rfl, (congrArg Prod.snd (show spGives n F (nI j) (nI k9) tb = (0, nI (gvT F k9 tb j)) from (spGives_y hn hj hk9))).symm, (by show va_P D vwCl (wM cI ad (nI (spGives n F (nI j) (nI k9) tb).1) n np nq F u_6) t.heap; rw [show spGives n F (nI j) (nI k9) tb = (0, nI (gvT F k9 tb j)) from (spGives_y hn hj hk9), ht]; exact hP)⟩, hS.F ht⟩) hS.2.2 dX1_gives_41
  · refine lv_aload_n hx hb dX1_gives_13 rfl (lv_at hl 0 rfl) ?_
    refine lv_iconst (v := nI 1) hx hb dX1_gives_14 (by decide) ?_
    refine va_calli (va_runV (As := [.int (nI 1)]) (rest := []) ⟨hx, hb, hml, hown, hts⟩ (c_X1_no l D cI ad (nI 0) n np nq F T 1 hinj) (cwV 1 hts gX1_gives_X1_no rfl rfl rfl (by decide +kernel) ⟨Nat.le_trans (Nat.le_of_ble_eq_true rfl) hRf, Nat.le_trans (Nat.le_of_ble_eq_true rfl) hRl⟩) (pr_V hP (ci := 1) (q0 := 0) rfl m_at0 rfl hP hK [0] rfl V0_at V0_c) rfl rfl hl.1 rfl (lv_room (Nat.le_of_ble_eq_true rfl)) dX1_gives_15 ⟨Nat.le_trans (Nat.le_of_ble_eq_true rfl) hRc, Nat.le_trans (Nat.le_of_ble_eq_true rfl) hRs⟩) hS (fun _ _ h => h) (fun _ h => h) (fun r_7 _ t H1 locs ht hvm hw_7 hB hz hk hS => ?_)
    rw [ht] at hB
    have hP := hB
    have hP : va_P D vwCl (wM cI ad (nI 1) n np nq F T) H1 := hP
    have hD : va_D (inA ad 8) (wM cI ad (nI 1) n np nq F T) := m_D hinj
    obtain rfl := hw_7
    rw [← hQ]
    exact W.iret (v := nI 0) hx hb hr (fun t ht hW => ⟨⟨nI 0, T, rfl, (congrArg Prod.snd (show spGives n F s0 k0 tb = (1, 0) from (by unfold spGives; rw [c_2]; rfl))).symm, (by show va_P D vwCl (wM cI ad (nI (spGives n F s0 k0 tb).1) n np nq F T) t.heap; rw [show spGives n F s0 k0 tb = (1, 0) from (by unfold spGives; rw [c_2]; rfl), ht]; exact hP)⟩, hS.F ht⟩) hS.2.2 dX1_gives_18
set_option maxHeartbeats 4000000 in
set_option maxRecDepth 100000 in
/-- best -/
theorem c_X1_best (l : Launch) (D : va_G) (cI : ClassId) (ad : Nat → Nat) (th : Int32) (n np nq : Nat) (F : Nat → Nat → Int32) (T : Nat → Int32) (k0 : Int32) (tb : Bool) (hinj : inj ad 8) (hn : n ≤ 10) (hsc : ∀ s, s < 10 → small (F (14 + s)) 96) : Met l yX1_best wsX1_best ({ frames := 4, cells := 0, slots := 0, locals := 103 } : Room) (va_Pc [.ref (ad 0), .int k0, .int (bI tb)] (Pr D [(cI, .int)] (wM cI ad th n np nq F T) (EnvM (inA ad 8)))) (va_Qi (S := (Nat → Int32)) (fun (r : Int32) (_ : (Nat → Int32)) => r = (spBest n F k0 tb).2) (fun (u : (Nat → Int32)) (t : State) => va_P D vwCl (wM cI ad (nI (spBest n F k0 tb).1) n np nq F u) t.heap) (inA ad 8)) 0 0 (inA ad 8) := by
  refine Met.ofW (cc := cX1_best) (maxL := 7) (ret := (some .int)) (by decide) rfl ?_
  intro p e s m args below meth c s₁ B hml hv
  obtain ⟨hargs, hP, hK, hV⟩ := hv
  have hx := B.exec
  have hb := B.bytes
  have hr := B.returns
  have hts := atoms_spec (ws := wsX1_best) B.pre
  have hown : s.vm.findClass RX1 = some m.cls := findClass_of_methodNamed B.named
  have hlocks := B.notSynchronized
  have hS : va_S (fun _ => False) s.heap s.heap [] := va_S.rf
  have hV0 : EnvM (fun _ => False) s := EnvM.nar hV sub_no
  have hiw : ∀ w ∈ wsX10, w ∈ wsX1_best := (fun _ h => List.mem_cons_of_mem _ (List.mem_append_right _ h))
  have hRf : 4 ≤ (headSpec wsX1_best ({ frames := 4, cells := 0, slots := 0, locals := 103 } : Room)).room.frames := Nat.le_refl _
  have hRl : 103 ≤ (headSpec wsX1_best ({ frames := 4, cells := 0, slots := 0, locals := 103 } : Room)).room.locals := Nat.le_refl _
  have hRc : 0 ≤ (headSpec wsX1_best ({ frames := 4, cells := 0, slots := 0, locals := 103 } : Room)).room.cells := Nat.le_refl _
  have hRs : 0 ≤ (headSpec wsX1_best ({ frames := 4, cells := 0, slots := 0, locals := 103 } : Room)).room.slots := Nat.le_refl _
  generalize (headSpec wsX1_best ({ frames := 4, cells := 0, slots := 0, locals := 103 } : Room)).room = R at hRf hRl hRc hRs ⊢
  have hl := lv_entry [.ref (ad 0), .int k0, .int (bI tb)] (n := 7) (Nat.le_of_ble_eq_true rfl)
  refine W.eq (show entryFrame m args 7 = _ from by rw [hargs, lg_entry_eq]) ?_
  generalize (lg_sl [.ref (ad 0), .int k0, .int (bI tb)] ++ List.replicate (7 - (lg_sl [.ref (ad 0), .int k0, .int (bI tb)]).length) Slot.unset).toArray = ls at hl ⊢
  have hl : lv_has ls 7 [(0, .ref (ad 0)), (1, .int k0), (2, .int (bI tb))] := hl
  have hD : va_D (inA ad 8) (wM cI ad th n np nq F T) := m_D hinj
  generalize hQ : MQ _ _ _ _ _ _ _ = Q
  refine lv_aload_n hx hb dX1_best_0 rfl (lv_at hl 0 rfl) ?_
  refine lv_iconst (v := nI 0) hx hb dX1_best_1 (by decide) ?_
  have hS : va_S (inA ad 8) s.heap _ _ := S_mono hS
  refine va_put (D := D) (ci := 1) (v := .int (nI 0)) (ty := .int) (C := RX1) (T := TX1) (N := 12) hx hb hts hiw tyX1 tyX1_ok nmX1 hown hK hP hD hS 0 m_at0 rfl 0 (by decide) (hts (.fieldLink RX1 34 "GloveCuttersModel" "thrown" "I") (by decide +kernel)) (fun _ h9 => h9) rfl (by decide +kernel) rfl rfl (Nat.le_of_ble_eq_true rfl) dX1_best_2 (fun H locs hP hD hS => ?_)
  have hP : va_P D vwCl (wM cI ad (nI 0) n np nq F T) H := hP
  have hD : va_D (inA ad 8) (wM cI ad (nI 0) n np nq F T) := hD
  refine lv_iload_n hx hb dX1_best_5 rfl (lv_at hl 1 rfl) ?_
  refine va_calli (va_runS (As := [.int k0]) (rest := []) ⟨hx, hb, hml, hown, hts⟩ (c_X1_isKind l D k0 ) (va_cwS 1 hts gX1_best_X1_isKind rfl rfl rfl (by decide +kernel) ⟨Nat.le_trans (Nat.le_of_ble_eq_true rfl) hRf, Nat.le_trans (Nat.le_of_ble_eq_true rfl) hRl⟩) (pr_S (P_nil) hK [] rfl V0_at V0_c) rfl rfl hl.1 rfl (lv_room (Nat.le_of_ble_eq_true rfl)) dX1_best_6 ⟨Nat.le_trans (Nat.le_of_ble_eq_true rfl) hRc, Nat.le_trans (Nat.le_of_ble_eq_true rfl) hRs⟩) hS (fun _ _ h => h.elim) (fun _ h => h.elim) (fun r_1 _ t H1 locs ht hvm hw_1 hB hz hk hS => ?_)
  have hP := P_kept hP hk
  obtain rfl := hw_1
  refine nb_if_ne (tgt := 18) hx hb dX1_best_9 (by decide) (fun c_2 => ?_) (fun c_2 => ?_)
  · obtain ⟨k9, hk9, rfl⟩ := inR_t (by decide) c_2
    refine lv_iconst (v := -1) hx hb dX1_best_18 (by decide) ?_
    refine lv_istore_n (lv' := [(3, .int (-1)), (0, .ref (ad 0)), (1, .int (nI k9)), (2, .int (bI tb))]) hx hb dX1_best_19 rfl hl (by decide) rfl (fun ls hl => ?_)
    refine lv_iconst (v := nI 0) hx hb dX1_best_20 (by decide) ?_
    refine lv_istore (lv' := [(4, .int (nI 0)), (3, .int (-1)), (0, .ref (ad 0)), (1, .int (nI k9)), (2, .int (bI tb))]) hx hb dX1_best_21 hl (by decide) rfl (fun ls hl => ?_)
    refine lv_iconst (v := nI 0) hx hb dX1_best_23 (by decide) ?_
    refine lv_istore (lv' := [(5, .int (nI 0)), (4, .int (nI 0)), (3, .int (-1)), (0, .ref (ad 0)), (1, .int (nI k9)), (2, .int (bI tb))]) hx hb dX1_best_24 hl (by decide) rfl (fun ls hl => ?_)
    have L26 : ∀ (fu : Nat) (bb : Int32) (mm : Nat) (i9 : Nat) (U : Nat → Int32) (H : Heap) (locs : List Loc) (ls : Array Slot), n - i9 < fu → (i9 ≤ n) → (bb = bB (gvT F k9 tb) i9) → (mm = bM (gvT F k9 tb) i9) → (mm ≤ 97) → va_P D vwCl (wM cI ad (nI 0) n np nq F U) H → va_D (inA ad 8) (wM cI ad (nI 0) n np nq F U) → va_S (inA ad 8) s.heap H locs → lv_has ls 7 [(0, .ref (ad 0)), (1, .int (nI k9)), (2, .int (bI tb)), (3, .int bb), (4, .int (nI mm)), (5, .int (nI i9))] → W p l e R s m args below meth c H locs 0 0 Q (F0 m 26 ls []) := by
      intro fu
      induction fu with
      | zero => intro _ _ _ _ _ _ _ h; exact absurd h (Nat.not_lt_zero _)
      | succ fu ih26 =>
        intro bb mm i9 U H locs ls hm26 h1 hb2 hm h3 hP hD hS hl
        refine lv_iload hx hb dX1_best_26 (lv_at hl 5 rfl) ?_
        refine lv_aload_n hx hb dX1_best_28 rfl (lv_at hl 0 rfl) ?_
        refine va_get (D := D) (ci := 1) (v := .int (nI n)) (C := RX1) (T := TX1) (N := 12) hx hb hts hiw hown hK hP 0 m_at0 rfl 1 (by decide) (hts (.fieldLink RX1 38 "GloveCuttersModel" "skins" "I") (by decide +kernel)) (fun _ h9 => h9) rfl dX1_best_29 ?_
        refine nv_icmp_ge (tgt := 68) hx hb (by omega) (by omega) dX1_best_32 (by decide) (fun c_3 => ?_) (fun c_3 => ?_)
        · refine lv_iload_n hx hb dX1_best_68 rfl (lv_at hl 3 rfl) ?_
          rw [← hQ]
          exact W.iret (v := bb) hx hb hr (fun t ht hW => ⟨⟨bb, U, rfl, (congrArg Prod.snd (show spBest n F (nI k9) tb = (0, bb) from ((spBest_y hk9).trans (by rw [hb2, show i9 = n by omega])))).symm, (by show va_P D vwCl (wM cI ad (nI (spBest n F (nI k9) tb).1) n np nq F U) t.heap; rw [show spBest n F (nI k9) tb = (0, bb) from ((spBest_y hk9).trans (by rw [hb2, show i9 = n by omega])), ht]; exact hP)⟩, hS.F ht⟩) hS.2.2 dX1_best_69
        · refine lv_aload_n hx hb dX1_best_35 rfl (lv_at hl 0 rfl) ?_
          refine lv_iload hx hb dX1_best_36 (lv_at hl 5 rfl) ?_
          refine lv_iload_n hx hb dX1_best_38 rfl (lv_at hl 1 rfl) ?_
          refine lv_iload_n hx hb dX1_best_39 rfl (lv_at hl 2 rfl) ?_
          refine va_calli (va_runV (As := [.int (nI i9), .int (nI k9), .int (bI tb)]) (rest := []) ⟨hx, hb, hml, hown, hts⟩ (c_X1_given l D cI ad (nI 0) n np nq F U i9 k9 tb hinj (by omega) (by omega) hsc) (cwV 3 hts gX1_best_X1_given rfl rfl rfl (by decide +kernel) ⟨Nat.le_trans (Nat.le_of_ble_eq_true rfl) hRf, Nat.le_trans (Nat.le_of_ble_eq_true rfl) hRl⟩) (pr_V hP (ci := 1) (q0 := 0) rfl m_at0 rfl hP hK [0] rfl (hV.at hS sub_id sub_id) EnvM_c) rfl rfl hl.1 rfl (lv_room (Nat.le_of_ble_eq_true rfl)) dX1_best_40 ⟨Nat.le_trans (Nat.le_of_ble_eq_true rfl) hRc, Nat.le_trans (Nat.le_of_ble_eq_true rfl) hRs⟩) hS (fun _ _ h => h) (fun _ h => h) (fun r_4 u_4 t H1 locs ht hvm hw_4 hB hz hk hS => ?_)
          rw [ht] at hB
          have hP := hB
          have hP : va_P D vwCl (wM cI ad (nI 0) n np nq F u_4) H1 := hP
          have hD : va_D (inA ad 8) (wM cI ad (nI 0) n np nq F u_4) := m_D hinj
          obtain rfl := hw_4
          have hl8 : gvT F k9 tb i9 ≤ 97 := gvN_le k9 tb 97 (F (14 + i9))
          refine lv_istore (lv' := [(6, .int (nI (gvT F k9 tb i9))), (0, .ref (ad 0)), (1, .int (nI k9)), (2, .int (bI tb)), (3, .int bb), (4, .int (nI mm)), (5, .int (nI i9))]) hx hb dX1_best_43 hl (by decide) rfl (fun ls hl => ?_)
          refine lv_iload hx hb dX1_best_45 (lv_at hl 0 rfl) ?_
          refine lv_iload hx hb dX1_best_47 (lv_at hl 5 rfl) ?_
          refine nv_icmp_gt (tgt := 55) hx hb (by omega) (by omega) dX1_best_49 (by decide) (fun c_5 => ?_) (fun c_5 => ?_)
          · refine lv_iload hx hb dX1_best_55 (lv_at hl 0 rfl) ?_
            refine lv_istore (lv' := [(4, .int (nI (gvT F k9 tb i9))), (6, .int (nI (gvT F k9 tb i9))), (0, .ref (ad 0)), (1, .int (nI k9)), (2, .int (bI tb)), (3, .int bb), (5, .int (nI i9))]) hx hb dX1_best_57 hl (by decide) rfl (fun ls hl => ?_)
            refine lv_iload hx hb dX1_best_59 (lv_at hl 6 rfl) ?_
            refine lv_istore_n (lv' := [(3, .int (nI i9)), (4, .int (nI (gvT F k9 tb i9))), (6, .int (nI (gvT F k9 tb i9))), (0, .ref (ad 0)), (1, .int (nI k9)), (2, .int (bI tb)), (5, .int (nI i9))]) hx hb dX1_best_61 rfl hl (by decide) rfl (fun ls hl => ?_)
            refine lv_iinc (k := 6) (v := nI (i9 + 1)) (lv' := [(5, .int (nI (i9 + 1))), (3, .int (nI i9)), (4, .int (nI (gvT F k9 tb i9))), (6, .int (nI (gvT F k9 tb i9))), (0, .ref (ad 0)), (1, .int (nI k9)), (2, .int (bI tb))]) hx hb dX1_best_62 hl rfl (nI_add i9 1) (by decide) rfl (fun ls hl => ?_)
            refine lv_goto (tgt := 26) hx hb dX1_best_65 (by decide) ?_
            exact ih26 (nI i9) (gvT F k9 tb i9) (i9 + 1) u_4 _ _ _ (by omega) (by omega) (by rw [bB, if_pos (by rw [← hm]; omega)]) (by rw [bM, if_pos (by rw [← hm]; omega)]) (by omega) hP hD hS (lv_sub hl [4, 5, 6, 1, 2, 0] rfl)
          · refine lv_goto (tgt := 62) hx hb dX1_best_52 (by decide) ?_
            refine lv_iinc (k := 6) (v := nI (i9 + 1)) (lv' := [(5, .int (nI (i9 + 1))), (6, .int (nI (gvT F k9 tb i9))), (0, .ref (ad 0)), (1, .int (nI k9)), (2, .int (bI tb)), (3, .int bb), (4, .int (nI mm))]) hx hb dX1_best_62 hl rfl (nI_add i9 1) (by decide) rfl (fun ls hl => ?_)
            refine lv_goto (tgt := 26) hx hb dX1_best_65 (by decide) ?_
            exact ih26 bb mm (i9 + 1) u_4 _ _ _ (by omega) (by omega) (by rw [bB, if_neg (by rw [← hm]; omega)]; exact hb2) (by rw [bM, if_neg (by rw [← hm]; omega)]; exact hm) (by omega) hP hD hS (lv_sub hl [2, 3, 4, 5, 6, 0] rfl)
    exact L26 _ (-1) 0 0 T _ _ _ (Nat.lt_succ_self _) (by omega) rfl rfl (by omega) hP hD hS (lv_sub hl [3, 4, 5, 2, 1, 0] rfl)
  · refine lv_aload_n hx hb dX1_best_12 rfl (lv_at hl 0 rfl) ?_
    refine lv_iconst (v := nI 1) hx hb dX1_best_13 (by decide) ?_
    refine va_calli (va_runV (As := [.int (nI 1)]) (rest := []) ⟨hx, hb, hml, hown, hts⟩ (c_X1_no l D cI ad (nI 0) n np nq F T 1 hinj) (cwV 1 hts gX1_best_X1_no rfl rfl rfl (by decide +kernel) ⟨Nat.le_trans (Nat.le_of_ble_eq_true rfl) hRf, Nat.le_trans (Nat.le_of_ble_eq_true rfl) hRl⟩) (pr_V hP (ci := 1) (q0 := 0) rfl m_at0 rfl hP hK [0] rfl V0_at V0_c) rfl rfl hl.1 rfl (lv_room (Nat.le_of_ble_eq_true rfl)) dX1_best_14 ⟨Nat.le_trans (Nat.le_of_ble_eq_true rfl) hRc, Nat.le_trans (Nat.le_of_ble_eq_true rfl) hRs⟩) hS (fun _ _ h => h) (fun _ h => h) (fun r_6 _ t H1 locs ht hvm hw_6 hB hz hk hS => ?_)
    rw [ht] at hB
    have hP := hB
    have hP : va_P D vwCl (wM cI ad (nI 1) n np nq F T) H1 := hP
    have hD : va_D (inA ad 8) (wM cI ad (nI 1) n np nq F T) := m_D hinj
    obtain rfl := hw_6
    rw [← hQ]
    exact W.iret (v := nI 0) hx hb hr (fun t ht hW => ⟨⟨nI 0, T, rfl, (congrArg Prod.snd (show spBest n F k0 tb = (1, 0) from (by unfold spBest; rw [c_2]; rfl))).symm, (by show va_P D vwCl (wM cI ad (nI (spBest n F k0 tb).1) n np nq F T) t.heap; rw [show spBest n F k0 tb = (1, 0) from (by unfold spBest; rw [c_2]; rfl), ht]; exact hP)⟩, hS.F ht⟩) hS.2.2 dX1_best_17
