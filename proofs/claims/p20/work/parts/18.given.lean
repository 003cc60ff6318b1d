set_option maxHeartbeats 4000000 in
set_option maxRecDepth 100000 in
/-- givenBy -/
theorem c_X0_givenBy (l : Launch) (D : va_G) (cI cZ cO : ClassId) (ad : Nat → Nat) (n np nq : Nat) (F : Nat → Nat → Int32) (s0 k9 : Nat) (tb : Bool) (hinj : inj ad 23) (hs : s0 < 10) (hkd : k9 < 4) : Met l yX0_givenBy wsX0_givenBy ({ frames := 3, cells := 0, slots := 0, locals := 78 } : Room) (va_Pc [.ref (ad 0), .int (nI s0), .int (nI k9), .int (bI tb)] (Pr D (gT cI cZ cO) (wG cI cZ cO ad n np nq F) (EnvG (inA ad 23)))) (va_Qi (S := (Nat → Int32)) (fun (r : Int32) (_ : Nat → Int32) => r = nI (gvT F k9 tb s0)) (fun (u : Nat → Int32) (t : State) => va_P D vwCl (wG cI cZ cO ad n np nq (va_up F 13 u)) t.heap) (inA ad 23)) 0 0 (inA ad 23) := by
  refine Met.ofW (cc := cX0_givenBy) (maxL := 8) (ret := (some .int)) (by decide) rfl ?_
  intro p e s m args below meth c s₁ B hml hv
  obtain ⟨hargs, hP, hK, hV⟩ := hv
  have hx := B.exec
  have hb := B.bytes
  have hr := B.returns
  have hts := atoms_spec (ws := wsX0_givenBy) B.pre
  have hown : s.vm.findClass RX0 = some m.cls := findClass_of_methodNamed B.named
  have hlocks := B.notSynchronized
  have hS : va_S (fun _ => False) s.heap s.heap [] := va_S.rf
  have hV0 : EnvG (fun _ => False) s := EnvG.nar hV sub_no
  have hiw : ∀ w ∈ wsX00, w ∈ wsX0_givenBy := (fun _ h => List.mem_cons_of_mem _ (List.mem_append_right _ h))
  have hRf : 3 ≤ (headSpec wsX0_givenBy ({ frames := 3, cells := 0, slots := 0, locals := 78 } : Room)).room.frames := Nat.le_refl _
  have hRl : 78 ≤ (headSpec wsX0_givenBy ({ frames := 3, cells := 0, slots := 0, locals := 78 } : Room)).room.locals := Nat.le_refl _
  have hRc : 0 ≤ (headSpec wsX0_givenBy ({ frames := 3, cells := 0, slots := 0, locals := 78 } : Room)).room.cells := Nat.le_refl _
  have hRs : 0 ≤ (headSpec wsX0_givenBy ({ frames := 3, cells := 0, slots := 0, locals := 78 } : Room)).room.slots := Nat.le_refl _
  generalize (headSpec wsX0_givenBy ({ frames := 3, cells := 0, slots := 0, locals := 78 } : Room)).room = R at hRf hRl hRc hRs ⊢
  have hl := lv_entry [.ref (ad 0), .int (nI s0), .int (nI k9), .int (bI tb)] (n := 8) (Nat.le_of_ble_eq_true rfl)
  refine W.eq (show entryFrame m args 8 = _ from by rw [hargs, lg_entry_eq]) ?_
  generalize (lg_sl [.ref (ad 0), .int (nI s0), .int (nI k9), .int (bI tb)] ++ List.replicate (8 - (lg_sl [.ref (ad 0), .int (nI s0), .int (nI k9), .int (bI tb)]).length) Slot.unset).toArray = ls at hl ⊢
  have hl : lv_has ls 8 [(0, .ref (ad 0)), (1, .int (nI s0)), (2, .int (nI k9)), (3, .int (bI tb))] := hl
  have hD : va_D (inA ad 23) (wG cI cZ cO ad n np nq F) := g_D hinj
  generalize hQ : MQ _ _ _ _ _ _ _ = Q
  have hw9 := wd_le k9 tb
  have hh9 := hg_le k9 tb
  refine lv_iload_n hx hb dX0_givenBy_0 rfl (lv_at hl 2 rfl) ?_
  refine lv_iload_n hx hb dX0_givenBy_1 rfl (lv_at hl 3 rfl) ?_
  refine va_calli (va_runS (As := [.int (nI k9), .int (bI tb)]) (rest := []) ⟨hx, hb, hml, hown, hts⟩ (c_X0_wideOf l D k9 tb (by omega)) (va_cwS 2 hts gX0_givenBy_X0_wideOf rfl rfl rfl (by decide +kernel) ⟨Nat.le_trans (Nat.le_of_ble_eq_true rfl) hRf, Nat.le_trans (Nat.le_of_ble_eq_true rfl) hRl⟩) (pr_S (P_nil) hK [] rfl (hV0.at hS sub_id sub_id) EnvG_c) rfl rfl hl.1 rfl (lv_room (Nat.le_of_ble_eq_true rfl)) dX0_givenBy_2 ⟨Nat.le_trans (Nat.le_of_ble_eq_true rfl) hRc, Nat.le_trans (Nat.le_of_ble_eq_true rfl) hRs⟩) hS (fun _ _ h => h.elim) (fun _ h => h.elim) (fun r_1 _ t H1 locs ht hvm hw_1 hB hz hk hS => ?_)
  have hP := P_kept hP hk
  obtain rfl := hw_1
  refine lv_istore (lv' := [(4, .int (nI (wd k9 tb))), (0, .ref (ad 0)), (1, .int (nI s0)), (2, .int (nI k9)), (3, .int (bI tb))]) hx hb dX0_givenBy_5 hl (by decide) rfl (fun ls hl => ?_)
  refine lv_iload_n hx hb dX0_givenBy_7 rfl (lv_at hl 3 rfl) ?_
  refine lv_iload_n hx hb dX0_givenBy_8 rfl (lv_at hl 4 rfl) ?_
  refine va_calli (va_runS (As := [.int (nI k9), .int (bI tb)]) (rest := []) ⟨hx, hb, hml, hown, hts⟩ (c_X0_highOf l D k9 tb (by omega)) (va_cwS 2 hts gX0_givenBy_X0_highOf rfl rfl rfl (by decide +kernel) ⟨Nat.le_trans (Nat.le_of_ble_eq_true rfl) hRf, Nat.le_trans (Nat.le_of_ble_eq_true rfl) hRl⟩) (pr_S (P_nil) hK [] rfl (hV0.at hS sub_id sub_id) EnvG_c) rfl rfl hl.1 rfl (lv_room (Nat.le_of_ble_eq_true rfl)) dX0_givenBy_9 ⟨Nat.le_trans (Nat.le_of_ble_eq_true rfl) hRc, Nat.le_trans (Nat.le_of_ble_eq_true rfl) hRs⟩) hS (fun _ _ h => h.elim) (fun _ h => h.elim) (fun r_2 _ t H1 locs ht hvm hw_2 hB hz hk hS => ?_)
  have hP := P_kept hP hk
  obtain rfl := hw_2
  refine lv_istore (lv' := [(5, .int (nI (hg k9 tb))), (4, .int (nI (wd k9 tb))), (0, .ref (ad 0)), (1, .int (nI s0)), (2, .int (nI k9)), (3, .int (bI tb))]) hx hb dX0_givenBy_12 hl (by decide) rfl (fun ls hl => ?_)
  refine lv_aload_n hx hb dX0_givenBy_14 rfl (lv_at hl 2 rfl) ?_
  refine va_get (D := D) (ci := 0) (v := .ref (ad 3)) (C := RX0) (T := TX0) (N := 16) hx hb hts hiw hown hK hP 0 g_at0 rfl 3 (by decide) (hts (.fieldLink RX0 18 "GloveCutters" "skinCells" "[[I") (by decide +kernel)) (fun _ h9 => h9) rfl dX0_givenBy_15 ?_
  refine lv_iload_n hx hb dX0_givenBy_18 rfl (lv_at hl 3 rfl) ?_
  refine nv_aald hx hb hK hP 3 2 g_at3 rfl (by omega) (by decide) (if_pos (by omega)) dX0_givenBy_19 ?_
  refine lv_iconst (v := nI 0) hx hb dX0_givenBy_20 (by decide) ?_
  refine lv_aload_n hx hb dX0_givenBy_21 rfl (lv_at hl 2 rfl) ?_
  refine va_get (D := D) (ci := 0) (v := .ref (ad 13)) (C := RX0) (T := TX0) (N := 16) hx hb hts hiw hown hK hP 0 g_at0 rfl 15 (by decide) (hts (.fieldLink RX0 49 "GloveCutters" "trialCells" "[I") (by decide +kernel)) (fun _ h9 => h9) rfl dX0_givenBy_22 ?_
  refine lv_iconst (v := nI 0) hx hb dX0_givenBy_25 (by decide) ?_
  refine lv_bipush (v := nI 96) hx hb dX0_givenBy_26 (by decide) ?_
  have hS : va_S (inA ad 23) s.heap _ _ := S_mono hS
  refine va_copyi (rest := []) hx hb (hml.trans hl.1.symm) hown (hts (.methodLink RX0 213 arraycopyName) (by decide +kernel)) (hts (.native arraycopyName) (by decide +kernel)) (hts (.static arraycopyName) (by decide +kernel)) (hts (.initialized "java/lang/System") (by decide +kernel)) hK hP hD hS (14 + s0) 13 0 0 (g_atr (k := s0) (by omega)) g_at13 rfl rfl rfl (by decide) (by decide) (by decide) (by decide) (by decide) (fun _ _ => rfl) (Nat.le_trans (Nat.le_of_ble_eq_true rfl) hRf) (Nat.le_trans (Nat.le_of_ble_eq_true rfl) hRl) dX0_givenBy_28 (fun H locs hP hD hS => ?_)
  rw [g_set13, show (nI 0).toNatClampNeg = 0 from rfl, show (nI 96).toNatClampNeg = 96 from rfl] at hP
  obtain ⟨F_3, eF_3⟩ : ∃ z, z = va_up F 13 (va_cpy (F (14 + s0)) (F 13) 0 0 96) := ⟨_, rfl⟩
  rw [← eF_3] at hP
  have hD : va_D (inA ad 23) (wG cI cZ cO ad n np nq F_3) := g_D hinj
  refine lv_iconst (v := nI 0) hx hb dX0_givenBy_31 (by decide) ?_
  refine lv_istore (lv' := [(6, .int (nI 0)), (5, .int (nI (hg k9 tb))), (4, .int (nI (wd k9 tb))), (0, .ref (ad 0)), (1, .int (nI s0)), (2, .int (nI k9)), (3, .int (bI tb))]) hx hb dX0_givenBy_32 hl (by decide) rfl (fun ls hl => ?_)
  refine lv_aload_n hx hb dX0_givenBy_34 rfl (lv_at hl 3 rfl) ?_
  refine va_get (D := D) (ci := 0) (v := .ref (ad 13)) (C := RX0) (T := TX0) (N := 16) hx hb hts hiw hown hK hP 0 g_at0 rfl 15 (by decide) (hts (.fieldLink RX0 49 "GloveCutters" "trialCells" "[I") (by decide +kernel)) (fun _ h9 => h9) rfl dX0_givenBy_35 ?_
  refine lv_iload_n hx hb dX0_givenBy_38 rfl (lv_at hl 5 rfl) ?_
  refine lv_iload_n hx hb dX0_givenBy_39 rfl (lv_at hl 6 rfl) ?_
  refine lv_iconst (v := nI 0) hx hb dX0_givenBy_40 (by decide) ?_
  refine va_calli (va_runS (As := [.ref (ad 13), .int (nI k9), .int (bI tb), .int (nI 0)]) (rest := []) ⟨hx, hb, hml, hown, hts⟩ (c_X0_firstFit l D cI (ad 13) 96 (F_3 13) k9 tb 0 (by omega) (by omega) (by omega)) (va_cwS 4 hts gX0_givenBy_X0_firstFit rfl rfl rfl (by decide +kernel) ⟨Nat.le_trans (Nat.le_of_ble_eq_true rfl) hRf, Nat.le_trans (Nat.le_of_ble_eq_true rfl) hRl⟩) (pr_S (P_pick hP (k := 13) g_at13) hK [0] rfl (hV.at hS sub_id sub_no) EnvG_c) rfl rfl hl.1 rfl (lv_room (Nat.le_of_ble_eq_true rfl)) dX0_givenBy_41 ⟨Nat.le_trans (Nat.le_of_ble_eq_true rfl) hRc, Nat.le_trans (Nat.le_of_ble_eq_true rfl) hRs⟩) hS (fun _ _ h => h.elim) (fun _ h => h.elim) (fun r_4 _ t H1 locs ht hvm hw_4 hB hz hk hS => ?_)
  have hP := P_kept hP hk
  obtain rfl := hw_4
  refine lv_istore (lv' := [(7, .int (fI (fitA (F_3 13) k9 tb) 0 (96 - 0))), (6, .int (nI 0)), (5, .int (nI (hg k9 tb))), (4, .int (nI (wd k9 tb))), (0, .ref (ad 0)), (1, .int (nI s0)), (2, .int (nI k9)), (3, .int (bI tb))]) hx hb dX0_givenBy_44 hl (by decide) rfl (fun ls hl => ?_)
  have L46 : ∀ (fu : Nat) (g9 : Nat) (v9 : Int32) (G : Nat → Nat → Int32) (T : Nat → Int32) (u : Nat) (H : Heap) (locs : List Loc) (ls : Array Slot), 96 - g9 < fu → (g9 ≤ 96) → (G = va_up F 13 T) → (v9 = fI (fitA T k9 tb) 0 (96 - 0)) → (∀ m, m < g9 → fitA T k9 tb m = false) → (gvT F k9 tb s0 = g9 + gvN T k9 tb u) → (97 ≤ u + g9) → va_P D vwCl (wG cI cZ cO ad n np nq G) H → va_D (inA ad 23) (wG cI cZ cO ad n np nq G) → va_S (inA ad 23) s.heap H locs → lv_has ls 8 [(0, .ref (ad 0)), (1, .int (nI s0)), (2, .int (nI k9)), (3, .int (bI tb)), (4, .int (nI (wd k9 tb))), (5, .int (nI (hg k9 tb))), (6, .int (nI g9)), (7, .int v9)] → W p l e R s m args below meth c H locs 0 0 Q (F0 m 46 ls []) := by
    intro fu
    induction fu with
    | zero => intro _ _ _ _ _ _ _ _ h; exact absurd h (Nat.not_lt_zero _)
    | succ fu ih46 =>
      intro g9 v9 G T u H locs ls hm46 hgl hG hv hm ht0 hu hP hD hS hl
      refine lv_iload hx hb dX0_givenBy_46 (lv_at hl 7 rfl) ?_
      refine lv_if_lt (tgt := 101) hx hb dX0_givenBy_48 (by decide) (fun c_5 => ?_) (fun c_5 => ?_)
      · have e9 : fI (fitA T k9 tb) 0 (96 - 0) = -1 := by (rcases fI_cases T k9 tb with ⟨a, ha, e, -⟩ | ⟨e, -⟩; exact absurd c_5 (by rw [hv, e]; exact nI_pos (by omega)); exact e)
        refine lv_iload hx hb dX0_givenBy_101 (lv_at hl 6 rfl) ?_
        rw [← hQ]
        exact W.iret (v := nI g9) hx hb hr (fun t ht hW => ⟨⟨nI g9, T, rfl, (by rw [ht0, gvN_n e9]; rfl), (by show va_P D vwCl (wG cI cZ cO ad n np nq (va_up F 13 T)) t.heap; rw [ht, ← hG]; exact hP)⟩, hS.F ht⟩) hS.2.2 dX0_givenBy_103
      · obtain ⟨a9, ha9, e9, hf9, hm9⟩ : ∃ a, a < 96 ∧ fI (fitA T k9 tb) 0 (96 - 0) = nI a ∧ fitA T k9 tb a = true ∧ ∀ m, m < a → fitA T k9 tb m = false := by (rcases fI_cases T k9 tb with h9 | h9; exact h9; exact absurd (by rw [hv, h9.1]; decide) c_5)
        obtain rfl : v9 = nI a9 := hv.trans e9
        have hga : g9 ≤ a9 := Nat.not_lt.mp fun q => by rw [hm a9 q] at hf9; cases hf9
        obtain ⟨u9, rfl⟩ : ∃ u9, u = u9 + 1 := ⟨u - 1, by omega⟩
        have hft : a9 % 12 + wd k9 tb ≤ 12 ∧ a9 / 12 + hg k9 tb ≤ 8 := by (have hq9 := hf9; unfold fitA fitB at hq9; simp only [Bool.and_eq_true, decide_eq_true_eq] at hq9; omega)
        refine lv_iload hx hb dX0_givenBy_51 (lv_at hl 6 rfl) ?_
        refine lv_bipush (v := nI 96) hx hb dX0_givenBy_53 (by decide) ?_
        refine nv_icmp_ge (tgt := 101) hx hb (by omega) (by omega) dX0_givenBy_55 (by decide) (fun c_6 => ?_) (fun c_6 => ?_)
        · exact absurd c_6 (by omega)
        · refine lv_aload_n hx hb dX0_givenBy_58 rfl (lv_at hl 0 rfl) ?_
          refine va_get (D := D) (ci := 0) (v := .ref (ad 13)) (C := RX0) (T := TX0) (N := 16) hx hb hts hiw hown hK hP 0 g_at0 rfl 15 (by decide) (hts (.fieldLink RX0 49 "GloveCutters" "trialCells" "[I") (by decide +kernel)) (fun _ h9 => h9) rfl dX0_givenBy_59 ?_
          refine lv_iload hx hb dX0_givenBy_62 (lv_at hl 7 rfl) ?_
          refine lv_bipush (v := nI 12) hx hb dX0_givenBy_64 (by decide) ?_
          refine nv_irem hx hb (by omega) (by omega) (by omega) dX0_givenBy_66 ?_
          refine lv_iload hx hb dX0_givenBy_67 (lv_at hl 7 rfl) ?_
          refine lv_bipush (v := nI 12) hx hb dX0_givenBy_69 (by decide) ?_
          refine nv_idiv hx hb (by omega) (by omega) (by omega) dX0_givenBy_71 ?_
          refine lv_iload hx hb dX0_givenBy_72 (lv_at hl 4 rfl) ?_
          refine lv_iload hx hb dX0_givenBy_74 (lv_at hl 5 rfl) ?_
          refine lv_iconst (v := nI 3) hx hb dX0_givenBy_76 (by decide) ?_
          refine va_callv (va_runS (As := [.ref (ad 13), .int (nI (a9 % 12)), .int (nI (a9 / 12)), .int (nI (wd k9 tb)), .int (nI (hg k9 tb)), .int (nI 3)]) (rest := []) ⟨hx, hb, hml, hown, hts⟩ (c_X0_paint l D cI (ad 13) 96 (G 13) (a9 % 12) (a9 / 12) (wd k9 tb) (hg k9 tb) (nI 3) (by omega) (by omega) (by omega)) (va_cwS 6 hts gX0_givenBy_X0_paint rfl rfl rfl (by decide +kernel) ⟨Nat.le_trans (Nat.le_of_ble_eq_true rfl) hRf, Nat.le_trans (Nat.le_of_ble_eq_true rfl) hRl⟩) (pr_S (P_pick hP (k := 13) g_at13) hK [0] rfl V0_at V0_c) rfl rfl hl.1 rfl (lv_room (Nat.le_of_ble_eq_true rfl)) dX0_givenBy_77 ⟨Nat.le_trans (Nat.le_of_ble_eq_true rfl) hRc, Nat.le_trans (Nat.le_of_ble_eq_true rfl) hRs⟩) hS (fun q _ h => ⟨13, by omega, h⟩) (fun q h => ⟨13, by omega, h⟩) (fun _ t H1 locs ht hvm hw_7 hB hz hk hS => ?_)
          rw [ht] at hB
          have hP := P_put hP hD g_at13 hk hB
          rw [g_set13] at hP
          obtain ⟨F_8, eF_8⟩ : ∃ z, z = va_up G 13 (fl (G 13) (12 * (a9 / 12) + (a9 % 12)) (wd k9 tb) (nI 3) ((wd k9 tb) * (hg k9 tb))) := ⟨_, rfl⟩
          rw [← eF_8] at hP
          have hD : va_D (inA ad 23) (wG cI cZ cO ad n np nq F_8) := g_D hinj
          refine lv_iinc (k := 6) (v := nI (g9 + 1)) (lv' := [(6, .int (nI (g9 + 1))), (0, .ref (ad 0)), (1, .int (nI s0)), (2, .int (nI k9)), (3, .int (bI tb)), (4, .int (nI (wd k9 tb))), (5, .int (nI (hg k9 tb))), (7, .int (nI a9))]) hx hb dX0_givenBy_80 hl rfl (nI_add g9 1) (by decide) rfl (fun ls hl => ?_)
          refine lv_aload_n hx hb dX0_givenBy_83 rfl (lv_at hl 1 rfl) ?_
          refine va_get (D := D) (ci := 0) (v := .ref (ad 13)) (C := RX0) (T := TX0) (N := 16) hx hb hts hiw hown hK hP 0 g_at0 rfl 15 (by decide) (hts (.fieldLink RX0 49 "GloveCutters" "trialCells" "[I") (by decide +kernel)) (fun _ h9 => h9) rfl dX0_givenBy_84 ?_
          refine lv_iload_n hx hb dX0_givenBy_87 rfl (lv_at hl 3 rfl) ?_
          refine lv_iload_n hx hb dX0_givenBy_88 rfl (lv_at hl 4 rfl) ?_
          refine lv_iload hx hb dX0_givenBy_89 (lv_at hl 7 rfl) ?_
          refine lv_iconst (v := nI 1) hx hb dX0_givenBy_91 (by decide) ?_
          refine nv_iadd hx hb dX0_givenBy_92 ?_
          refine va_calli (va_runS (As := [.ref (ad 13), .int (nI k9), .int (bI tb), .int (nI (a9 + 1))]) (rest := []) ⟨hx, hb, hml, hown, hts⟩ (c_X0_firstFit l D cI (ad 13) 96 (F_8 13) k9 tb (a9 + 1) (by omega) (by omega) (by omega)) (va_cwS 4 hts gX0_givenBy_X0_firstFit rfl rfl rfl (by decide +kernel) ⟨Nat.le_trans (Nat.le_of_ble_eq_true rfl) hRf, Nat.le_trans (Nat.le_of_ble_eq_true rfl) hRl⟩) (pr_S (P_pick hP (k := 13) g_at13) hK [0] rfl (hV.at hS sub_id sub_no) EnvG_c) rfl rfl hl.1 rfl (lv_room (Nat.le_of_ble_eq_true rfl)) dX0_givenBy_93 ⟨Nat.le_trans (Nat.le_of_ble_eq_true rfl) hRc, Nat.le_trans (Nat.le_of_ble_eq_true rfl) hRs⟩) hS (fun _ _ h => h.elim) (fun _ h => h.elim) (fun r_9 _ t H1 locs ht hvm hw_9 hB hz hk hS => ?_)
          have hP := P_kept hP hk
          obtain rfl := hw_9
          refine lv_istore (lv' := [(7, .int (fI (fitA (F_8 13) k9 tb) (a9 + 1) (96 - (a9 + 1)))), (6, .int (nI (g9 + 1))), (0, .ref (ad 0)), (1, .int (nI s0)), (2, .int (nI k9)), (3, .int (bI tb)), (4, .int (nI (wd k9 tb))), (5, .int (nI (hg k9 tb)))]) hx hb dX0_givenBy_96 hl (by decide) rfl (fun ls hl => ?_)
          refine lv_goto (tgt := 46) hx hb dX0_givenBy_98 (by decide) ?_
          exact ih46 (g9 + 1) (fI (fitA (F_8 13) k9 tb) (a9 + 1) (96 - (a9 + 1))) F_8 (gvF T k9 tb a9) u9 _ _ _ (by omega) (by omega) (by rw [eF_8, hG, uu, va_up_self, Nat.div_add_mod]; rfl) (by rw [(show F_8 13 = gvF T k9 tb a9 from by rw [eF_8, va_up_self, hG, va_up_self, Nat.div_add_mod]; rfl)]; exact (fI_skip (by omega) (gv_no hm9)).symm) (fun m q => gv_no hm9 m (by omega)) (by rw [ht0, gvN_y ha9 e9]; omega) (by omega) hP hD hS (lv_sub hl [2, 3, 4, 5, 6, 7, 1, 0] rfl)
  exact L46 _ 0 (fI (fitA (F_3 13) k9 tb) 0 (96 - 0)) F_3 (va_cpy (F (14 + s0)) (F 13) 0 0 96) 97 _ _ _ (Nat.lt_succ_self _) (by omega) eF_3 (by rw [eF_3, va_up_self]) (fun m q => absurd q (Nat.not_lt_zero m)) (by rw [Nat.zero_add]; exact (gvN_cong 97 cpy_0).symm) (by omega) hP hD hS (lv_sub hl [4, 5, 6, 7, 3, 2, 1, 0] rfl)
set_option maxHeartbeats 4000000 in
set_option maxRecDepth 100000 in
/-- gives -/
theorem c_X0_gives (l : Launch) (hst : l.stackTraces = false) (D : va_G) (cI cZ cO : ClassId) (ad : Nat → Nat) (n np nq : Nat) (F : Nat → Nat → Int32) (s0 k0 : Int32) (tb : Bool) (hinj : inj ad 23) (hn : n ≤ 10) : vx_Met l yX0_gives wsX0_gives ({ frames := 7, cells := 2, slots := 12, locals := 105 } : Room) (va_Pc [.ref (ad 0), .int s0, .int k0, .int (bI tb)] (Pr D (gT cI cZ cO) (wG cI cZ cO ad n np nq F) (EnvG (inA ad 23)))) (va_Qi (S := (Nat → Int32)) (fun (r : Int32) (_ : Nat → Int32) => spGives n F s0 k0 tb = (0, r)) (fun (u : Nat → Int32) (t : State) => va_P D vwCl (wG cI cZ cO ad n np nq (va_up F 13 u)) t.heap) (inA ad 23)) (vx_X (S := Unit) (fun _ => True) (fun E (_ : Unit) (_ : State) => (E = nX ∧ spGives n F s0 k0 tb = (1, 0)) ∨ (E = nA ∧ spGives n F s0 k0 tb = (2, 0))) (fun _ => False)) 2 12 (inA ad 23) := by
  refine vx_ofW (cc := cX0_gives) (maxL := 4) (ret := (some .int)) (by decide) rfl ?_
  intro p e s m args below meth c s₁ B hml htab hv
  obtain ⟨hargs, hP, hK, hV⟩ := hv
  have hx := B.exec
  have hb := B.bytes
  have hr := B.returns
  have hts := atoms_spec (ws := wsX0_gives) B.pre
  have hown : s.vm.findClass RX0 = some m.cls := findClass_of_methodNamed B.named
  have hlocks := B.notSynchronized
  have hS : va_S (fun _ => False) s.heap s.heap [] := va_S.rf
  have hV0 : EnvG (fun _ => False) s := EnvG.nar hV sub_no
  have hiw : ∀ w ∈ wsX00, w ∈ wsX0_gives := (fun _ h => List.mem_cons_of_mem _ (List.mem_append_left _ (List.mem_append_left _ (List.mem_append_right _ h))))
  have hRf : 7 ≤ (headSpec wsX0_gives ({ frames := 7, cells := 2, slots := 12, locals := 105 } : Room)).room.frames := Nat.le_refl _
  have hRl : 105 ≤ (headSpec wsX0_gives ({ frames := 7, cells := 2, slots := 12, locals := 105 } : Room)).room.locals := Nat.le_refl _
  have hRc : 2 ≤ (headSpec wsX0_gives ({ frames := 7, cells := 2, slots := 12, locals := 105 } : Room)).room.cells := Nat.le_refl _
  have hRs : 12 ≤ (headSpec wsX0_gives ({ frames := 7, cells := 2, slots := 12, locals := 105 } : Room)).room.slots := Nat.le_refl _
  generalize (headSpec wsX0_gives ({ frames := 7, cells := 2, slots := 12, locals := 105 } : Room)).room = R at hRf hRl hRc hRs ⊢
  have hl := lv_entry [.ref (ad 0), .int s0, .int k0, .int (bI tb)] (n := 4) (Nat.le_of_ble_eq_true rfl)
  refine W.eq (show entryFrame m args 4 = _ from by rw [hargs, lg_entry_eq]) ?_
  generalize (lg_sl [.ref (ad 0), .int s0, .int k0, .int (bI tb)] ++ List.replicate (4 - (lg_sl [.ref (ad 0), .int s0, .int k0, .int (bI tb)]).length) Slot.unset).toArray = ls at hl ⊢
  have hl : lv_has ls 4 [(0, .ref (ad 0)), (1, .int s0), (2, .int k0), (3, .int (bI tb))] := hl
  have hD : va_D (inA ad 23) (wG cI cZ cO ad n np nq F) := g_D hinj
  generalize hQ : vx_MQ _ _ _ _ _ _ _ _ = Q
  refine lv_aload_n hx hb dX0_gives_0 rfl (lv_at hl 0 rfl) ?_
  refine lv_iload_n hx hb dX0_gives_1 rfl (lv_at hl 1 rfl) ?_
  refine vx_callv (vx_runV (As := [.int s0]) (rest := []) ⟨hx, hb, hml, hown, hts⟩ (c_X0_needSkin l hst D cI cZ cO ad n np nq F s0 hn) (cwV 1 hts gX0_gives_X0_needSkin rfl rfl rfl (by decide +kernel) ⟨Nat.le_trans (Nat.le_of_ble_eq_true rfl) hRf, Nat.le_trans (Nat.le_of_ble_eq_true rfl) hRl⟩) (pr_V hP (ci := 0) (q0 := 0) rfl g_at0 rfl hP hK [0, 1, 2] rfl (hV0.at hS sub_id sub_id) EnvG_c) rfl rfl hl.1 rfl (lv_room (Nat.le_of_ble_eq_true rfl)) dX0_gives_2 ⟨Nat.le_trans (Nat.le_of_ble_eq_true rfl) hRc, Nat.le_trans (Nat.le_of_ble_eq_true rfl) hRs⟩) hS (fun _ _ h => h.elim) (fun _ h => h.elim) (fun _ _ h => h.elim) (fun E ce q9 _ t H1 locs ht hvm hpx hbx _ hk hS hce hcv hcl => ?_) (fun _ t H1 locs ht hvm hw_1 hB hz hk hS => ?_)
  · rw [← hQ]
    exact vx_out (fun x hx9 => (htab x hx9).elim) hlocks hce hcv hcl (fun t ht hal => ⟨(), trivial, Or.inl ⟨hbx.1, by unfold spGives; rw [hbx.2]; rfl⟩, hS.F ht⟩) (fun z hz => (hS.2.2 z hz).elim) (by omega) (by omega)
  have hP := P_kept hP hk
  obtain ⟨j, hj, rfl⟩ := inR_t (by omega) hw_1
  refine lv_iload_n hx hb dX0_gives_5 rfl (lv_at hl 2 rfl) ?_
  refine vx_callv (vx_runS (As := [.int k0]) (rest := []) ⟨hx, hb, hml, hown, hts⟩ (c_X0_needKind l hst D k0 ) (va_cwS 1 hts gX0_gives_X0_needKind rfl rfl rfl (by decide +kernel) ⟨Nat.le_trans (Nat.le_of_ble_eq_true rfl) hRf, Nat.le_trans (Nat.le_of_ble_eq_true rfl) hRl⟩) (pr_S (P_nil) hK [] rfl (hV0.at hS sub_id sub_id) EnvG_c) rfl rfl hl.1 rfl (lv_room (Nat.le_of_ble_eq_true rfl)) dX0_gives_6 ⟨Nat.le_trans (Nat.le_of_ble_eq_true rfl) hRc, Nat.le_trans (Nat.le_of_ble_eq_true rfl) hRs⟩) hS (fun _ _ h => h.elim) (fun _ h => h.elim) (fun _ _ h => h.elim) (fun E ce q9 _ t H1 locs ht hvm hpx hbx _ hk hS hce hcv hcl => ?_) (fun _ t H1 locs ht hvm hw_2 hB hz hk hS => ?_)
  · rw [← hQ]
    exact vx_out (fun x hx9 => (htab x hx9).elim) hlocks hce hcv hcl (fun t ht hal => ⟨(), trivial, Or.inr ⟨hbx.1, by unfold spGives; rw [inR_in hj (by omega), hbx.2]; rfl⟩, hS.F ht⟩) (fun z hz => (hS.2.2 z hz).elim) (by omega) (by omega)
  have hP := P_kept hP hk
  obtain ⟨k9, hk9, rfl⟩ := inR_t (by omega) hw_2
  refine lv_aload_n hx hb dX0_gives_9 rfl (lv_at hl 0 rfl) ?_
  refine lv_iload_n hx hb dX0_gives_10 rfl (lv_at hl 1 rfl) ?_
  refine lv_iload_n hx hb dX0_gives_11 rfl (lv_at hl 2 rfl) ?_
  refine lv_iload_n hx hb dX0_gives_12 rfl (lv_at hl 3 rfl) ?_
  have hS : va_S (inA ad 23) s.heap _ _ := S_mono hS
  refine va_calli (va_runV (As := [.int (nI j), .int (nI k9), .int (bI tb)]) (rest := []) ⟨hx, hb, hml, hown, hts⟩ (c_X0_givenBy l D cI cZ cO ad n np nq F j k9 tb hinj (by omega) (by omega)) (cwV 3 hts gX0_gives_X0_givenBy rfl rfl rfl (by decide +kernel) ⟨Nat.le_trans (Nat.le_of_ble_eq_true rfl) hRf, Nat.le_trans (Nat.le_of_ble_eq_true rfl) hRl⟩) (pr_V hP (ci := 0) (q0 := 0) rfl g_at0 rfl hP hK [0, 1, 2] rfl (hV.at hS sub_id sub_id) EnvG_c) rfl rfl hl.1 rfl (lv_room (Nat.le_of_ble_eq_true rfl)) dX0_gives_13 ⟨Nat.le_trans (Nat.le_of_ble_eq_true rfl) hRc, Nat.le_trans (Nat.le_of_ble_eq_true rfl) hRs⟩) hS (fun _ _ h => h) (fun _ h => h) (fun r_3 u_3 t H1 locs ht hvm hw_3 hB hz hk hS => ?_)
  rw [ht] at hB
  have hP := hB
  have hP : va_P D vwCl (wG cI cZ cO ad n np nq (va_up F 13 u_3)) H1 := hP
  have hD : va_D (inA ad 23) (wG cI cZ cO ad n np nq (va_up F 13 u_3)) := g_D hinj
  obtain ⟨F_4, eF_4⟩ : ∃ z, z = va_up F 13 u_3 := ⟨_, rfl⟩
  rw [← eF_4] at hP hD
  obtain rfl := hw_3
  rw [← hQ]
  refine vx_ret ?_
  exact W.iret (v := nI (gvT F k9 tb j)) hx hb hr (fun t ht hW => ⟨⟨nI (gvT F k9 tb j), u_3, rfl, (spGives_y hn hj hk9), (by show va_P D vwCl (wG cI cZ cO ad n np nq (va_up F 13 u_3)) t.heap; rw [ht, ← eF_4]; exact hP)⟩, hS.F ht⟩) hS.2.2 dX0_gives_16
set_option maxHeartbeats 4000000 in
set_option maxRecDepth 100000 in
/-- best -/
theorem c_X0_best (l : Launch) (hst : l.stackTraces = false) (D : va_G) (cI cZ cO : ClassId) (ad : Nat → Nat) (n np nq : Nat) (F : Nat → Nat → Int32) (k0 : Int32) (tb : Bool) (hinj : inj ad 23) (hn : n ≤ 10) : vx_Met l yX0_best wsX0_best ({ frames := 7, cells := 1, slots := 6, locals := 105 } : Room) (va_Pc [.ref (ad 0), .int k0, .int (bI tb)] (Pr D (gT cI cZ cO) (wG cI cZ cO ad n np nq F) (EnvG (inA ad 23)))) (va_Qi (S := (Nat → Int32)) (fun (r : Int32) (_ : Nat → Int32) => spBest n F k0 tb = (0, r)) (fun (u : Nat → Int32) (t : State) => va_P D vwCl (wG cI cZ cO ad n np nq (va_up F 13 u)) t.heap) (inA ad 23)) (vx_X (S := Unit) (fun _ => True) (fun E (_ : Unit) (_ : State) => E = nA ∧ spBest n F k0 tb = (1, 0)) (fun _ => False)) 1 6 (inA ad 23) := by
  refine vx_ofW (cc := cX0_best) (maxL := 7) (ret := (some .int)) (by decide) rfl ?_
  intro p e s m args below meth c s₁ B hml htab hv
  obtain ⟨hargs, hP, hK, hV⟩ := hv
  have hx := B.exec
  have hb := B.bytes
  have hr := B.returns
  have hts := atoms_spec (ws := wsX0_best) B.pre
  have hown : s.vm.findClass RX0 = some m.cls := findClass_of_methodNamed B.named
  have hlocks := B.notSynchronized
  have hS : va_S (fun _ => False) s.heap s.heap [] := va_S.rf
  have hV0 : EnvG (fun _ => False) s := EnvG.nar hV sub_no
  have hiw : ∀ w ∈ wsX00, w ∈ wsX0_best := (fun _ h => List.mem_cons_of_mem _ (List.mem_append_left _ (List.mem_append_right _ h)))
  have hRf : 7 ≤ (headSpec wsX0_best ({ frames := 7, cells := 1, slots := 6, locals := 105 } : Room)).room.frames := Nat.le_refl _
  have hRl : 105 ≤ (headSpec wsX0_best ({ frames := 7, cells := 1, slots := 6, locals := 105 } : Room)).room.locals := Nat.le_refl _
  have hRc : 1 ≤ (headSpec wsX0_best ({ frames := 7, cells := 1, slots := 6, locals := 105 } : Room)).room.cells := Nat.le_refl _
  have hRs : 6 ≤ (headSpec wsX0_best ({ frames := 7, cells := 1, slots := 6, locals := 105 } : Room)).room.slots := Nat.le_refl _
  generalize (headSpec wsX0_best ({ frames := 7, cells := 1, slots := 6, locals := 105 } : Room)).room = R at hRf hRl hRc hRs ⊢
  have hl := lv_entry [.ref (ad 0), .int k0, .int (bI tb)] (n := 7) (Nat.le_of_ble_eq_true rfl)
  refine W.eq (show entryFrame m args 7 = _ from by rw [hargs, lg_entry_eq]) ?_
  generalize (lg_sl [.ref (ad 0), .int k0, .int (bI tb)] ++ List.replicate (7 - (lg_sl [.ref (ad 0), .int k0, .int (bI tb)]).length) Slot.unset).toArray = ls at hl ⊢
  have hl : lv_has ls 7 [(0, .ref (ad 0)), (1, .int k0), (2, .int (bI tb))] := hl
  have hD : va_D (inA ad 23) (wG cI cZ cO ad n np nq F) := g_D hinj
  generalize hQ : vx_MQ _ _ _ _ _ _ _ _ = Q
  refine lv_iload_n hx hb dX0_best_0 rfl (lv_at hl 1 rfl) ?_
  refine vx_callv (vx_runS (As := [.int k0]) (rest := []) ⟨hx, hb, hml, hown, hts⟩ (c_X0_needKind l hst D k0 ) (va_cwS 1 hts gX0_best_X0_needKind rfl rfl rfl (by decide +kernel) ⟨Nat.le_trans (Nat.le_of_ble_eq_true rfl) hRf, Nat.le_trans (Nat.le_of_ble_eq_true rfl) hRl⟩) (pr_S (P_nil) hK [] rfl (hV0.at hS sub_id sub_id) EnvG_c) rfl rfl hl.1 rfl (lv_room (Nat.le_of_ble_eq_true rfl)) dX0_best_1 ⟨Nat.le_trans (Nat.le_of_ble_eq_true rfl) hRc, Nat.le_trans (Nat.le_of_ble_eq_true rfl) hRs⟩) hS (fun _ _ h => h.elim) (fun _ h => h.elim) (fun _ _ h => h.elim) (fun E ce q9 _ t H1 locs ht hvm hpx hbx _ hk hS hce hcv hcl => ?_) (fun _ t H1 locs ht hvm hw_1 hB hz hk hS => ?_)
  · rw [← hQ]
    exact vx_out (fun x hx9 => (htab x hx9).elim) hlocks hce hcv hcl (fun t ht hal => ⟨(), trivial, ⟨hbx.1, by unfold spBest; rw [hbx.2]; rfl⟩, hS.F ht⟩) (fun z hz => (hS.2.2 z hz).elim) (by omega) (by omega)
  have hP := P_kept hP hk
  obtain ⟨k9, hk9, rfl⟩ := inR_t (by omega) hw_1
  refine lv_iconst (v := -1) hx hb dX0_best_4 (by decide) ?_
  refine lv_istore_n (lv' := [(3, .int (-1)), (0, .ref (ad 0)), (1, .int (nI k9)), (2, .int (bI tb))]) hx hb dX0_best_5 rfl hl (by decide) rfl (fun ls hl => ?_)
  refine lv_iconst (v := nI 0) hx hb dX0_best_6 (by decide) ?_
  refine lv_istore (lv' := [(4, .int (nI 0)), (3, .int (-1)), (0, .ref (ad 0)), (1, .int (nI k9)), (2, .int (bI tb))]) hx hb dX0_best_7 hl (by decide) rfl (fun ls hl => ?_)
  refine lv_iconst (v := nI 0) hx hb dX0_best_9 (by decide) ?_
  refine lv_istore (lv' := [(5, .int (nI 0)), (4, .int (nI 0)), (3, .int (-1)), (0, .ref (ad 0)), (1, .int (nI k9)), (2, .int (bI tb))]) hx hb dX0_best_10 hl (by decide) rfl (fun ls hl => ?_)
  have hS : va_S (inA ad 23) s.heap _ _ := S_mono hS
  have L12 : ∀ (fu : Nat) (bb : Int32) (mm : Nat) (i9 : Nat) (G : Nat → Nat → Int32) (T : Nat → Int32) (H : Heap) (locs : List Loc) (ls : Array Slot), n - i9 < fu → (i9 ≤ n) → (G = va_up F 13 T) → (bb = bB (gvT F k9 tb) i9) → (mm = bM (gvT F k9 tb) i9) → (mm ≤ 97) → va_P D vwCl (wG cI cZ cO ad n np nq G) H → va_D (inA ad 23) (wG cI cZ cO ad n np nq G) → va_S (inA ad 23) s.heap H locs → lv_has ls 7 [(0, .ref (ad 0)), (1, .int (nI k9)), (2, .int (bI tb)), (3, .int bb), (4, .int (nI mm)), (5, .int (nI i9))] → W p l e R s m args below meth c H locs 1 6 Q (F0 m 12 ls []) := by
    intro fu
    induction fu with
    | zero => intro _ _ _ _ _ _ _ _ h; exact absurd h (Nat.not_lt_zero _)
    | succ fu ih12 =>
      intro bb mm i9 G T H locs ls hm12 h1 hG hb2 hm h3 hP hD hS hl
      refine lv_iload hx hb dX0_best_12 (lv_at hl 5 rfl) ?_
      refine lv_aload_n hx hb dX0_best_14 rfl (lv_at hl 0 rfl) ?_
      refine va_get (D := D) (ci := 0) (v := .int (nI n)) (C := RX0) (T := TX0) (N := 16) hx hb hts hiw hown hK hP 0 g_at0 rfl 0 (by decide) (hts (.fieldLink RX0 56 "GloveCutters" "skins" "I") (by decide +kernel)) (fun _ h9 => h9) rfl dX0_best_15 ?_
      refine nv_icmp_ge (tgt := 51) hx hb (by omega) (by omega) dX0_best_18 (by decide) (fun c_2 => ?_) (fun c_2 => ?_)
      · refine lv_iload_n hx hb dX0_best_51 rfl (lv_at hl 3 rfl) ?_
        rw [← hQ]
        refine vx_ret ?_
        exact W.iret (v := bb) hx hb hr (fun t ht hW => ⟨⟨bb, T, rfl, ((spBest_y hk9).trans (by rw [hb2, show i9 = n by omega])), (by show va_P D vwCl (wG cI cZ cO ad n np nq (va_up F 13 T)) t.heap; rw [ht, ← hG]; exact hP)⟩, hS.F ht⟩) hS.2.2 dX0_best_52
      · refine lv_aload_n hx hb dX0_best_21 rfl (lv_at hl 0 rfl) ?_
        refine lv_iload hx hb dX0_best_22 (lv_at hl 5 rfl) ?_
        refine lv_iload_n hx hb dX0_best_24 rfl (lv_at hl 1 rfl) ?_
        refine lv_iload_n hx hb dX0_best_25 rfl (lv_at hl 2 rfl) ?_
        refine va_calli (va_runV (As := [.int (nI i9), .int (nI k9), .int (bI tb)]) (rest := []) ⟨hx, hb, hml, hown, hts⟩ (c_X0_givenBy l D cI cZ cO ad n np nq G i9 k9 tb hinj (by omega) (by omega)) (cwV 3 hts gX0_best_X0_givenBy rfl rfl rfl (by decide +kernel) ⟨Nat.le_trans (Nat.le_of_ble_eq_true rfl) hRf, Nat.le_trans (Nat.le_of_ble_eq_true rfl) hRl⟩) (pr_V hP (ci := 0) (q0 := 0) rfl g_at0 rfl hP hK [0, 1, 2] rfl (hV.at hS sub_id sub_id) EnvG_c) rfl rfl hl.1 rfl (lv_room (Nat.le_of_ble_eq_true rfl)) dX0_best_26 ⟨Nat.le_trans (Nat.le_of_ble_eq_true rfl) hRc, Nat.le_trans (Nat.le_of_ble_eq_true rfl) hRs⟩) hS (fun _ _ h => h) (fun _ h => h) (fun r_3 u_3 t H1 locs ht hvm hw_3 hB hz hk hS => ?_)
        rw [ht] at hB
        have hP := hB
        have hP : va_P D vwCl (wG cI cZ cO ad n np nq (va_up G 13 u_3)) H1 := hP
        have hD : va_D (inA ad 23) (wG cI cZ cO ad n np nq (va_up G 13 u_3)) := g_D hinj
        obtain ⟨F_4, eF_4⟩ : ∃ z, z = va_up G 13 u_3 := ⟨_, rfl⟩
        rw [← eF_4] at hP hD
        obtain rfl := hw_3
        have hl9 := gvN_le k9 tb 97 (F (14 + i9))
        have eg : gvT G k9 tb i9 = gvT F k9 tb i9 := by unfold gvT; rw [hG, va_up_ne _ _ (by omega)]
        rw [eg]
        have hl8 : gvT F k9 tb i9 ≤ 97 := hl9
        refine lv_istore (lv' := [(6, .int (nI (gvT F k9 tb i9))), (0, .ref (ad 0)), (1, .int (nI k9)), (2, .int (bI tb)), (3, .int bb), (4, .int (nI mm)), (5, .int (nI i9))]) hx hb dX0_best_29 hl (by decide) rfl (fun ls hl => ?_)
        refine lv_iload hx hb dX0_best_31 (lv_at hl 0 rfl) ?_
        refine lv_iload hx hb dX0_best_33 (lv_at hl 5 rfl) ?_
        refine nv_icmp_le (tgt := 45) hx hb (by omega) (by omega) dX0_best_35 (by decide) (fun c_5 => ?_) (fun c_5 => ?_)
        · refine lv_iinc (k := 6) (v := nI (i9 + 1)) (lv' := [(5, .int (nI (i9 + 1))), (6, .int (nI (gvT F k9 tb i9))), (0, .ref (ad 0)), (1, .int (nI k9)), (2, .int (bI tb)), (3, .int bb), (4, .int (nI mm))]) hx hb dX0_best_45 hl rfl (nI_add i9 1) (by decide) rfl (fun ls hl => ?_)
          refine lv_goto (tgt := 12) hx hb dX0_best_48 (by decide) ?_
          exact ih12 bb mm (i9 + 1) F_4 u_3 _ _ _ (by omega) (by omega) (by rw [eF_4, hG, uu]) (by rw [bB, if_neg (by rw [← hm]; omega)]; exact hb2) (by rw [bM, if_neg (by rw [← hm]; omega)]; exact hm) (by omega) hP hD hS (lv_sub hl [2, 3, 4, 5, 6, 0] rfl)
        · refine lv_iload hx hb dX0_best_38 (lv_at hl 0 rfl) ?_
          refine lv_istore (lv' := [(4, .int (nI (gvT F k9 tb i9))), (6, .int (nI (gvT F k9 tb i9))), (0, .ref (ad 0)), (1, .int (nI k9)), (2, .int (bI tb)), (3, .int bb), (5, .int (nI i9))]) hx hb dX0_best_40 hl (by decide) rfl (fun ls hl => ?_)
          refine lv_iload hx hb dX0_best_42 (lv_at hl 6 rfl) ?_
          refine lv_istore_n (lv' := [(3, .int (nI i9)), (4, .int (nI (gvT F k9 tb i9))), (6, .int (nI (gvT F k9 tb i9))), (0, .ref (ad 0)), (1, .int (nI k9)), (2, .int (bI tb)), (5, .int (nI i9))]) hx hb dX0_best_44 rfl hl (by decide) rfl (fun ls hl => ?_)
          refine lv_iinc (k := 6) (v := nI (i9 + 1)) (lv' := [(5, .int (nI (i9 + 1))), (3, .int (nI i9)), (4, .int (nI (gvT F k9 tb i9))), (6, .int (nI (gvT F k9 tb i9))), (0, .ref (ad 0)), (1, .int (nI k9)), (2, .int (bI tb))]) hx hb dX0_best_45 hl rfl (nI_add i9 1) (by decide) rfl (fun ls hl => ?_)
          refine lv_goto (tgt := 12) hx hb dX0_best_48 (by decide) ?_
          exact ih12 (nI i9) (gvT F k9 tb i9) (i9 + 1) F_4 u_3 _ _ _ (by omega) (by omega) (by rw [eF_4, hG, uu]) (by rw [bB, if_pos (by rw [← hm]; omega)]) (by rw [bM, if_pos (by rw [← hm]; omega)]) (by omega) hP hD hS (lv_sub hl [4, 5, 6, 1, 2, 0] rfl)
  exact L12 _ (-1) 0 0 F (F 13) _ _ _ (Nat.lt_succ_self _) (by omega) (va_up_id F 13).symm rfl rfl (by omega) hP hD hS (lv_sub hl [3, 4, 5, 2, 1, 0] rfl)
