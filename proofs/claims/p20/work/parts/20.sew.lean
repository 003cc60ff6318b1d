set_option maxHeartbeats 4000000 in
set_option maxRecDepth 100000 in
/-- Integer.bitCount -/
theorem c_J6_bitCount_0f7a4 (l : Launch) (D : va_G) (x0 : Int32)  : Met l yJ6_bitCount_0f7a4 wsJ6_bitCount_0f7a4 ({ frames := 0, cells := 0, slots := 0, locals := 0 } : Room) (va_Pc [.int x0] (Pr D [] [] V0)) (va_Qi (S := Unit) (fun (r : Int32) (_ : Unit) => r = bcI x0) (fun _ _ => True) (fun _ => False)) 0 0 (fun _ => False) := by
  refine Met.ofW (cc := cJ6_bitCount_0f7a4) (maxL := 1) (ret := (some .int)) (by decide) rfl ?_
  intro p e s m args below meth c s₁ B hml hv
  obtain ⟨hargs, hP, hK, hV⟩ := hv
  have hx := B.exec
  have hb := B.bytes
  have hr := B.returns
  have hts := atoms_spec (ws := wsJ6_bitCount_0f7a4) B.pre
  have hown : s.vm.findClass RJ6 = some m.cls := findClass_of_methodNamed B.named
  have hlocks := B.notSynchronized
  have hS : va_S (fun _ => False) s.heap s.heap [] := va_S.rf
  have hRf : 0 ≤ (headSpec wsJ6_bitCount_0f7a4 ({ frames := 0, cells := 0, slots := 0, locals := 0 } : Room)).room.frames := Nat.le_refl _
  have hRl : 0 ≤ (headSpec wsJ6_bitCount_0f7a4 ({ frames := 0, cells := 0, slots := 0, locals := 0 } : Room)).room.locals := Nat.le_refl _
  have hRc : 0 ≤ (headSpec wsJ6_bitCount_0f7a4 ({ frames := 0, cells := 0, slots := 0, locals := 0 } : Room)).room.cells := Nat.le_refl _
  have hRs : 0 ≤ (headSpec wsJ6_bitCount_0f7a4 ({ frames := 0, cells := 0, slots := 0, locals := 0 } : Room)).room.slots := Nat.le_refl _
  generalize (headSpec wsJ6_bitCount_0f7a4 ({ frames := 0, cells := 0, slots := 0, locals := 0 } : Room)).room = R at hRf hRl hRc hRs ⊢
  have hl := lv_entry [.int x0] (n := 1) (Nat.le_of_ble_eq_true rfl)
  refine W.eq (show entryFrame m args 1 = _ from by rw [hargs, lg_entry_eq]) ?_
  generalize (lg_sl [.int x0] ++ List.replicate (1 - (lg_sl [.int x0]).length) Slot.unset).toArray = ls at hl ⊢
  have hl : lv_has ls 1 [(0, .int x0)] := hl
  generalize hQ : MQ _ _ _ _ _ _ _ = Q
  refine lv_iload_n hx hb dJ6_bitCount_0f7a4_0 rfl (lv_at hl 0 rfl) ?_
  refine lv_iload_n hx hb dJ6_bitCount_0f7a4_1 rfl (lv_at hl 0 rfl) ?_
  refine lv_iconst (v := nI 1) hx hb dJ6_bitCount_0f7a4_2 (by decide) ?_
  refine lv_iushr hx hb dJ6_bitCount_0f7a4_3 rfl ?_
  refine lv_ldcw (v := 1431655765) hx hb hown (hts (.constant RJ6 265 (1431655765)) (by decide +kernel)) dJ6_bitCount_0f7a4_4 ?_
  refine lv_iand hx hb dJ6_bitCount_0f7a4_7 ?_
  refine lv_isub hx hb dJ6_bitCount_0f7a4_8 ?_
  refine lv_topi (fun x_1 ex_1 => ?_)
  have ex_1 : x_1 = bc1 x0 := ex_1
  refine lv_istore_n (lv' := [(0, .int x_1)]) hx hb dJ6_bitCount_0f7a4_9 rfl hl (by decide) rfl (fun ls hl => ?_)
  refine lv_iload_n hx hb dJ6_bitCount_0f7a4_10 rfl (lv_at hl 0 rfl) ?_
  refine lv_ldcw (v := 858993459) hx hb hown (hts (.constant RJ6 266 (858993459)) (by decide +kernel)) dJ6_bitCount_0f7a4_11 ?_
  refine lv_iand hx hb dJ6_bitCount_0f7a4_14 ?_
  refine lv_iload_n hx hb dJ6_bitCount_0f7a4_15 rfl (lv_at hl 0 rfl) ?_
  refine lv_iconst (v := nI 2) hx hb dJ6_bitCount_0f7a4_16 (by decide) ?_
  refine lv_iushr hx hb dJ6_bitCount_0f7a4_17 rfl ?_
  refine lv_ldcw (v := 858993459) hx hb hown (hts (.constant RJ6 266 (858993459)) (by decide +kernel)) dJ6_bitCount_0f7a4_18 ?_
  refine lv_iand hx hb dJ6_bitCount_0f7a4_21 ?_
  refine lv_iadd hx hb dJ6_bitCount_0f7a4_22 ?_
  refine lv_topi (fun x_2 ex_2 => ?_)
  have ex_2 : x_2 = bc2 x_1 := ex_2
  refine lv_istore_n (lv' := [(0, .int x_2)]) hx hb dJ6_bitCount_0f7a4_23 rfl hl (by decide) rfl (fun ls hl => ?_)
  refine lv_iload_n hx hb dJ6_bitCount_0f7a4_24 rfl (lv_at hl 0 rfl) ?_
  refine lv_iload_n hx hb dJ6_bitCount_0f7a4_25 rfl (lv_at hl 0 rfl) ?_
  refine lv_iconst (v := nI 4) hx hb dJ6_bitCount_0f7a4_26 (by decide) ?_
  refine lv_iushr hx hb dJ6_bitCount_0f7a4_27 rfl ?_
  refine lv_iadd hx hb dJ6_bitCount_0f7a4_28 ?_
  refine lv_ldcw (v := 252645135) hx hb hown (hts (.constant RJ6 267 (252645135)) (by decide +kernel)) dJ6_bitCount_0f7a4_29 ?_
  refine lv_iand hx hb dJ6_bitCount_0f7a4_32 ?_
  refine lv_topi (fun x_3 ex_3 => ?_)
  have ex_3 : x_3 = bc3 x_2 := ex_3
  refine lv_istore_n (lv' := [(0, .int x_3)]) hx hb dJ6_bitCount_0f7a4_33 rfl hl (by decide) rfl (fun ls hl => ?_)
  refine lv_iload_n hx hb dJ6_bitCount_0f7a4_34 rfl (lv_at hl 0 rfl) ?_
  refine lv_iload_n hx hb dJ6_bitCount_0f7a4_35 rfl (lv_at hl 0 rfl) ?_
  refine lv_bipush (v := nI 8) hx hb dJ6_bitCount_0f7a4_36 (by decide) ?_
  refine lv_iushr hx hb dJ6_bitCount_0f7a4_38 rfl ?_
  refine lv_iadd hx hb dJ6_bitCount_0f7a4_39 ?_
  refine lv_topi (fun x_4 ex_4 => ?_)
  have ex_4 : x_4 = bc4 x_3 := ex_4
  refine lv_istore_n (lv' := [(0, .int x_4)]) hx hb dJ6_bitCount_0f7a4_40 rfl hl (by decide) rfl (fun ls hl => ?_)
  refine lv_iload_n hx hb dJ6_bitCount_0f7a4_41 rfl (lv_at hl 0 rfl) ?_
  refine lv_iload_n hx hb dJ6_bitCount_0f7a4_42 rfl (lv_at hl 0 rfl) ?_
  refine lv_bipush (v := nI 16) hx hb dJ6_bitCount_0f7a4_43 (by decide) ?_
  refine lv_iushr hx hb dJ6_bitCount_0f7a4_45 rfl ?_
  refine lv_iadd hx hb dJ6_bitCount_0f7a4_46 ?_
  refine lv_topi (fun x_5 ex_5 => ?_)
  have ex_5 : x_5 = bc5 x_4 := ex_5
  refine lv_istore_n (lv' := [(0, .int x_5)]) hx hb dJ6_bitCount_0f7a4_47 rfl hl (by decide) rfl (fun ls hl => ?_)
  refine lv_iload_n hx hb dJ6_bitCount_0f7a4_48 rfl (lv_at hl 0 rfl) ?_
  refine lv_bipush (v := nI 63) hx hb dJ6_bitCount_0f7a4_49 (by decide) ?_
  refine lv_iand hx hb dJ6_bitCount_0f7a4_51 ?_
  rw [← hQ]
  exact W.iret (v := x_5 &&& (nI 63)) hx hb hr (fun t ht hW => ⟨⟨x_5 &&& (nI 63), (), rfl, (by unfold bcI; rw [← ex_1, ← ex_2, ← ex_3, ← ex_4, ← ex_5]), trivial⟩, hS.F ht⟩) hS.2.2 dJ6_bitCount_0f7a4_52
set_option maxHeartbeats 4000000 in
set_option maxRecDepth 100000 in
/-- enterPair -/
theorem c_X0_enterPair (l : Launch) (D : va_G) (cI cZ cO : ClassId) (ad : Nat → Nat) (n np nq : Nat) (F : Nat → Nat → Int32) (c0 : Int32) (hinj : inj ad 23) (hn : n ≤ 10) (hnp : np ≤ 150) (hsk : ∀ p, p < np → ∃ k, k < n ∧ F 4 p = nI k) (hnq2 : nq < 20) (hfr : ∀ p, p < np → ¬ F 6 p = nI nq) (h11 : F 11 nq = 0) : Met l yX0_enterPair wsX0_enterPair ({ frames := 2, cells := 0, slots := 0, locals := 45 } : Room) (va_Pc [.ref (ad 0), .int c0] (Pr D (gT cI cZ cO) (wG cI cZ cO ad n np nq F) (EnvG (inA ad 23)))) (va_Qv (S := Unit) (fun _ => True) (fun (_ : Unit) (t : State) => va_P D vwCl (wG cI cZ cO ad n np (nq + 1) (swF F n np nq c0)) t.heap) (inA ad 23)) 0 0 (inA ad 23) := by
  refine Met.ofW (cc := cX0_enterPair) (maxL := 8) (ret := none) (by decide) rfl ?_
  intro p e s m args below meth c s₁ B hml hv
  obtain ⟨hargs, hP, hK, hV⟩ := hv
  have hx := B.exec
  have hb := B.bytes
  have hr := B.returns
  have hts := atoms_spec (ws := wsX0_enterPair) B.pre
  have hown : s.vm.findClass RX0 = some m.cls := findClass_of_methodNamed B.named
  have hlocks := B.notSynchronized
  have hS : va_S (fun _ => False) s.heap s.heap [] := va_S.rf
  have hV0 : EnvG (fun _ => False) s := EnvG.nar hV sub_no
  have hiw : ∀ w ∈ wsX00, w ∈ wsX0_enterPair := (fun _ h => List.mem_cons_of_mem _ (List.mem_append_right _ h))
  have hRf : 2 ≤ (headSpec wsX0_enterPair ({ frames := 2, cells := 0, slots := 0, locals := 45 } : Room)).room.frames := Nat.le_refl _
  have hRl : 45 ≤ (headSpec wsX0_enterPair ({ frames := 2, cells := 0, slots := 0, locals := 45 } : Room)).room.locals := Nat.le_refl _
  have hRc : 0 ≤ (headSpec wsX0_enterPair ({ frames := 2, cells := 0, slots := 0, locals := 45 } : Room)).room.cells := Nat.le_refl _
  have hRs : 0 ≤ (headSpec wsX0_enterPair ({ frames := 2, cells := 0, slots := 0, locals := 45 } : Room)).room.slots := Nat.le_refl _
  generalize (headSpec wsX0_enterPair ({ frames := 2, cells := 0, slots := 0, locals := 45 } : Room)).room = R at hRf hRl hRc hRs ⊢
  have hl := lv_entry [.ref (ad 0), .int c0] (n := 8) (Nat.le_of_ble_eq_true rfl)
  refine W.eq (show entryFrame m args 8 = _ from by rw [hargs, lg_entry_eq]) ?_
  generalize (lg_sl [.ref (ad 0), .int c0] ++ List.replicate (8 - (lg_sl [.ref (ad 0), .int c0]).length) Slot.unset).toArray = ls at hl ⊢
  have hl : lv_has ls 8 [(0, .ref (ad 0)), (1, .int c0)] := hl
  have hD : va_D (inA ad 23) (wG cI cZ cO ad n np nq F) := g_D hinj
  generalize hQ : MQ _ _ _ _ _ _ _ = Q
  refine lv_aload_n hx hb dX0_enterPair_0 rfl (lv_at hl 0 rfl) ?_
  refine lv_iload_n hx hb dX0_enterPair_1 rfl (lv_at hl 1 rfl) ?_
  refine va_calli (va_runV (As := [.int c0]) (rest := []) ⟨hx, hb, hml, hown, hts⟩ (c_X0_firstSkinWithTranks l D cI cZ cO ad n np nq F c0 hn hnp) (cwV 1 hts gX0_enterPair_X0_firstSkinWithTranks rfl rfl rfl (by decide +kernel) ⟨Nat.le_trans (Nat.le_of_ble_eq_true rfl) hRf, Nat.le_trans (Nat.le_of_ble_eq_true rfl) hRl⟩) (pr_V hP (ci := 0) (q0 := 0) rfl g_at0 rfl hP hK [0, 1, 2] rfl (hV0.at hS sub_id sub_id) EnvG_c) rfl rfl hl.1 rfl (lv_room (Nat.le_of_ble_eq_true rfl)) dX0_enterPair_2 ⟨Nat.le_trans (Nat.le_of_ble_eq_true rfl) hRc, Nat.le_trans (Nat.le_of_ble_eq_true rfl) hRs⟩) hS (fun _ _ h => h.elim) (fun _ h => h.elim) (fun r_1 _ t H1 locs ht hvm hw_1 hB hz hk hS => ?_)
  have hP := P_kept hP hk
  obtain rfl := hw_1
  obtain ⟨ts9, ets9⟩ : ∃ z, z = tsI F n np c0 := ⟨_, rfl⟩
  have ets8 : fI (tsB F np c0) 0 (n - 0) = ts9 := ets9.symm
  rw [ets8]
  refine lv_istore_n (lv' := [(2, .int ts9), (0, .ref (ad 0)), (1, .int c0)]) hx hb dX0_enterPair_5 rfl hl (by decide) rfl (fun ls hl => ?_)
  refine lv_aload_n hx hb dX0_enterPair_6 rfl (lv_at hl 1 rfl) ?_
  refine va_get (D := D) (ci := 0) (v := .ref (ad 8)) (C := RX0) (T := TX0) (N := 16) hx hb hts hiw hown hK hP 0 g_at0 rfl 10 (by decide) (hts (.fieldLink RX0 33 "GloveCutters" "pairColour" "[I") (by decide +kernel)) (fun _ h9 => h9) rfl dX0_enterPair_7 ?_
  refine lv_aload_n hx hb dX0_enterPair_10 rfl (lv_at hl 1 rfl) ?_
  refine va_get (D := D) (ci := 0) (v := .int (nI nq)) (C := RX0) (T := TX0) (N := 16) hx hb hts hiw hown hK hP 0 g_at0 rfl 9 (by decide) (hts (.fieldLink RX0 136 "GloveCutters" "sewn" "I") (by decide +kernel)) (fun _ h9 => h9) rfl dX0_enterPair_11 ?_
  refine lv_iload_n hx hb dX0_enterPair_14 rfl (lv_at hl 2 rfl) ?_
  have hS : va_S (inA ad 23) s.heap _ _ := S_mono hS
  refine nv_iast hx hb hK hP hD hS 8 0 g_at8 rfl (by omega) (by omega) dX0_enterPair_15 (fun H locs hP hD hS => ?_)
  rw [g_set8] at hP hD
  obtain ⟨F_2, eF_2⟩ : ∃ z, z = va_up F 8 (upd (F 8) nq c0) := ⟨_, rfl⟩
  rw [← eF_2] at hP hD
  refine lv_aload_n hx hb dX0_enterPair_16 rfl (lv_at hl 1 rfl) ?_
  refine va_get (D := D) (ci := 0) (v := .ref (ad 9)) (C := RX0) (T := TX0) (N := 16) hx hb hts hiw hown hK hP 0 g_at0 rfl 11 (by decide) (hts (.fieldLink RX0 36 "GloveCutters" "pairTrankSkin" "[I") (by decide +kernel)) (fun _ h9 => h9) rfl dX0_enterPair_17 ?_
  refine lv_aload_n hx hb dX0_enterPair_20 rfl (lv_at hl 1 rfl) ?_
  refine va_get (D := D) (ci := 0) (v := .int (nI nq)) (C := RX0) (T := TX0) (N := 16) hx hb hts hiw hown hK hP 0 g_at0 rfl 9 (by decide) (hts (.fieldLink RX0 136 "GloveCutters" "sewn" "I") (by decide +kernel)) (fun _ h9 => h9) rfl dX0_enterPair_21 ?_
  refine lv_iload_n hx hb dX0_enterPair_24 rfl (lv_at hl 0 rfl) ?_
  refine nv_iast hx hb hK hP hD hS 9 0 g_at9 rfl (by omega) (by omega) dX0_enterPair_25 (fun H locs hP hD hS => ?_)
  rw [g_set9] at hP hD
  obtain ⟨F_3, eF_3⟩ : ∃ z, z = va_up F_2 9 (upd (F_2 9) nq ts9) := ⟨_, rfl⟩
  rw [← eF_3] at hP hD
  have eF_b : F_3 = swB F nq c0 ts9 := by (subst eF_3 eF_2; rfl)
  refine lv_iconst (v := nI 0) hx hb dX0_enterPair_26 (by decide) ?_
  refine lv_istore_n (lv' := [(3, .int (nI 0)), (2, .int ts9), (0, .ref (ad 0)), (1, .int c0)]) hx hb dX0_enterPair_27 rfl hl (by decide) rfl (fun ls hl => ?_)
  refine lv_iconst (v := nI 0) hx hb dX0_enterPair_28 (by decide) ?_
  refine lv_istore (lv' := [(4, .int (nI 0)), (3, .int (nI 0)), (2, .int ts9), (0, .ref (ad 0)), (1, .int c0)]) hx hb dX0_enterPair_29 hl (by decide) rfl (fun ls hl => ?_)
  have L31 : ∀ (fu : Nat) (i9 : Nat) (b : Int32) (G : Nat → Nat → Int32) (g : Nat → Int32) (H : Heap) (locs : List Loc) (ls : Array Slot), 4 - i9 < fu → (i9 ≤ 4) → (G = swG F np nq c0 ts9 g) → (b = sO (F 4) g (nI nq) np) → (g = tk4 F np c0 ts9 (nI nq) i9) → va_P D vwCl (wG cI cZ cO ad n np nq G) H → va_D (inA ad 23) (wG cI cZ cO ad n np nq G) → va_S (inA ad 23) s.heap H locs → lv_has ls 8 [(0, .ref (ad 0)), (1, .int c0), (2, .int ts9), (3, .int b), (4, .int (nI i9))] → W p l e R s m args below meth c H locs 0 0 Q (F0 m 31 ls []) := by
    intro fu
    induction fu with
    | zero => intro _ _ _ _ _ _ _ h; exact absurd h (Nat.not_lt_zero _)
    | succ fu ih31 =>
      intro i9 b G g H locs ls hm31 h1 hG hb2 hgk hP hD hS hl
      refine lv_iload hx hb dX0_enterPair_31 (lv_at hl 4 rfl) ?_
      refine lv_iconst (v := nI 4) hx hb dX0_enterPair_33 (by decide) ?_
      refine nv_icmp_ge (tgt := 159) hx hb (by omega) (by omega) dX0_enterPair_34 (by decide) (fun c_4 => ?_) (fun c_4 => ?_)
      · refine lv_aload_n hx hb dX0_enterPair_159 rfl (lv_at hl 0 rfl) ?_
        refine va_get (D := D) (ci := 0) (v := .ref (ad 10)) (C := RX0) (T := TX0) (N := 16) hx hb hts hiw hown hK hP 0 g_at0 rfl 12 (by decide) (hts (.fieldLink RX0 39 "GloveCutters" "pairSkins" "[I") (by decide +kernel)) (fun _ h9 => h9) rfl dX0_enterPair_160 ?_
        refine lv_aload_n hx hb dX0_enterPair_163 rfl (lv_at hl 0 rfl) ?_
        refine va_get (D := D) (ci := 0) (v := .int (nI nq)) (C := RX0) (T := TX0) (N := 16) hx hb hts hiw hown hK hP 0 g_at0 rfl 9 (by decide) (hts (.fieldLink RX0 136 "GloveCutters" "sewn" "I") (by decide +kernel)) (fun _ h9 => h9) rfl dX0_enterPair_164 ?_
        refine lv_iload_n hx hb dX0_enterPair_167 rfl (lv_at hl 3 rfl) ?_
        refine va_calli (va_runS (As := [.int b]) (rest := [.int (nI nq), .ref (ad 10)]) ⟨hx, hb, hml, hown, hts⟩ (c_J6_bitCount_0f7a4 l D b ) (va_cwS 1 hts gX0_enterPair_J6_bitCount_0f7a4 rfl rfl rfl (by decide +kernel) ⟨Nat.le_trans (Nat.le_of_ble_eq_true rfl) hRf, Nat.le_trans (Nat.le_of_ble_eq_true rfl) hRl⟩) (pr_S (P_nil) hK [] rfl V0_at V0_c) rfl rfl hl.1 rfl (lv_room (Nat.le_of_ble_eq_true rfl)) dX0_enterPair_168 ⟨Nat.le_trans (Nat.le_of_ble_eq_true rfl) hRc, Nat.le_trans (Nat.le_of_ble_eq_true rfl) hRs⟩) hS (fun _ _ h => h.elim) (fun _ h => h.elim) (fun r_5 _ t H1 locs ht hvm hw_5 hB hz hk hS => ?_)
        have hP := P_kept hP hk
        obtain rfl := hw_5
        refine nv_iast hx hb hK hP hD hS 10 0 g_at10 rfl (by omega) (by omega) dX0_enterPair_171 (fun H locs hP hD hS => ?_)
        rw [g_set10] at hP hD
        obtain ⟨F_6, eF_6⟩ : ∃ z, z = va_up G 10 (upd (G 10) nq (bcI b)) := ⟨_, rfl⟩
        rw [← eF_6] at hP hD
        refine lv_aload_n hx hb dX0_enterPair_172 rfl (lv_at hl 0 rfl) ?_
        refine lv_dup hx hb dX0_enterPair_173 rfl ?_
        refine va_get (D := D) (ci := 0) (v := .int (nI nq)) (C := RX0) (T := TX0) (N := 16) hx hb hts hiw hown hK hP 0 g_at0 rfl 9 (by decide) (hts (.fieldLink RX0 136 "GloveCutters" "sewn" "I") (by decide +kernel)) (fun _ h9 => h9) rfl dX0_enterPair_174 ?_
        refine lv_iconst (v := nI 1) hx hb dX0_enterPair_177 (by decide) ?_
        refine nv_iadd hx hb dX0_enterPair_178 ?_
        refine va_put (D := D) (ci := 0) (v := .int (nI (nq + 1))) (ty := .int) (C := RX0) (T := TX0) (N := 16) hx hb hts hiw tyX0 tyX0_ok nmX0 hown hK hP hD hS 0 g_at0 rfl 9 (by decide) (hts (.fieldLink RX0 136 "GloveCutters" "sewn" "I") (by decide +kernel)) (fun _ h9 => h9) rfl (by decide +kernel) rfl rfl (Nat.le_of_ble_eq_true rfl) dX0_enterPair_179 (fun H locs hP hD hS => ?_)
        have hP : va_P D vwCl (wG cI cZ cO ad n np (nq + 1) F_6) H := hP
        have hD : va_D (inA ad 23) (wG cI cZ cO ad n np (nq + 1) F_6) := hD
        rw [← hQ]
        exact W.vret hx hb hr (fun t ht hW => ⟨⟨(), rfl, trivial, (by show va_P D vwCl (wG cI cZ cO ad n np (nq + 1) (swF F n np nq c0)) t.heap; rw [ht]; have e9 : F_6 = swF F n np nq c0 := (by unfold swF; rw [← ets9, eF_6, hG, hb2, hgk, show i9 = 4 by omega]; rfl); rw [← e9]; exact hP)⟩, hS.F ht⟩) hS.2.2 dX0_enterPair_182
      · obtain ⟨tb_KIND_IN_PAIR, hKIND_IN_PAIRZ, hKIND_IN_PAIRT⟩ := hV.2.2.2.1
        refine va_gets hx hb hKIND_IN_PAIRZ hS hown (hts (.fieldLink RX0 229 "GloveCutters" "KIND_IN_PAIR" "[I") (by decide +kernel)) (fun _ h9 => h9) dX0_enterPair_37 ?_
        refine lv_iload hx hb dX0_enterPair_40 (lv_at hl 4 rfl) ?_
        refine nv_tab hx hb hKIND_IN_PAIRT hS (by omega) dX0_enterPair_42 ?_
        refine lv_istore (lv' := [(5, .int (nI (kP i9))), (0, .ref (ad 0)), (1, .int c0), (2, .int ts9), (3, .int b), (4, .int (nI i9))]) hx hb dX0_enterPair_43 hl (by decide) rfl (fun ls hl => ?_)
        refine lv_iconst (v := nI 0) hx hb dX0_enterPair_45 (by decide) ?_
        refine lv_istore (lv' := [(6, .int (nI 0)), (5, .int (nI (kP i9))), (0, .ref (ad 0)), (1, .int c0), (2, .int ts9), (3, .int b), (4, .int (nI i9))]) hx hb dX0_enterPair_46 hl (by decide) rfl (fun ls hl => ?_)
        have L48 : ∀ (fu : Nat) (p9 : Nat) (l9 : Nat) (b : Int32) (G : Nat → Nat → Int32) (g : Nat → Int32) (H : Heap) (locs : List Loc) (ls : Array Slot), np - p9 < fu → (p9 ≤ np) → (l9 ≤ 6) → (G = swG F np nq c0 ts9 g) → (b = sO (F 4) g (nI nq) np) → ((g, l9) = tkG (okP F c0 ts9 i9) (nI nq) (tk4 F np c0 ts9 (nI nq) i9) (kP i9) p9) → va_P D vwCl (wG cI cZ cO ad n np nq G) H → va_D (inA ad 23) (wG cI cZ cO ad n np nq G) → va_S (inA ad 23) s.heap H locs → lv_has ls 8 [(0, .ref (ad 0)), (1, .int c0), (2, .int ts9), (3, .int b), (4, .int (nI i9)), (5, .int (nI l9)), (6, .int (nI p9))] → W p l e R s m args below meth c H locs 0 0 Q (F0 m 48 ls []) := by
          intro fu
          induction fu with
          | zero => intro _ _ _ _ _ _ _ _ h; exact absurd h (Nat.not_lt_zero _)
          | succ fu ih48 =>
            intro p9 l9 b G g H locs ls hm48 g1 g2 hG hb2 hgd hP hD hS hl
            refine lv_iload hx hb dX0_enterPair_48 (lv_at hl 6 rfl) ?_
            refine lv_aload_n hx hb dX0_enterPair_50 rfl (lv_at hl 0 rfl) ?_
            refine va_get (D := D) (ci := 0) (v := .int (nI np)) (C := RX0) (T := TX0) (N := 16) hx hb hts hiw hown hK hP 0 g_at0 rfl 4 (by decide) (hts (.fieldLink RX0 107 "GloveCutters" "pieces" "I") (by decide +kernel)) (fun _ h9 => h9) rfl dX0_enterPair_51 ?_
            refine nv_icmp_ge (tgt := 153) hx hb (by omega) (by omega) dX0_enterPair_54 (by decide) (fun c_7 => ?_) (fun c_7 => ?_)
            · refine lv_iinc (k := 4) (v := nI (i9 + 1)) (lv' := [(4, .int (nI (i9 + 1))), (0, .ref (ad 0)), (1, .int c0), (2, .int ts9), (3, .int b), (5, .int (nI l9)), (6, .int (nI p9))]) hx hb dX0_enterPair_153 hl rfl (nI_add i9 1) (by decide) rfl (fun ls hl => ?_)
              refine lv_goto (tgt := 31) hx hb dX0_enterPair_156 (by decide) ?_
              exact ih31 (i9 + 1) b G g _ _ _ (by omega) (by omega) (by omega) (by omega) (tk_end hgd (by omega) (Or.inl (by omega))) hP hD hS (lv_sub hl [1, 2, 3, 4, 0] rfl)
            · refine lv_iload hx hb dX0_enterPair_57 (lv_at hl 5 rfl) ?_
              refine nv_if_le (tgt := 153) hx hb (by omega) dX0_enterPair_59 (by decide) (fun c_8 => ?_) (fun c_8 => ?_)
              · refine lv_iinc (k := 4) (v := nI (i9 + 1)) (lv' := [(4, .int (nI (i9 + 1))), (0, .ref (ad 0)), (1, .int c0), (2, .int ts9), (3, .int b), (5, .int (nI l9)), (6, .int (nI p9))]) hx hb dX0_enterPair_153 hl rfl (nI_add i9 1) (by decide) rfl (fun ls hl => ?_)
                refine lv_goto (tgt := 31) hx hb dX0_enterPair_156 (by decide) ?_
                exact ih31 (i9 + 1) b G g _ _ _ (by omega) (by omega) (by omega) (by omega) (tk_end hgd (by omega) (Or.inr c_8)) hP hD hS (lv_sub hl [1, 2, 3, 4, 0] rfl)
              · refine lv_iload hx hb dX0_enterPair_62 (lv_at hl 4 rfl) ?_
                refine nv_if_ne (tgt := 78) hx hb (by omega) dX0_enterPair_64 (by decide) (fun c_9 => ?_) (fun c_9 => ?_)
                · refine lv_iconst (v := nI 1) hx hb dX0_enterPair_78 (by decide) ?_
                  refine lv_goto (tgt := 83) hx hb dX0_enterPair_79 (by decide) ?_
                  refine lv_istore (lv' := [(7, .int (nI 1)), (0, .ref (ad 0)), (1, .int c0), (2, .int ts9), (3, .int b), (4, .int (nI i9)), (5, .int (nI l9)), (6, .int (nI p9))]) hx hb dX0_enterPair_83 hl (by decide) rfl (fun ls hl => ?_)
                  refine lv_iload hx hb dX0_enterPair_85 (lv_at hl 0 rfl) ?_
                  refine nv_if_eq (tgt := 147) hx hb (by omega) dX0_enterPair_87 (by decide) (fun h9 => absurd h9 (by decide)) (fun _ => ?_)
                  refine lv_aload_n hx hb dX0_enterPair_90 rfl (lv_at hl 1 rfl) ?_
                  refine lv_iload hx hb dX0_enterPair_91 (lv_at hl 7 rfl) ?_
                  refine lv_iload_n hx hb dX0_enterPair_93 rfl (lv_at hl 2 rfl) ?_
                  refine lv_iload hx hb dX0_enterPair_94 (lv_at hl 5 rfl) ?_
                  refine va_calli (va_runV (As := [.int (nI p9), .int c0, .int (nI i9)]) (rest := []) ⟨hx, hb, hml, hown, hts⟩ (c_X0_isFreeOfColour l D cI cZ cO ad n np nq G p9 c0 (nI i9) hn hnp (fun p hp => by rw [hG]; exact hsk p hp) (by omega)) (cwV 3 hts gX0_enterPair_X0_isFreeOfColour rfl rfl rfl (by decide +kernel) ⟨Nat.le_trans (Nat.le_of_ble_eq_true rfl) hRf, Nat.le_trans (Nat.le_of_ble_eq_true rfl) hRl⟩) (pr_V hP (ci := 0) (q0 := 0) rfl g_at0 rfl hP hK [0, 1, 2] rfl V0_at V0_c) rfl rfl hl.1 rfl (lv_room (Nat.le_of_ble_eq_true rfl)) dX0_enterPair_96 ⟨Nat.le_trans (Nat.le_of_ble_eq_true rfl) hRc, Nat.le_trans (Nat.le_of_ble_eq_true rfl) hRs⟩) hS (fun _ _ h => h.elim) (fun _ h => h.elim) (fun r_11 _ t H1 locs ht hvm hw_11 hB hz hk hS => ?_)
                  have hP := P_kept hP hk
                  obtain rfl := hw_11
                  have eis : isF G c0 (nI i9) p9 = isFg F g c0 (nI i9) p9 := by (unfold isF isFg; rw [hG]; rfl)
                  refine nb_if_eq (tgt := 147) hx hb dX0_enterPair_99 (by decide) (fun c_12 => ?_) (fun c_12 => ?_)
                  · refine lv_iinc (k := 7) (v := nI (p9 + 1)) (lv' := [(6, .int (nI (p9 + 1))), (7, .int (nI 1)), (0, .ref (ad 0)), (1, .int c0), (2, .int ts9), (3, .int b), (4, .int (nI i9)), (5, .int (nI l9))]) hx hb dX0_enterPair_147 hl rfl (nI_add p9 1) (by decide) rfl (fun ls hl => ?_)
                    refine lv_goto (tgt := 48) hx hb dX0_enterPair_150 (by decide) ?_
                    exact ih48 (p9 + 1) l9 b G g _ _ _ (by omega) (by omega) (by omega) hG hb2 (tk_n hgd (by unfold okP; rw [← eis, c_12]; rfl)) hP hD hS (lv_sub hl [2, 3, 4, 5, 6, 7, 0] rfl)
                  · refine lv_aload_n hx hb dX0_enterPair_102 rfl (lv_at hl 1 rfl) ?_
                    refine va_get (D := D) (ci := 0) (v := .ref (ad 6)) (C := RX0) (T := TX0) (N := 16) hx hb hts hiw hown hK hP 0 g_at0 rfl 7 (by decide) (hts (.fieldLink RX0 27 "GloveCutters" "pieceWhere" "[I") (by decide +kernel)) (fun _ h9 => h9) rfl dX0_enterPair_103 ?_
                    refine lv_iload hx hb dX0_enterPair_106 (lv_at hl 7 rfl) ?_
                    refine lv_aload_n hx hb dX0_enterPair_108 rfl (lv_at hl 1 rfl) ?_
                    refine va_get (D := D) (ci := 0) (v := .int (nI nq)) (C := RX0) (T := TX0) (N := 16) hx hb hts hiw hown hK hP 0 g_at0 rfl 9 (by decide) (hts (.fieldLink RX0 136 "GloveCutters" "sewn" "I") (by decide +kernel)) (fun _ h9 => h9) rfl dX0_enterPair_109 ?_
                    refine nv_iast hx hb hK hP hD hS 6 0 g_at6 rfl (by omega) (by omega) dX0_enterPair_112 (fun H locs hP hD hS => ?_)
                    rw [g_set6] at hP hD
                    obtain ⟨F_13, eF_13⟩ : ∃ z, z = va_up G 6 (upd (G 6) p9 (nI nq)) := ⟨_, rfl⟩
                    rw [← eF_13] at hP hD
                    refine lv_aload_n hx hb dX0_enterPair_113 rfl (lv_at hl 1 rfl) ?_
                    refine va_get (D := D) (ci := 0) (v := .ref (ad 11)) (C := RX0) (T := TX0) (N := 16) hx hb hts hiw hown hK hP 0 g_at0 rfl 13 (by decide) (hts (.fieldLink RX0 42 "GloveCutters" "pairThin" "[I") (by decide +kernel)) (fun _ h9 => h9) rfl dX0_enterPair_114 ?_
                    refine lv_aload_n hx hb dX0_enterPair_117 rfl (lv_at hl 1 rfl) ?_
                    refine va_get (D := D) (ci := 0) (v := .int (nI nq)) (C := RX0) (T := TX0) (N := 16) hx hb hts hiw hown hK hP 0 g_at0 rfl 9 (by decide) (hts (.fieldLink RX0 136 "GloveCutters" "sewn" "I") (by decide +kernel)) (fun _ h9 => h9) rfl dX0_enterPair_118 ?_
                    refine lv_dup2_11 hx hb dX0_enterPair_121 rfl rfl ?_
                    refine nv_iald hx hb hK hP 11 0 g_at11 rfl (by omega) (by omega) dX0_enterPair_122 ?_
                    refine lv_aload_n hx hb dX0_enterPair_123 rfl (lv_at hl 1 rfl) ?_
                    refine va_get (D := D) (ci := 0) (v := .ref (ad 7)) (C := RX0) (T := TX0) (N := 16) hx hb hts hiw hown hK hP 0 g_at0 rfl 8 (by decide) (hts (.fieldLink RX0 30 "GloveCutters" "pieceThin" "[I") (by decide +kernel)) (fun _ h9 => h9) rfl dX0_enterPair_124 ?_
                    refine lv_iload hx hb dX0_enterPair_127 (lv_at hl 7 rfl) ?_
                    refine nv_iald hx hb hK hP 7 0 g_at7 rfl (by omega) (by omega) dX0_enterPair_129 ?_
                    refine lv_iadd hx hb dX0_enterPair_130 ?_
                    refine nv_iast hx hb hK hP hD hS 11 0 g_at11 rfl (by omega) (by omega) dX0_enterPair_131 (fun H locs hP hD hS => ?_)
                    rw [g_set11] at hP hD
                    obtain ⟨F_14, eF_14⟩ : ∃ z, z = va_up F_13 11 (upd (F_13 11) nq ((F_13 11 nq) + (F_13 7 p9))) := ⟨_, rfl⟩
                    rw [← eF_14] at hP hD
                    refine lv_iload_n hx hb dX0_enterPair_132 rfl (lv_at hl 4 rfl) ?_
                    refine lv_iconst (v := nI 1) hx hb dX0_enterPair_133 (by decide) ?_
                    refine lv_aload_n hx hb dX0_enterPair_134 rfl (lv_at hl 1 rfl) ?_
                    refine va_get (D := D) (ci := 0) (v := .ref (ad 4)) (C := RX0) (T := TX0) (N := 16) hx hb hts hiw hown hK hP 0 g_at0 rfl 5 (by decide) (hts (.fieldLink RX0 21 "GloveCutters" "pieceSkin" "[I") (by decide +kernel)) (fun _ h9 => h9) rfl dX0_enterPair_135 ?_
                    refine lv_iload hx hb dX0_enterPair_138 (lv_at hl 7 rfl) ?_
                    refine nv_iald hx hb hK hP 4 0 g_at4 rfl (by omega) (by omega) dX0_enterPair_140 ?_
                    refine lv_ishl hx hb dX0_enterPair_141 ?_
                    refine lv_ior hx hb dX0_enterPair_142 ?_
                    refine lv_istore_n (lv' := [(3, .int (b ||| ((nI 1) <<< ((F_14 4 p9) &&& 31)))), (7, .int (nI 1)), (0, .ref (ad 0)), (1, .int c0), (2, .int ts9), (4, .int (nI i9)), (5, .int (nI l9)), (6, .int (nI p9))]) hx hb dX0_enterPair_143 rfl hl (by decide) rfl (fun ls hl => ?_)
                    have hgp : g p9 = -1 := by (have q9 := c_12; rw [eis] at q9; unfold isFg at q9; simp only [Bool.and_eq_true, beq_iff_eq] at q9; exact q9.1)
                    have eG9 : F_14 = swG F np nq c0 ts9 (upd g p9 (nI nq)) := by (rw [eF_14, eF_13, hG]; exact swG_t (by omega) hgp (by omega))
                    have eb9 : b ||| ((nI 1) <<< ((F_14 4 p9) &&& 31)) = sO (F 4) (upd g p9 (nI nq)) (nI nq) np := by (rw [sO_upd (by rw [hgp]; exact fun z => absurd (show (0 : Int32) ≤ -1 by rw [z]; exact nI_pos' (by omega)) (by decide)) np (by omega), ← hb2]; rw [eF_14, eF_13, hG]; rfl)
                    refine lv_iinc (k := 6) (v := nI (l9 - 1)) (lv' := [(5, .int (nI (l9 - 1))), (3, .int (b ||| ((nI 1) <<< ((F_14 4 p9) &&& 31)))), (7, .int (nI 1)), (0, .ref (ad 0)), (1, .int c0), (2, .int ts9), (4, .int (nI i9)), (6, .int (nI p9))]) hx hb dX0_enterPair_144 hl rfl (sb_m1 (by omega)) (by decide) rfl (fun ls hl => ?_)
                    refine lv_iinc (k := 7) (v := nI (p9 + 1)) (lv' := [(6, .int (nI (p9 + 1))), (5, .int (nI (l9 - 1))), (3, .int (b ||| ((nI 1) <<< ((F_14 4 p9) &&& 31)))), (7, .int (nI 1)), (0, .ref (ad 0)), (1, .int c0), (2, .int ts9), (4, .int (nI i9))]) hx hb dX0_enterPair_147 hl rfl (nI_add p9 1) (by decide) rfl (fun ls hl => ?_)
                    refine lv_goto (tgt := 48) hx hb dX0_enterPair_150 (by decide) ?_
                    exact ih48 (p9 + 1) (l9 - 1) (b ||| ((nI 1) <<< ((F_14 4 p9) &&& 31))) F_14 (upd g p9 (nI nq)) _ _ _ (by omega) (by omega) (by omega) (eG9) (eb9) (tk_y hgd c_8 (show okP F c0 ts9 i9 g p9 = true from by unfold okP; rw [← eis, c_12, Bool.true_and]; rw [decide_eq_true c_9]; rfl)) hP hD hS (lv_sub hl [4, 5, 6, 2, 7, 1, 0] rfl)
                · refine lv_aload_n hx hb dX0_enterPair_67 rfl (lv_at hl 0 rfl) ?_
                  refine va_get (D := D) (ci := 0) (v := .ref (ad 4)) (C := RX0) (T := TX0) (N := 16) hx hb hts hiw hown hK hP 0 g_at0 rfl 5 (by decide) (hts (.fieldLink RX0 21 "GloveCutters" "pieceSkin" "[I") (by decide +kernel)) (fun _ h9 => h9) rfl dX0_enterPair_68 ?_
                  refine lv_iload hx hb dX0_enterPair_71 (lv_at hl 6 rfl) ?_
                  refine nv_iald hx hb hK hP 4 0 g_at4 rfl (by omega) (by omega) dX0_enterPair_73 ?_
                  refine lv_iload_n hx hb dX0_enterPair_74 rfl (lv_at hl 2 rfl) ?_
                  refine lv_icmp_ne (tgt := 82) hx hb dX0_enterPair_75 (by decide) (fun c_15 => ?_) (fun c_15 => ?_)
                  · refine lv_iconst (v := nI 0) hx hb dX0_enterPair_82 (by decide) ?_
                    refine lv_istore (lv' := [(7, .int (nI 0)), (0, .ref (ad 0)), (1, .int c0), (2, .int ts9), (3, .int b), (4, .int (nI i9)), (5, .int (nI l9)), (6, .int (nI p9))]) hx hb dX0_enterPair_83 hl (by decide) rfl (fun ls hl => ?_)
                    refine lv_iload hx hb dX0_enterPair_85 (lv_at hl 0 rfl) ?_
                    refine nv_if_eq (tgt := 147) hx hb (by omega) dX0_enterPair_87 (by decide) (fun _ => ?_) (fun h9 => absurd h9 (by decide))
                    refine lv_iinc (k := 7) (v := nI (p9 + 1)) (lv' := [(6, .int (nI (p9 + 1))), (7, .int (nI 0)), (0, .ref (ad 0)), (1, .int c0), (2, .int ts9), (3, .int b), (4, .int (nI i9)), (5, .int (nI l9))]) hx hb dX0_enterPair_147 hl rfl (nI_add p9 1) (by decide) rfl (fun ls hl => ?_)
                    refine lv_goto (tgt := 48) hx hb dX0_enterPair_150 (by decide) ?_
                    exact ih48 (p9 + 1) l9 b G g _ _ _ (by omega) (by omega) (by omega) hG hb2 (tk_n hgd (by unfold okP; rw [show (F 4 p9 == ts9) = false from beq_f ((show G 4 p9 = F 4 p9 by rw [hG]; rfl) ▸ c_15), decide_eq_false (show ¬ 0 < i9 by omega)]; exact Bool.and_false _)) hP hD hS (lv_sub hl [2, 3, 4, 5, 6, 7, 0] rfl)
                  · refine lv_iconst (v := nI 1) hx hb dX0_enterPair_78 (by decide) ?_
                    refine lv_goto (tgt := 83) hx hb dX0_enterPair_79 (by decide) ?_
                    refine lv_istore (lv' := [(7, .int (nI 1)), (0, .ref (ad 0)), (1, .int c0), (2, .int ts9), (3, .int b), (4, .int (nI i9)), (5, .int (nI l9)), (6, .int (nI p9))]) hx hb dX0_enterPair_83 hl (by decide) rfl (fun ls hl => ?_)
                    refine lv_iload hx hb dX0_enterPair_85 (lv_at hl 0 rfl) ?_
                    refine nv_if_eq (tgt := 147) hx hb (by omega) dX0_enterPair_87 (by decide) (fun h9 => absurd h9 (by decide)) (fun _ => ?_)
                    refine lv_aload_n hx hb dX0_enterPair_90 rfl (lv_at hl 1 rfl) ?_
                    refine lv_iload hx hb dX0_enterPair_91 (lv_at hl 7 rfl) ?_
                    refine lv_iload_n hx hb dX0_enterPair_93 rfl (lv_at hl 2 rfl) ?_
                    refine lv_iload hx hb dX0_enterPair_94 (lv_at hl 5 rfl) ?_
                    refine va_calli (va_runV (As := [.int (nI p9), .int c0, .int (nI i9)]) (rest := []) ⟨hx, hb, hml, hown, hts⟩ (c_X0_isFreeOfColour l D cI cZ cO ad n np nq G p9 c0 (nI i9) hn hnp (fun p hp => by rw [hG]; exact hsk p hp) (by omega)) (cwV 3 hts gX0_enterPair_X0_isFreeOfColour rfl rfl rfl (by decide +kernel) ⟨Nat.le_trans (Nat.le_of_ble_eq_true rfl) hRf, Nat.le_trans (Nat.le_of_ble_eq_true rfl) hRl⟩) (pr_V hP (ci := 0) (q0 := 0) rfl g_at0 rfl hP hK [0, 1, 2] rfl V0_at V0_c) rfl rfl hl.1 rfl (lv_room (Nat.le_of_ble_eq_true rfl)) dX0_enterPair_96 ⟨Nat.le_trans (Nat.le_of_ble_eq_true rfl) hRc, Nat.le_trans (Nat.le_of_ble_eq_true rfl) hRs⟩) hS (fun _ _ h => h.elim) (fun _ h => h.elim) (fun r_18 _ t H1 locs ht hvm hw_18 hB hz hk hS => ?_)
                    have hP := P_kept hP hk
                    obtain rfl := hw_18
                    have eis : isF G c0 (nI i9) p9 = isFg F g c0 (nI i9) p9 := by (unfold isF isFg; rw [hG]; rfl)
                    refine nb_if_eq (tgt := 147) hx hb dX0_enterPair_99 (by decide) (fun c_19 => ?_) (fun c_19 => ?_)
                    · refine lv_iinc (k := 7) (v := nI (p9 + 1)) (lv' := [(6, .int (nI (p9 + 1))), (7, .int (nI 1)), (0, .ref (ad 0)), (1, .int c0), (2, .int ts9), (3, .int b), (4, .int (nI i9)), (5, .int (nI l9))]) hx hb dX0_enterPair_147 hl rfl (nI_add p9 1) (by decide) rfl (fun ls hl => ?_)
                      refine lv_goto (tgt := 48) hx hb dX0_enterPair_150 (by decide) ?_
                      exact ih48 (p9 + 1) l9 b G g _ _ _ (by omega) (by omega) (by omega) hG hb2 (tk_n hgd (by unfold okP; rw [← eis, c_19]; rfl)) hP hD hS (lv_sub hl [2, 3, 4, 5, 6, 7, 0] rfl)
                    · refine lv_aload_n hx hb dX0_enterPair_102 rfl (lv_at hl 1 rfl) ?_
                      refine va_get (D := D) (ci := 0) (v := .ref (ad 6)) (C := RX0) (T := TX0) (N := 16) hx hb hts hiw hown hK hP 0 g_at0 rfl 7 (by decide) (hts (.fieldLink RX0 27 "GloveCutters" "pieceWhere" "[I") (by decide +kernel)) (fun _ h9 => h9) rfl dX0_enterPair_103 ?_
                      refine lv_iload hx hb dX0_enterPair_106 (lv_at hl 7 rfl) ?_
                      refine lv_aload_n hx hb dX0_enterPair_108 rfl (lv_at hl 1 rfl) ?_
                      refine va_get (D := D) (ci := 0) (v := .int (nI nq)) (C := RX0) (T := TX0) (N := 16) hx hb hts hiw hown hK hP 0 g_at0 rfl 9 (by decide) (hts (.fieldLink RX0 136 "GloveCutters" "sewn" "I") (by decide +kernel)) (fun _ h9 => h9) rfl dX0_enterPair_109 ?_
                      refine nv_iast hx hb hK hP hD hS 6 0 g_at6 rfl (by omega) (by omega) dX0_enterPair_112 (fun H locs hP hD hS => ?_)
                      rw [g_set6] at hP hD
                      obtain ⟨F_20, eF_20⟩ : ∃ z, z = va_up G 6 (upd (G 6) p9 (nI nq)) := ⟨_, rfl⟩
                      rw [← eF_20] at hP hD
                      refine lv_aload_n hx hb dX0_enterPair_113 rfl (lv_at hl 1 rfl) ?_
                      refine va_get (D := D) (ci := 0) (v := .ref (ad 11)) (C := RX0) (T := TX0) (N := 16) hx hb hts hiw hown hK hP 0 g_at0 rfl 13 (by decide) (hts (.fieldLink RX0 42 "GloveCutters" "pairThin" "[I") (by decide +kernel)) (fun _ h9 => h9) rfl dX0_enterPair_114 ?_
                      refine lv_aload_n hx hb dX0_enterPair_117 rfl (lv_at hl 1 rfl) ?_
                      refine va_get (D := D) (ci := 0) (v := .int (nI nq)) (C := RX0) (T := TX0) (N := 16) hx hb hts hiw hown hK hP 0 g_at0 rfl 9 (by decide) (hts (.fieldLink RX0 136 "GloveCutters" "sewn" "I") (by decide +kernel)) (fun _ h9 => h9) rfl dX0_enterPair_118 ?_
                      refine lv_dup2_11 hx hb dX0_enterPair_121 rfl rfl ?_
                      refine nv_iald hx hb hK hP 11 0 g_at11 rfl (by omega) (by omega) dX0_enterPair_122 ?_
                      refine lv_aload_n hx hb dX0_enterPair_123 rfl (lv_at hl 1 rfl) ?_
                      refine va_get (D := D) (ci := 0) (v := .ref (ad 7)) (C := RX0) (T := TX0) (N := 16) hx hb hts hiw hown hK hP 0 g_at0 rfl 8 (by decide) (hts (.fieldLink RX0 30 "GloveCutters" "pieceThin" "[I") (by decide +kernel)) (fun _ h9 => h9) rfl dX0_enterPair_124 ?_
                      refine lv_iload hx hb dX0_enterPair_127 (lv_at hl 7 rfl) ?_
                      refine nv_iald hx hb hK hP 7 0 g_at7 rfl (by omega) (by omega) dX0_enterPair_129 ?_
                      refine lv_iadd hx hb dX0_enterPair_130 ?_
                      refine nv_iast hx hb hK hP hD hS 11 0 g_at11 rfl (by omega) (by omega) dX0_enterPair_131 (fun H locs hP hD hS => ?_)
                      rw [g_set11] at hP hD
                      obtain ⟨F_21, eF_21⟩ : ∃ z, z = va_up F_20 11 (upd (F_20 11) nq ((F_20 11 nq) + (F_20 7 p9))) := ⟨_, rfl⟩
                      rw [← eF_21] at hP hD
                      refine lv_iload_n hx hb dX0_enterPair_132 rfl (lv_at hl 4 rfl) ?_
                      refine lv_iconst (v := nI 1) hx hb dX0_enterPair_133 (by decide) ?_
                      refine lv_aload_n hx hb dX0_enterPair_134 rfl (lv_at hl 1 rfl) ?_
                      refine va_get (D := D) (ci := 0) (v := .ref (ad 4)) (C := RX0) (T := TX0) (N := 16) hx hb hts hiw hown hK hP 0 g_at0 rfl 5 (by decide) (hts (.fieldLink RX0 21 "GloveCutters" "pieceSkin" "[I") (by decide +kernel)) (fun _ h9 => h9) rfl dX0_enterPair_135 ?_
                      refine lv_iload hx hb dX0_enterPair_138 (lv_at hl 7 rfl) ?_
                      refine nv_iald hx hb hK hP 4 0 g_at4 rfl (by omega) (by omega) dX0_enterPair_140 ?_
                      refine lv_ishl hx hb dX0_enterPair_141 ?_
                      refine lv_ior hx hb dX0_enterPair_142 ?_
                      refine lv_istore_n (lv' := [(3, .int (b ||| ((nI 1) <<< ((F_21 4 p9) &&& 31)))), (7, .int (nI 1)), (0, .ref (ad 0)), (1, .int c0), (2, .int ts9), (4, .int (nI i9)), (5, .int (nI l9)), (6, .int (nI p9))]) hx hb dX0_enterPair_143 rfl hl (by decide) rfl (fun ls hl => ?_)
                      have hgp : g p9 = -1 := by (have q9 := c_19; rw [eis] at q9; unfold isFg at q9; simp only [Bool.and_eq_true, beq_iff_eq] at q9; exact q9.1)
                      have eG9 : F_21 = swG F np nq c0 ts9 (upd g p9 (nI nq)) := by (rw [eF_21, eF_20, hG]; exact swG_t (by omega) hgp (by omega))
                      have eb9 : b ||| ((nI 1) <<< ((F_21 4 p9) &&& 31)) = sO (F 4) (upd g p9 (nI nq)) (nI nq) np := by (rw [sO_upd (by rw [hgp]; exact fun z => absurd (show (0 : Int32) ≤ -1 by rw [z]; exact nI_pos' (by omega)) (by decide)) np (by omega), ← hb2]; rw [eF_21, eF_20, hG]; rfl)
                      refine lv_iinc (k := 6) (v := nI (l9 - 1)) (lv' := [(5, .int (nI (l9 - 1))), (3, .int (b ||| ((nI 1) <<< ((F_21 4 p9) &&& 31)))), (7, .int (nI 1)), (0, .ref (ad 0)), (1, .int c0), (2, .int ts9), (4, .int (nI i9)), (6, .int (nI p9))]) hx hb dX0_enterPair_144 hl rfl (sb_m1 (by omega)) (by decide) rfl (fun ls hl => ?_)
                      refine lv_iinc (k := 7) (v := nI (p9 + 1)) (lv' := [(6, .int (nI (p9 + 1))), (5, .int (nI (l9 - 1))), (3, .int (b ||| ((nI 1) <<< ((F_21 4 p9) &&& 31)))), (7, .int (nI 1)), (0, .ref (ad 0)), (1, .int c0), (2, .int ts9), (4, .int (nI i9))]) hx hb dX0_enterPair_147 hl rfl (nI_add p9 1) (by decide) rfl (fun ls hl => ?_)
                      refine lv_goto (tgt := 48) hx hb dX0_enterPair_150 (by decide) ?_
                      exact ih48 (p9 + 1) (l9 - 1) (b ||| ((nI 1) <<< ((F_21 4 p9) &&& 31))) F_21 (upd g p9 (nI nq)) _ _ _ (by omega) (by omega) (by omega) (eG9) (eb9) (tk_y hgd c_8 (show okP F c0 ts9 i9 g p9 = true from by unfold okP; rw [← eis, c_19, Bool.true_and]; rw [show (F 4 p9 == ts9) = true from beq_t ((show G 4 p9 = F 4 p9 by rw [hG]; rfl) ▸ c_15), Bool.or_true])) hP hD hS (lv_sub hl [4, 5, 6, 2, 7, 1, 0] rfl)
        exact L48 _ 0 (kP i9) b G g _ _ _ (Nat.lt_succ_self _) (by omega) (kP_le i9).1 (by omega) hb2 (by rw [tkG, hgk]) hP hD hS (lv_sub hl [2, 3, 4, 5, 6, 1, 0] rfl)
  exact L31 _ 0 (nI 0) F_3 (F 6) _ _ _ (Nat.lt_succ_self _) (by omega) (eF_b.trans (swG_0 hfr h11).symm) (sO_0 hfr).symm rfl hP hD hS (lv_sub hl [3, 4, 2, 1, 0] rfl)
set_option maxHeartbeats 4000000 in
set_option maxRecDepth 100000 in
/-- sew -/
theorem c_X0_sew (l : Launch) (hst : l.stackTraces = false) (D : va_G) (cI cZ cO : ClassId) (ad : Nat → Nat) (n np nq : Nat) (F : Nat → Nat → Int32) (c0 : Int32) (hinj : inj ad 23) (hn : n ≤ 10) (hnp : np ≤ 150) (hnq : nq ≤ 20) (hsk : ∀ p, p < np → ∃ k, k < n ∧ F 4 p = nI k) (hfr : ∀ p, p < np → ¬ F 6 p = nI nq) (h11b : ∀ q, nq ≤ q → q < 20 → F 11 q = 0) : vx_Met l yX0_sew wsX0_sew ({ frames := 7, cells := 3, slots := 18, locals := 102 } : Room) (va_Pc [.ref (ad 0), .int c0] (Pr D (gT cI cZ cO) (wG cI cZ cO ad n np nq F) (EnvG (inA ad 23)))) (va_Qi (S := Unit) (fun (r : Int32) (_ : Unit) => spSew n np nq F c0 = (0, r)) (fun (_ : Unit) (t : State) => va_P D vwCl (wG cI cZ cO ad n np (nq + 1) (swF F n np nq c0)) t.heap) (inA ad 23)) (vx_X (S := Unit) (fun _ => True) (fun E (_ : Unit) (_ : State) => (E = nA ∧ spSew n np nq F c0 = (1, 0)) ∨ (E = nS ∧ spSew n np nq F c0 = (2, 0))) (fun _ => False)) 3 18 (inA ad 23) := by
  refine vx_ofW (cc := cX0_sew) (maxL := 3) (ret := (some .int)) (by decide) rfl ?_
  intro p e s m args below meth c s₁ B hml htab hv
  obtain ⟨hargs, hP, hK, hV⟩ := hv
  have hx := B.exec
  have hb := B.bytes
  have hr := B.returns
  have hts := atoms_spec (ws := wsX0_sew) B.pre
  have hown : s.vm.findClass RX0 = some m.cls := findClass_of_methodNamed B.named
  have hlocks := B.notSynchronized
  have hS : va_S (fun _ => False) s.heap s.heap [] := va_S.rf
  have hV0 : EnvG (fun _ => False) s := EnvG.nar hV sub_no
  have hiw : ∀ w ∈ wsX00, w ∈ wsX0_sew := (fun _ h => List.mem_cons_of_mem _ (List.mem_append_left _ (List.mem_append_left _ (List.mem_append_right _ h))))
  have hRf : 7 ≤ (headSpec wsX0_sew ({ frames := 7, cells := 3, slots := 18, locals := 102 } : Room)).room.frames := Nat.le_refl _
  have hRl : 102 ≤ (headSpec wsX0_sew ({ frames := 7, cells := 3, slots := 18, locals := 102 } : Room)).room.locals := Nat.le_refl _
  have hRc : 3 ≤ (headSpec wsX0_sew ({ frames := 7, cells := 3, slots := 18, locals := 102 } : Room)).room.cells := Nat.le_refl _
  have hRs : 18 ≤ (headSpec wsX0_sew ({ frames := 7, cells := 3, slots := 18, locals := 102 } : Room)).room.slots := Nat.le_refl _
  generalize (headSpec wsX0_sew ({ frames := 7, cells := 3, slots := 18, locals := 102 } : Room)).room = R at hRf hRl hRc hRs ⊢
  have hl := lv_entry [.ref (ad 0), .int c0] (n := 3) (Nat.le_of_ble_eq_true rfl)
  refine W.eq (show entryFrame m args 3 = _ from by rw [hargs, lg_entry_eq]) ?_
  generalize (lg_sl [.ref (ad 0), .int c0] ++ List.replicate (3 - (lg_sl [.ref (ad 0), .int c0]).length) Slot.unset).toArray = ls at hl ⊢
  have hl : lv_has ls 3 [(0, .ref (ad 0)), (1, .int c0)] := hl
  have hD : va_D (inA ad 23) (wG cI cZ cO ad n np nq F) := g_D hinj
  generalize hQ : vx_MQ _ _ _ _ _ _ _ _ = Q
  refine lv_iload_n hx hb dX0_sew_0 rfl (lv_at hl 1 rfl) ?_
  refine vx_callv (vx_runS (As := [.int c0]) (rest := []) ⟨hx, hb, hml, hown, hts⟩ (c_X0_needColour l hst D c0 ) (va_cwS 1 hts gX0_sew_X0_needColour rfl rfl rfl (by decide +kernel) ⟨Nat.le_trans (Nat.le_of_ble_eq_true rfl) hRf, Nat.le_trans (Nat.le_of_ble_eq_true rfl) hRl⟩) (pr_S (P_nil) hK [] rfl (hV0.at hS sub_id sub_id) EnvG_c) rfl rfl hl.1 rfl (lv_room (Nat.le_of_ble_eq_true rfl)) dX0_sew_1 ⟨Nat.le_trans (Nat.le_of_ble_eq_true rfl) hRc, Nat.le_trans (Nat.le_of_ble_eq_true rfl) hRs⟩) hS (fun _ _ h => h.elim) (fun _ h => h.elim) (fun _ _ h => h.elim) (fun E ce q9 _ t H1 locs ht hvm hpx hbx _ hk hS hce hcv hcl => ?_) (fun _ t H1 locs ht hvm hw_1 hB hz hk hS => ?_)
  · rw [← hQ]
    exact vx_out (fun x hx9 => (htab x hx9).elim) hlocks hce hcv hcl (fun t ht hal => ⟨(), trivial, Or.inl ⟨hbx.1, by unfold spSew; rw [hbx.2]; rfl⟩, hS.F ht⟩) (fun z hz => (hS.2.2 z hz).elim) (by omega) (by omega)
  have hP := P_kept hP hk
  have hc9 := hw_1
  refine lv_iconst (v := nI 0) hx hb dX0_sew_4 (by decide) ?_
  refine lv_istore_n (lv' := [(2, .int (nI 0)), (0, .ref (ad 0)), (1, .int c0)]) hx hb dX0_sew_5 rfl hl (by decide) rfl (fun ls hl => ?_)
  have L6 : ∀ (fu : Nat) (i9 : Nat) (H : Heap) (locs : List Loc) (ls : Array Slot), 4 - i9 < fu → (i9 ≤ 4) → (∀ k, k < i9 → lkN F n np c0 k = 0) → va_P D vwCl (wG cI cZ cO ad n np nq F) H → va_D (inA ad 23) (wG cI cZ cO ad n np nq F) → va_S (fun _ => False) s.heap H locs → lv_has ls 3 [(0, .ref (ad 0)), (1, .int c0), (2, .int (nI i9))] → W p l e R s m args below meth c H locs 1 6 Q (F0 m 6 ls []) := by
    intro fu
    induction fu with
    | zero => intro _ _ _ _ h; exact absurd h (Nat.not_lt_zero _)
    | succ fu ih6 =>
      intro i9 H locs ls hm6 h1 hl9 hP hD hS hl
      refine lv_iload_n hx hb dX0_sew_6 rfl (lv_at hl 2 rfl) ?_
      refine lv_iconst (v := nI 4) hx hb dX0_sew_7 (by decide) ?_
      refine nv_icmp_ge (tgt := 36) hx hb (by omega) (by omega) dX0_sew_8 (by decide) (fun c_2 => ?_) (fun c_2 => ?_)
      · refine lv_aload_n hx hb dX0_sew_36 rfl (lv_at hl 0 rfl) ?_
        refine va_get (D := D) (ci := 0) (v := .int (nI nq)) (C := RX0) (T := TX0) (N := 16) hx hb hts hiw hown hK hP 0 g_at0 rfl 9 (by decide) (hts (.fieldLink RX0 136 "GloveCutters" "sewn" "I") (by decide +kernel)) (fun _ h9 => h9) rfl dX0_sew_37 ?_
        refine lv_bipush (v := nI 20) hx hb dX0_sew_40 (by decide) ?_
        refine nv_icmp_lt (tgt := 55) hx hb (by omega) (by omega) dX0_sew_42 (by decide) (fun c_3 => ?_) (fun c_3 => ?_)
        · refine lv_aload_n hx hb dX0_sew_55 rfl (lv_at hl 0 rfl) ?_
          refine lv_iload_n hx hb dX0_sew_56 rfl (lv_at hl 1 rfl) ?_
          have hS : va_S (inA ad 23) s.heap _ _ := S_mono hS
          refine va_callv (va_runV (As := [.int c0]) (rest := []) ⟨hx, hb, hml, hown, hts⟩ (c_X0_enterPair l D cI cZ cO ad n np nq F c0 hinj hn hnp hsk (by omega) hfr (h11b nq (Nat.le_refl _) (by omega))) (cwV 1 hts gX0_sew_X0_enterPair rfl rfl rfl (by decide +kernel) ⟨Nat.le_trans (Nat.le_of_ble_eq_true rfl) hRf, Nat.le_trans (Nat.le_of_ble_eq_true rfl) hRl⟩) (pr_V hP (ci := 0) (q0 := 0) rfl g_at0 rfl hP hK [0, 1, 2] rfl (hV.at hS sub_id sub_id) EnvG_c) rfl rfl hl.1 rfl (lv_room (Nat.le_of_ble_eq_true rfl)) dX0_sew_57 ⟨Nat.le_trans (Nat.le_of_ble_eq_true rfl) hRc, Nat.le_trans (Nat.le_of_ble_eq_true rfl) hRs⟩) hS (fun _ _ h => h) (fun _ h => h) (fun _ t H1 locs ht hvm hw_4 hB hz hk hS => ?_)
          rw [ht] at hB
          have hP := hB
          have hP : va_P D vwCl (wG cI cZ cO ad n np (nq + 1) (swF F n np nq c0)) H1 := hP
          have hD : va_D (inA ad 23) (wG cI cZ cO ad n np (nq + 1) (swF F n np nq c0)) := g_D hinj
          obtain ⟨F_5, eF_5⟩ : ∃ z, z = swF F n np nq c0 := ⟨_, rfl⟩
          rw [← eF_5] at hP hD
          refine lv_aload_n hx hb dX0_sew_60 rfl (lv_at hl 0 rfl) ?_
          refine va_get (D := D) (ci := 0) (v := .int (nI (nq + 1))) (C := RX0) (T := TX0) (N := 16) hx hb hts hiw hown hK hP 0 g_at0 rfl 9 (by decide) (hts (.fieldLink RX0 136 "GloveCutters" "sewn" "I") (by decide +kernel)) (fun _ h9 => h9) rfl dX0_sew_61 ?_
          refine lv_iconst (v := nI 1) hx hb dX0_sew_64 (by decide) ?_
          refine nv_isub hx hb (by omega) dX0_sew_65 ?_
          rw [← hQ]
          refine vx_ret ?_
          refine W.widen (k := 3) (n := 18) (by omega) (by omega) ?_
          exact W.iret (v := nI ((nq + 1) - 1)) hx hb hr (fun t ht hW => ⟨⟨nI ((nq + 1) - 1), (), rfl, (by show spSew n np nq F c0 = (0, nI (nq + 1 - 1)); rw [show nq + 1 - 1 = nq by omega]; unfold spSew; rw [hc9, canS_y (fun k q => hl9 k (by omega)), decide_eq_true c_3]; rfl), (by show va_P D vwCl (wG cI cZ cO ad n np (nq + 1) (swF F n np nq c0)) t.heap; rw [ht, ← eF_5]; exact hP)⟩, hS.F ht⟩) hS.2.2 dX0_sew_66
        · obtain ⟨sa9, hsa9⟩ := hV0.2.2.2.2.2.1.2.2.2.2.2.2.2.2.2.2.2.2.2.1
          rw [← hQ]
          exact vx_throwS (names := ["java/lang/RuntimeException", "java/lang/Exception"]) hx hb hst hown (by decide +kernel) (by decide +kernel) (hts (.classLink RX0 60 "java/lang/IllegalStateException") (by decide +kernel)) (hts (.initialized "java/lang/IllegalStateException") (by decide +kernel)) hsa9 (at_S (fun w h9 => hts w ((fun _ h => List.mem_cons_of_mem _ (List.mem_append_left _ (List.mem_append_right _ h))) w h9)) hV0.2.2.2.2.2.2) gd_S hV0.2.2.2.2.1.1 hV0.2.2.2.2.1.2 hS (hl.1.trans hml.symm) dX0_sew_45 dX0_sew_48 dX0_sew_49 dX0_sew_51 dX0_sew_54 (fun x hx9 => (htab x hx9).elim) (Nat.lt_of_lt_of_le (Nat.le_of_ble_eq_true rfl) hRf) (Nat.le_trans (Nat.le_of_ble_eq_true rfl) hRl) (Nat.le_trans (Nat.le_of_ble_eq_true rfl) hRc) (Nat.le_trans (Nat.le_of_ble_eq_true rfl) hRs) hlocks (fun t9 _ hs9 hq9 => x_thr hS trivial (Or.inr ⟨rfl, by unfold spSew; rw [hc9, decide_eq_false (show ¬ nq < 20 by omega), Bool.and_false]; rfl⟩) hs9 hq9) (fun z hz => (hS.2.2 z hz).elim) (by omega) (by omega)
      · refine lv_aload_n hx hb dX0_sew_11 rfl (lv_at hl 0 rfl) ?_
        refine lv_iload_n hx hb dX0_sew_12 rfl (lv_at hl 1 rfl) ?_
        refine lv_iload_n hx hb dX0_sew_13 rfl (lv_at hl 2 rfl) ?_
        refine va_calli (va_runV (As := [.int c0, .int (nI i9)]) (rest := []) ⟨hx, hb, hml, hown, hts⟩ (c_X0_lacking l D cI cZ cO ad n np nq F c0 i9 hn hnp hsk (by omega)) (cwV 2 hts gX0_sew_X0_lacking rfl rfl rfl (by decide +kernel) ⟨Nat.le_trans (Nat.le_of_ble_eq_true rfl) hRf, Nat.le_trans (Nat.le_of_ble_eq_true rfl) hRl⟩) (pr_V hP (ci := 0) (q0 := 0) rfl g_at0 rfl hP hK [0, 1, 2] rfl (hV0.at hS sub_id sub_id) EnvG_c) rfl rfl hl.1 rfl (lv_room (Nat.le_of_ble_eq_true rfl)) dX0_sew_14 ⟨Nat.le_trans (Nat.le_of_ble_eq_true rfl) hRc, Nat.le_trans (Nat.le_of_ble_eq_true rfl) hRs⟩) hS (fun _ _ h => h.elim) (fun _ h => h.elim) (fun r_6 _ t H1 locs ht hvm hw_6 hB hz hk hS => ?_)
        have hP := P_kept hP hk
        obtain rfl := hw_6
        have hb9 := lkN_le F n np c0 i9
        refine nv_if_le (tgt := 30) hx hb (by omega) dX0_sew_17 (by decide) (fun c_7 => ?_) (fun c_7 => ?_)
        · refine lv_iinc (k := 2) (v := nI (i9 + 1)) (lv' := [(2, .int (nI (i9 + 1))), (0, .ref (ad 0)), (1, .int c0)]) hx hb dX0_sew_30 hl rfl (nI_add i9 1) (by decide) rfl (fun ls hl => ?_)
          refine lv_goto (tgt := 6) hx hb dX0_sew_33 (by decide) ?_
          exact ih6 (i9 + 1) _ _ _ (by omega) (by omega) (fun k q => by rcases Nat.lt_or_ge k i9 with z | z; exact hl9 k z; rw [show k = i9 by omega]; exact c_7) hP hD hS (lv_sub hl [1, 2, 0] rfl)
        · obtain ⟨sa9, hsa9⟩ := hV0.2.2.2.2.2.1.2.2.2.2.2.2.2.2.2.2.2.2.1
          rw [← hQ]
          exact vx_throwS (names := ["java/lang/RuntimeException", "java/lang/Exception"]) hx hb hst hown (by decide +kernel) (by decide +kernel) (hts (.classLink RX0 60 "java/lang/IllegalStateException") (by decide +kernel)) (hts (.initialized "java/lang/IllegalStateException") (by decide +kernel)) hsa9 (at_S (fun w h9 => hts w ((fun _ h => List.mem_cons_of_mem _ (List.mem_append_left _ (List.mem_append_right _ h))) w h9)) hV0.2.2.2.2.2.2) gd_S hV0.2.2.2.2.1.1 hV0.2.2.2.2.1.2 hS (hl.1.trans hml.symm) dX0_sew_20 dX0_sew_23 dX0_sew_24 dX0_sew_26 dX0_sew_29 (fun x hx9 => (htab x hx9).elim) (Nat.lt_of_lt_of_le (Nat.le_of_ble_eq_true rfl) hRf) (Nat.le_trans (Nat.le_of_ble_eq_true rfl) hRl) (Nat.le_trans (Nat.le_of_ble_eq_true rfl) hRc) (Nat.le_trans (Nat.le_of_ble_eq_true rfl) hRs) hlocks (fun t9 _ hs9 hq9 => x_thr hS trivial (Or.inr ⟨rfl, by unfold spSew; rw [hc9, canS_n (k := i9) (by omega) c_7]; rfl⟩) hs9 hq9) (fun z hz => (hS.2.2 z hz).elim) (by omega) (by omega)
  exact L6 _ 0 _ _ _ (Nat.lt_succ_self _) (by omega) (fun k q => absurd q (Nat.not_lt_zero k)) hP hD hS (lv_sub hl [1, 2, 0] rfl)
