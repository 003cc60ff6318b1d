set_option maxHeartbeats 4000000 in
set_option maxRecDepth 100000 in
/-- share -/
theorem c_X0_share (l : Launch) (D : va_G) (cI cZ cO : ClassId) (ad : Nat → Nat) (n np nq : Nat) (F : Nat → Nat → Int32) (hn : n ≤ 10) : MetD lw_cs l yX0_share wsX0_share ({ frames := 2, cells := 0, slots := 0, locals := 50 } : Room) (va_Pc [.ref (ad 0)] (Pr D (gT cI cZ cO) (wG cI cZ cO ad n np nq F) V0)) (va_Qd (S := Unit) (fun (r : UInt64) (_ : Unit) => alike64 r (shV F n) = true) (fun _ _ => True) (fun _ => False)) 0 0 (fun _ => False) := by
  refine MetD.ofW (cc := cX0_share) (maxL := 4) (ret := (some .double)) (by decide) rfl ?_
  intro p e s m args below meth c s₁ B hml hv hd0
  obtain ⟨hargs, hP, hK, hV⟩ := hv
  have hx := B.exec
  have hb := B.bytes
  have hr := B.returns
  have hts := atoms_spec (ws := wsX0_share) B.pre
  have hown : s.vm.findClass RX0 = some m.cls := findClass_of_methodNamed B.named
  have hlocks := B.notSynchronized
  have hts := dr_words hts s.drawn
  have hK : va_K D vwCl (gT cI cZ cO) (s.setDrawn s.drawn) := hK
  have hS : va_S (fun _ => False) s.heap s.heap [] := va_S.rf
  have hiw : ∀ w ∈ wsX00, w ∈ wsX0_share := (fun _ h => List.mem_cons_of_mem _ (List.mem_append_right _ h))
  have hRf : 2 ≤ (headSpec wsX0_share ({ frames := 2, cells := 0, slots := 0, locals := 50 } : Room)).room.frames := Nat.le_refl _
  have hRl : 50 ≤ (headSpec wsX0_share ({ frames := 2, cells := 0, slots := 0, locals := 50 } : Room)).room.locals := Nat.le_refl _
  have hRc : 0 ≤ (headSpec wsX0_share ({ frames := 2, cells := 0, slots := 0, locals := 50 } : Room)).room.cells := Nat.le_refl _
  have hRs : 0 ≤ (headSpec wsX0_share ({ frames := 2, cells := 0, slots := 0, locals := 50 } : Room)).room.slots := Nat.le_refl _
  generalize (headSpec wsX0_share ({ frames := 2, cells := 0, slots := 0, locals := 50 } : Room)).room = R at hRf hRl hRc hRs ⊢
  have hl := lv_entry [.ref (ad 0)] (n := 4) (Nat.le_of_ble_eq_true rfl)
  refine W.eq (show entryFrame m args 4 = _ from by rw [hargs, lg_entry_eq]) ?_
  generalize (lg_sl [.ref (ad 0)] ++ List.replicate (4 - (lg_sl [.ref (ad 0)]).length) Slot.unset).toArray = ls at hl ⊢
  have hl : lv_has ls 4 [(0, .ref (ad 0))] := hl
  generalize hQ : MQD _ _ _ _ _ _ _ _ = Q
  refine lv_iconst (v := nI 0) hx hb dX0_share_0 (by decide) ?_
  refine lv_istore_n (lv' := [(1, .int (nI 0)), (0, .ref (ad 0))]) hx hb dX0_share_1 rfl hl (by decide) rfl (fun ls hl => ?_)
  refine lv_iconst (v := nI 0) hx hb dX0_share_2 (by decide) ?_
  refine lv_istore_n (lv' := [(2, .int (nI 0)), (1, .int (nI 0)), (0, .ref (ad 0))]) hx hb dX0_share_3 rfl hl (by decide) rfl (fun ls hl => ?_)
  refine lv_iconst (v := nI 0) hx hb dX0_share_4 (by decide) ?_
  refine lv_istore_n (lv' := [(3, .int (nI 0)), (2, .int (nI 0)), (1, .int (nI 0)), (0, .ref (ad 0))]) hx hb dX0_share_5 rfl hl (by decide) rfl (fun ls hl => ?_)
  have L6 : ∀ (fu : Nat) (a9 : Nat) (b9 : Nat) (i9 : Nat) (H : Heap) (locs : List Loc) (ls : Array Slot), n - i9 < fu → (i9 ≤ n) → (a9 = shC F i9) → (b9 = shA F i9) → (a9 ≤ 96 * i9) → (b9 ≤ 96 * i9) → va_P D vwCl (wG cI cZ cO ad n np nq F) H → va_S (fun _ => False) s.heap H locs → lv_has ls 4 [(0, .ref (ad 0)), (1, .int (nI a9)), (2, .int (nI b9)), (3, .int (nI i9))] → W p l e R (s.setDrawn s.drawn) m args below meth c H locs 0 0 Q (F0 m 6 ls []) := by
    intro fu
    induction fu with
    | zero => intro _ _ _ _ _ _ h; exact absurd h (Nat.not_lt_zero _)
    | succ fu ih6 =>
      intro a9 b9 i9 H locs ls hm6 h1 h2 h3 h4 h5 hP  hS hl
      refine lv_iload_n hx hb dX0_share_6 rfl (lv_at hl 3 rfl) ?_
      refine lv_aload_n hx hb dX0_share_7 rfl (lv_at hl 0 rfl) ?_
      refine va_get (D := D) (ci := 0) (v := .int (nI n)) (C := RX0) (T := TX0) (N := 16) hx hb hts hiw hown hK hP 0 g_at0 rfl 0 (by decide) (hts (.fieldLink RX0 56 "GloveCutters" "skins" "I") (by decide +kernel)) (fun _ h9 => h9) rfl dX0_share_8 ?_
      refine nv_icmp_ge (tgt := 41) hx hb (by omega) (by omega) dX0_share_11 (by decide) (fun c_1 => ?_) (fun c_1 => ?_)
      · refine lv_iload_n hx hb dX0_share_41 rfl (lv_at hl 2 rfl) ?_
        refine nv_if_ne (tgt := 47) hx hb (by omega) dX0_share_42 (by decide) (fun c_2 => ?_) (fun c_2 => ?_)
        · refine lv_iload_n hx hb dX0_share_47 rfl (lv_at hl 1 rfl) ?_
          refine lv_i2d hx hb dX0_share_48 ?_
          refine lv_iload_n hx hb dX0_share_49 rfl (lv_at hl 2 rfl) ?_
          refine lv_i2d hx hb dX0_share_50 ?_
          refine lv_ddiv_any hd0 lw_bits hx hb dX0_share_51 (fun r_3 d1 hal hd1 => ?_)
          rw [← hQ]
          refine W.endD hd1 ?_
          exact W.dret (v := r_3) hx hb hr (fun t ht hW => ⟨⟨r_3, (), rfl, (by unfold shV; rw [← show i9 = n by omega, ← h3, ← h2, if_neg (by omega)]; exact hal), trivial⟩, hS.F ht⟩) hS.2.2 dX0_share_52
        · refine lv_dconst0 hx hb dX0_share_45 ?_
          rw [← hQ]
          refine W.endD hd0 ?_
          exact W.dret (v := 0) hx hb hr (fun t ht hW => ⟨⟨0, (), rfl, (by unfold shV; rw [← show i9 = n by omega, ← h3, if_pos (by omega)]; rfl), trivial⟩, hS.F ht⟩) hS.2.2 dX0_share_46
      · refine lv_iload_n hx hb dX0_share_14 rfl (lv_at hl 1 rfl) ?_
        refine lv_aload_n hx hb dX0_share_15 rfl (lv_at hl 0 rfl) ?_
        refine lv_iload_n hx hb dX0_share_16 rfl (lv_at hl 3 rfl) ?_
        refine lv_iconst (v := nI 3) hx hb dX0_share_17 (by decide) ?_
        refine va_calli (va_runV (As := [.int (nI i9), .int (nI 3)]) (rest := [.int (nI a9)]) ⟨hx, hb, hml, hown, hts⟩ (c_X0_tallySkin l D cI cZ cO ad n np nq F i9 (nI 3) (by omega)) (cwV 2 hts gX0_share_X0_tallySkin rfl rfl rfl (by decide +kernel) ⟨Nat.le_trans (Nat.le_of_ble_eq_true rfl) hRf, Nat.le_trans (Nat.le_of_ble_eq_true rfl) hRl⟩) (pr_V hP (ci := 0) (q0 := 0) rfl g_at0 rfl hP hK [0, 1, 2] rfl V0_at V0_c) rfl rfl hl.1 rfl (lv_room (Nat.le_of_ble_eq_true rfl)) dX0_share_18 ⟨Nat.le_trans (Nat.le_of_ble_eq_true rfl) hRc, Nat.le_trans (Nat.le_of_ble_eq_true rfl) hRs⟩) hS (fun _ _ h => h.elim) (fun _ h => h.elim) (fun r_4 _ t H1 locs ht hvm hw_4 hB hz hk hS => ?_)
        have hP := P_kept hP hk
        obtain rfl := hw_4
        have hb8 := tS_le F i9 (nI 3)
        refine nv_iadd hx hb dX0_share_21 ?_
        refine lv_istore_n (lv' := [(1, .int (nI (a9 + (tS F i9 (nI 3))))), (0, .ref (ad 0)), (2, .int (nI b9)), (3, .int (nI i9))]) hx hb dX0_share_22 rfl hl (by decide) rfl (fun ls hl => ?_)
        refine lv_iload_n hx hb dX0_share_23 rfl (lv_at hl 2 rfl) ?_
        refine lv_bipush (v := nI 96) hx hb dX0_share_24 (by decide) ?_
        refine lv_aload_n hx hb dX0_share_26 rfl (lv_at hl 1 rfl) ?_
        refine lv_iload_n hx hb dX0_share_27 rfl (lv_at hl 3 rfl) ?_
        refine lv_iconst (v := nI 2) hx hb dX0_share_28 (by decide) ?_
        refine va_calli (va_runV (As := [.int (nI i9), .int (nI 2)]) (rest := [.int (nI 96), .int (nI b9)]) ⟨hx, hb, hml, hown, hts⟩ (c_X0_tallySkin l D cI cZ cO ad n np nq F i9 (nI 2) (by omega)) (cwV 2 hts gX0_share_X0_tallySkin rfl rfl rfl (by decide +kernel) ⟨Nat.le_trans (Nat.le_of_ble_eq_true rfl) hRf, Nat.le_trans (Nat.le_of_ble_eq_true rfl) hRl⟩) (pr_V hP (ci := 0) (q0 := 0) rfl g_at0 rfl hP hK [0, 1, 2] rfl V0_at V0_c) rfl rfl hl.1 rfl (lv_room (Nat.le_of_ble_eq_true rfl)) dX0_share_29 ⟨Nat.le_trans (Nat.le_of_ble_eq_true rfl) hRc, Nat.le_trans (Nat.le_of_ble_eq_true rfl) hRs⟩) hS (fun _ _ h => h.elim) (fun _ h => h.elim) (fun r_5 _ t H1 locs ht hvm hw_5 hB hz hk hS => ?_)
        have hP := P_kept hP hk
        obtain rfl := hw_5
        have hb9 := tS_le F i9 (nI 2)
        refine nv_isub hx hb (by omega) dX0_share_32 ?_
        refine nv_iadd hx hb dX0_share_33 ?_
        refine lv_istore_n (lv' := [(2, .int (nI (b9 + (96 - (tS F i9 (nI 2)))))), (1, .int (nI (a9 + (tS F i9 (nI 3))))), (0, .ref (ad 0)), (3, .int (nI i9))]) hx hb dX0_share_34 rfl hl (by decide) rfl (fun ls hl => ?_)
        refine lv_iinc (k := 3) (v := nI (i9 + 1)) (lv' := [(3, .int (nI (i9 + 1))), (2, .int (nI (b9 + (96 - (tS F i9 (nI 2)))))), (1, .int (nI (a9 + (tS F i9 (nI 3))))), (0, .ref (ad 0))]) hx hb dX0_share_35 hl rfl (nI_add i9 1) (by decide) rfl (fun ls hl => ?_)
        refine lv_goto (tgt := 6) hx hb dX0_share_38 (by decide) ?_
        exact ih6 (a9 + (tS F i9 (nI 3))) (b9 + (96 - (tS F i9 (nI 2)))) (i9 + 1) _ _ _ (by omega) (by omega) (by rw [h2]; rfl) (by rw [h3]; rfl) (by omega) (by omega) hP hS (lv_sub hl [3, 2, 1, 0] rfl)
  exact L6 _ 0 0 0 _ _ _ (Nat.lt_succ_self _) (by omega) rfl rfl (by omega) (by omega) hP hS (lv_sub hl [3, 2, 1, 0] rfl)
