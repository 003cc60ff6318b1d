/-! the share draws nothing: it is a number -/
theorem nf_ok {x : UInt64} (h : FP.Core.dIsNaN x = false) : vf_n64 x := by
  unfold vf_n64
  have h2 : ¬ 9218868437227405312 < x.toNat % 2 ^ 63 := fun q => by rw [(FP.Core.isNaN_bits x).mpr q] at h; cases h
  rw [UInt64.le_iff_toNat_le, UInt64.toNat_and, show (0x7fffffffffffffff : UInt64).toNat = 2 ^ 63 - 1 from by decide, Nat.and_two_pow_sub_one_eq_mod]
  exact Nat.not_lt.mp h2
theorem fin_nn {a : UInt64} (h : FP.Core.DFin a) : FP.Core.dIsNaN a = false := by
  cases q : FP.Core.dIsNaN a
  · rfl
  · exact absurd ((FP.Core.dIsNaN_iff a).mp q) h.ne_nan
theorem nn_div {a b : Nat} (h0 : 0 < b) (hb : b < 2 ^ 31) : FP.Core.dIsNaN (FP.ddiv (FP.i2d (nI a)) (FP.i2d (nI b))) = false := by
  refine FP.Core.ddiv_out (fin_nn (FP.Core.i2d_fin _)) (FP.Core.i2d_fin _) (fun z => ?_)
  exact FP.Core.i2d_ne_zero (v := nI b) (nI_ne0 h0 hb) ((FP.Core.zero_bits2 _).mp z)
theorem shA_le (F : Nat → Nat → Int32) : ∀ n, shA F n ≤ 96 * n
  | 0 => Nat.le_refl _
  | n + 1 => by
    have := shA_le F n
    show shA F n + (96 - tS F n (nI 2)) ≤ _
    omega
theorem shV_nn (F : Nat → Nat → Int32) {n : Nat} (hn : n ≤ 10) : FP.Core.dIsNaN (shV F n) = false := by
  have := shA_le F n
  unfold shV
  by_cases h : shA F n = 0
  · rw [if_pos h]
    decide +kernel
  · rw [if_neg h]
    exact nn_div (by omega) (by omega)
theorem dc_self {x : UInt64} (h : FP.Core.dIsNaN x = false) : Op.cmpValue (FP.dcmp x x) CmpOp.l = 0 := by
  rw [show FP.dcmp x x = some .eq from FP.Core.dcmp_self (fun q => by rw [(FP.Core.dIsNaN_iff x).mpr q] at h; cases h)]
  rfl
set_option maxHeartbeats 4000000 in
set_option maxRecDepth 100000 in
/-- share -/
theorem s_X0_share (l : Launch) (D : va_G) (cI cZ cO : ClassId) (ad : Nat → Nat) (n np nq : Nat) (F : Nat → Nat → Int32) (hn : n ≤ 10) : Met l yX0_share wsX0_share ({ frames := 2, cells := 0, slots := 0, locals := 50 } : Room) (va_Pc [.ref (ad 0)] (Pr D (gT cI cZ cO) (wG cI cZ cO ad n np nq F) V0)) (va_Qd (S := Unit) (fun (r : UInt64) (_ : Unit) => r = shV F n) (fun _ _ => True) (fun _ => False)) 0 0 (fun _ => False) := by
  refine Met.ofW (cc := cX0_share) (maxL := 4) (ret := (some .double)) (by decide) rfl ?_
  intro p e s m args below meth c s₁ B hml hv
  obtain ⟨hargs, hP, hK, hV⟩ := hv
  have hx := B.exec
  have hb := B.bytes
  have hr := B.returns
  have hts := atoms_spec (ws := wsX0_share) B.pre
  have hown : s.vm.findClass RX0 = some m.cls := findClass_of_methodNamed B.named
  have hlocks := B.notSynchronized
  have hS : va_S (fun _ => False) s.heap s.heap [] := va_S.rf
  have hiw : ∀ w ∈ wsX00, w ∈ wsX0_share := (fun _ h => List.mem_cons_of_mem _ (List.mem_append_right _ h))
  have hRf : 2 ≤ (headSpec wsX0_share ({ frames := 2, cells := 0, slots := 0, locals := 50 } : Room)).room.frames := Nat.le_refl _
  have hRl : 50 ≤ (headSpec wsX0_share ({ frames := 2, cells := 0, slots := 0, locals := 50 } : Room)).room.locals := Nat.le_refl _
  have hRc : 0 ≤ (headSpec wsX0_share ({ frames := 2, cells := 0, slots := 0, locals := 50 } : Room)).room.cells := Nat.le_refl _
  have hRs : 0 ≤ (headSpec wsX0_share ({ frames := 2, cells := 0, slots := 0, locals := 50 } : Room)).room.slots := Nat.le_refl _
  generalize (headSpec wsX0_share ({ frames := 2, cells := 0, slots := 0, locals := 50 } : Room)).room = R at hRf hRl hRc hRs ⊢
  have hl := lv_entry [.ref (ad 0)] (n := 4) (Nat.le_of_ble_eq_true rfl)
  refine W.eq (show entryFrame m args 4 = _ from by rw [hargs, lg_entry_eq]) ?_
  generalize (lg_sl [.ref (ad 0)] ++ List.replicate (4 - (lg_sl [.ref (ad 0)]).length) Slot.unset).toArray = ls at hl ⊢
  have hl : lv_has ls 4 [(0, .ref (ad 0))] := hl
  generalize hQ : MQ _ _ _ _ _ _ _ = Q
  refine lv_iconst (v := nI 0) hx hb dX0_share_0 (by decide) ?_
  refine lv_istore_n (lv' := [(1, .int (nI 0)), (0, .ref (ad 0))]) hx hb dX0_share_1 rfl hl (by decide) rfl (fun ls hl => ?_)
  refine lv_iconst (v := nI 0) hx hb dX0_share_2 (by decide) ?_
  refine lv_istore_n (lv' := [(2, .int (nI 0)), (1, .int (nI 0)), (0, .ref (ad 0))]) hx hb dX0_share_3 rfl hl (by decide) rfl (fun ls hl => ?_)
  refine lv_iconst (v := nI 0) hx hb dX0_share_4 (by decide) ?_
  refine lv_istore_n (lv' := [(3, .int (nI 0)), (2, .int (nI 0)), (1, .int (nI 0)), (0, .ref (ad 0))]) hx hb dX0_share_5 rfl hl (by decide) rfl (fun ls hl => ?_)
  have L6 : ∀ (fu : Nat) (a9 : Nat) (b9 : Nat) (i9 : Nat) (H : Heap) (locs : List Loc) (ls : Array Slot), n - i9 < fu → (i9 ≤ n) → (a9 = shC F i9) → (b9 = shA F i9) → (a9 ≤ 96 * i9) → (b9 ≤ 96 * i9) → va_P D vwCl (wG cI cZ cO ad n np nq F) H → va_S (fun _ => False) s.heap H locs → lv_has ls 4 [(0, .ref (ad 0)), (1, .int (nI a9)), (2, .int (nI b9)), (3, .int (nI i9))] → W p l e R s m args below meth c H locs 0 0 Q (F0 m 6 ls []) := by
    intro fu
    induction fu with
    | zero => intro _ _ _ _ _ _ h; exact absurd h (Nat.not_lt_zero _)
    | succ fu ih6 =>
      intro a9 b9 i9 H locs ls hm6 h1 h2 h3 h4 h5 hP  hS hl
      refine lv_iload_n hx hb dX0_share_6 rfl (lv_at hl 3 rfl) ?_
      refine lv_aload_n hx hb dX0_share_7 rfl (lv_at hl 0 rfl) ?_
      refine va_get (D := D) (ci := 0) (v := .int (nI n)) (C := RX0) (T := TX0) (N := 16) hx hb hts hiw hown hK hP 0 g_at0 rfl 0 (by decide) (hts (.fieldLink RX0 56 "GloveCutters" "skins" "I") (by decide +kernel)) (fun _ h9 => h9) rfl dX0_share_8 ?_
      refine nv_icmp_ge (tgt := 41) hx hb (by omega) (by omega) dX0_share_11 (by decide) (fun c_1 => ?_) (fun c_1 => ?_)
      · refine lv_iload_n hx hb dX0_share_41 rfl (lv_at hl 2 rfl) ?_
        refine nv_if_ne (tgt := 47) hx hb (by omega) dX0_share_42 (by decide) (fun c_2 => ?_) (fun c_2 => ?_)
        · refine lv_iload_n hx hb dX0_share_47 rfl (lv_at hl 1 rfl) ?_
          refine lv_i2d hx hb dX0_share_48 ?_
          refine lv_iload_n hx hb dX0_share_49 rfl (lv_at hl 2 rfl) ?_
          refine lv_i2d hx hb dX0_share_50 ?_
          refine lv_ddiv hx hb dX0_share_51 (nf_ok (nn_div (by omega) (by omega))) ?_
          rw [← hQ]
          exact W.dret (v := FP.ddiv (FP.i2d (nI a9)) (FP.i2d (nI b9))) hx hb hr (fun t ht hW => ⟨⟨FP.ddiv (FP.i2d (nI a9)) (FP.i2d (nI b9)), (), rfl, (by unfold shV; rw [← show i9 = n by omega, ← h3, ← h2, if_neg (by omega)]), trivial⟩, hS.F ht⟩) hS.2.2 dX0_share_52
        · refine lv_dconst0 hx hb dX0_share_45 ?_
          rw [← hQ]
          exact W.dret (v := 0) hx hb hr (fun t ht hW => ⟨⟨0, (), rfl, (by unfold shV; rw [← show i9 = n by omega, ← h3, if_pos (by omega)]), trivial⟩, hS.F ht⟩) hS.2.2 dX0_share_46
      · refine lv_iload_n hx hb dX0_share_14 rfl (lv_at hl 1 rfl) ?_
        refine lv_aload_n hx hb dX0_share_15 rfl (lv_at hl 0 rfl) ?_
        refine lv_iload_n hx hb dX0_share_16 rfl (lv_at hl 3 rfl) ?_
        refine lv_iconst (v := nI 3) hx hb dX0_share_17 (by decide) ?_
        refine va_calli (va_runV (As := [.int (nI i9), .int (nI 3)]) (rest := [.int (nI a9)]) ⟨hx, hb, hml, hown, hts⟩ (c_X0_tallySkin l D cI cZ cO ad n np nq F i9 (nI 3) (by omega)) (cwV 2 hts gX0_share_X0_tallySkin rfl rfl rfl (by decide +kernel) ⟨Nat.le_trans (Nat.le_of_ble_eq_true rfl) hRf, Nat.le_trans (Nat.le_of_ble_eq_true rfl) hRl⟩) (pr_V hP (ci := 0) (q0 := 0) rfl g_at0 rfl hP hK [0, 1, 2] rfl V0_at V0_c) rfl rfl hl.1 rfl (lv_room (Nat.le_of_ble_eq_true rfl)) dX0_share_18 ⟨Nat.le_trans (Nat.le_of_ble_eq_true rfl) hRc, Nat.le_trans (Nat.le_of_ble_eq_true rfl) hRs⟩) hS (fun _ _ h => h.elim) (fun _ h => h.elim) (fun r_4 _ t H1 locs ht hvm hw_4 hB hz hk hS => ?_)
        have hP := P_kept hP hk
        obtain rfl := hw_4
        have hb8 := tS_le F i9 (nI 3)
        refine nv_iadd hx hb dX0_share_21 ?_
        refine lv_istore_n (lv' := [(1, .int (nI (a9 + (tS F i9 (nI 3))))), (0, .ref (ad 0)), (2, .int (nI b9)), (3, .int (nI i9))]) hx hb dX0_share_22 rfl hl (by decide) rfl (fun ls hl => ?_)
        refine lv_iload_n hx hb dX0_share_23 rfl (lv_at hl 2 rfl) ?_
        refine lv_bipush (v := nI 96) hx hb dX0_share_24 (by decide) ?_
        refine lv_aload_n hx hb dX0_share_26 rfl (lv_at hl 1 rfl) ?_
        refine lv_iload_n hx hb dX0_share_27 rfl (lv_at hl 3 rfl) ?_
        refine lv_iconst (v := nI 2) hx hb dX0_share_28 (by decide) ?_
        refine va_calli (va_runV (As := [.int (nI i9), .int (nI 2)]) (rest := [.int (nI 96), .int (nI b9)]) ⟨hx, hb, hml, hown, hts⟩ (c_X0_tallySkin l D cI cZ cO ad n np nq F i9 (nI 2) (by omega)) (cwV 2 hts gX0_share_X0_tallySkin rfl rfl rfl (by decide +kernel) ⟨Nat.le_trans (Nat.le_of_ble_eq_true rfl) hRf, Nat.le_trans (Nat.le_of_ble_eq_true rfl) hRl⟩) (pr_V hP (ci := 0) (q0 := 0) rfl g_at0 rfl hP hK [0, 1, 2] rfl V0_at V0_c) rfl rfl hl.1 rfl (lv_room (Nat.le_of_ble_eq_true rfl)) dX0_share_29 ⟨Nat.le_trans (Nat.le_of_ble_eq_true rfl) hRc, Nat.le_trans (Nat.le_of_ble_eq_true rfl) hRs⟩) hS (fun _ _ h => h.elim) (fun _ h => h.elim) (fun r_5 _ t H1 locs ht hvm hw_5 hB hz hk hS => ?_)
        have hP := P_kept hP hk
        obtain rfl := hw_5
        have hb9 := tS_le F i9 (nI 2)
        refine nv_isub hx hb (by omega) dX0_share_32 ?_
        refine nv_iadd hx hb dX0_share_33 ?_
        refine lv_istore_n (lv' := [(2, .int (nI (b9 + (96 - (tS F i9 (nI 2)))))), (1, .int (nI (a9 + (tS F i9 (nI 3))))), (0, .ref (ad 0)), (3, .int (nI i9))]) hx hb dX0_share_34 rfl hl (by decide) rfl (fun ls hl => ?_)
        refine lv_iinc (k := 3) (v := nI (i9 + 1)) (lv' := [(3, .int (nI (i9 + 1))), (2, .int (nI (b9 + (96 - (tS F i9 (nI 2)))))), (1, .int (nI (a9 + (tS F i9 (nI 3))))), (0, .ref (ad 0))]) hx hb dX0_share_35 hl rfl (nI_add i9 1) (by decide) rfl (fun ls hl => ?_)
        refine lv_goto (tgt := 6) hx hb dX0_share_38 (by decide) ?_
        exact ih6 (a9 + (tS F i9 (nI 3))) (b9 + (96 - (tS F i9 (nI 2)))) (i9 + 1) _ _ _ (by omega) (by omega) (by rw [h2]; rfl) (by rw [h3]; rfl) (by omega) (by omega) hP hS (lv_sub hl [3, 2, 1, 0] rfl)
  exact L6 _ 0 0 0 _ _ _ (Nat.lt_succ_self _) (by omega) rfl rfl (by omega) (by omega) hP hS (lv_sub hl [3, 2, 1, 0] rfl)

theorem n_share (l : Launch) (hst : l.stackTraces = false) (D : va_G) (cI cZ cO : ClassId) (ad : Nat → Nat) (n np nq : Nat) (F : Nat → Nat → Int32) (hJ : J n np nq F) : Met l yX0_share wsX0_share ({ frames := 2, cells := 0, slots := 0, locals := 50 } : Room) (va_Pc [.ref (ad 0)] (PrG D cI cZ cO ad n np nq F V0)) (va_Qd (S := Unit) (fun (r : UInt64) (_ : Unit) => r = shV F n) (fun _ _ => True) (fun _ => False)) 0 0 (fun _ => False) := by
  refine met_weak (fun a st h => ?_)
  obtain ⟨ha, ⟨u, hP⟩, hK, hV⟩ := h
  refine ⟨_, _, ⟨ha, hP, hK, hV⟩, s_X0_share l D cI cZ cO ad n np nq (va_up F 13 u) (J_T hJ u).inv.1, fun o t hq => ?_⟩
  obtain ⟨⟨r, u2, ho, hr, hB⟩, hF⟩ := hq
  exact ⟨⟨r, (), ho, hr.trans (shV_T F u n), trivial⟩, hF⟩
