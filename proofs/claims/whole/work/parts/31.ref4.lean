set_option maxHeartbeats 4000000 in
set_option maxRecDepth 100000 in
/-- take -/
theorem c_X1_take (l : Launch) (D : va_G) (cI : ClassId) (ad : Nat → Nat) (th : Int32) (n np nq : Nat) (F : Nat → Nat → Int32) (T : Nat → Int32) (c0 : Int32) (k9 : Nat) (sk : Int32) (hinj : inj ad 8) (hn : n ≤ 10) (hnp : np ≤ 150) (hnq : nq ≤ 20) (hsk : ∀ p, p < np → ∃ k, k < n ∧ F 4 p = nI k) (hkd : k9 < 4) : Met l yX1_take wsX1_take ({ frames := 1, cells := 0, slots := 0, locals := 23 } : Room) (va_Pc [.ref (ad 0), .int c0, .int (nI k9), .int sk] (Pr D [(cI, .int)] (wM cI ad th n np nq F T) (EnvM (inA ad 8)))) (va_Qv (S := Unit) (fun _ => True) (fun (_ : Unit) (t : State) => va_P D vwCl (wM cI ad th n np nq (va_up F 6 (tkG (okM F c0 sk k9) (nI nq) (F 6) (kP k9) np).1) T) t.heap) (inA ad 8)) 0 0 (inA ad 8) := by
  refine Met.ofW (cc := cX1_take) (maxL := 6) (ret := none) (by decide) rfl ?_
  intro p e s m args below meth c s₁ B hml hv
  obtain ⟨hargs, hP, hK, hV⟩ := hv
  have hx := B.exec
  have hb := B.bytes
  have hr := B.returns
  have hts := atoms_spec (ws := wsX1_take) B.pre
  have hown : s.vm.findClass RX1 = some m.cls := findClass_of_methodNamed B.named
  have hlocks := B.notSynchronized
  have hS : va_S (fun _ => False) s.heap s.heap [] := va_S.rf
  have hV0 : EnvM (fun _ => False) s := EnvM.nar hV sub_no
  have hiw : ∀ w ∈ wsX10, w ∈ wsX1_take := (fun _ h => List.mem_cons_of_mem _ (List.mem_append_right _ h))
  have hRf : 1 ≤ (headSpec wsX1_take ({ frames := 1, cells := 0, slots := 0, locals := 23 } : Room)).room.frames := Nat.le_refl _
  have hRl : 23 ≤ (headSpec wsX1_take ({ frames := 1, cells := 0, slots := 0, locals := 23 } : Room)).room.locals := Nat.le_refl _
  have hRc : 0 ≤ (headSpec wsX1_take ({ frames := 1, cells := 0, slots := 0, locals := 23 } : Room)).room.cells := Nat.le_refl _
  have hRs : 0 ≤ (headSpec wsX1_take ({ frames := 1, cells := 0, slots := 0, locals := 23 } : Room)).room.slots := Nat.le_refl _
  generalize (headSpec wsX1_take ({ frames := 1, cells := 0, slots := 0, locals := 23 } : Room)).room = R at hRf hRl hRc hRs ⊢
  have hl := lv_entry [.ref (ad 0), .int c0, .int (nI k9), .int sk] (n := 6) (Nat.le_of_ble_eq_true rfl)
  refine W.eq (show entryFrame m args 6 = _ from by rw [hargs, lg_entry_eq]) ?_
  generalize (lg_sl [.ref (ad 0), .int c0, .int (nI k9), .int sk] ++ List.replicate (6 - (lg_sl [.ref (ad 0), .int c0, .int (nI k9), .int sk]).length) Slot.unset).toArray = ls at hl ⊢
  have hl : lv_has ls 6 [(0, .ref (ad 0)), (1, .int c0), (2, .int (nI k9)), (3, .int sk)] := hl
  have hD : va_D (inA ad 8) (wM cI ad th n np nq F T) := m_D hinj
  generalize hQ : MQ _ _ _ _ _ _ _ = Q
  obtain ⟨tb_NEEDS, hNEEDSZ, hNEEDST⟩ := hV0.2.2
  refine va_gets hx hb hNEEDSZ hS hown (hts (.fieldLink RX1 116 "GloveCuttersModel" "NEEDS" "[I") (by decide +kernel)) (fun _ h9 => h9) dX1_take_0 ?_
  refine lv_iload_n hx hb dX1_take_3 rfl (lv_at hl 2 rfl) ?_
  refine nv_tab hx hb hNEEDST hS (by omega) dX1_take_4 ?_
  refine lv_istore (lv' := [(4, .int (nI (kP k9))), (0, .ref (ad 0)), (1, .int c0), (2, .int (nI k9)), (3, .int sk)]) hx hb dX1_take_5 hl (by decide) rfl (fun ls hl => ?_)
  refine lv_iconst (v := nI 0) hx hb dX1_take_7 (by decide) ?_
  refine lv_istore (lv' := [(5, .int (nI 0)), (4, .int (nI (kP k9))), (0, .ref (ad 0)), (1, .int c0), (2, .int (nI k9)), (3, .int sk)]) hx hb dX1_take_8 hl (by decide) rfl (fun ls hl => ?_)
  have hS : va_S (inA ad 8) s.heap _ _ := S_mono hS
  have L10 : ∀ (fu : Nat) (p9 : Nat) (l9 : Nat) (G : Nat → Nat → Int32) (g : Nat → Int32) (H : Heap) (locs : List Loc) (ls : Array Slot), np - p9 < fu → (p9 ≤ np) → (l9 ≤ 6) → (G = va_up F 6 g) → ((g, l9) = tkG (okM F c0 sk k9) (nI nq) (F 6) (kP k9) p9) → va_P D vwCl (wM cI ad th n np nq G T) H → va_D (inA ad 8) (wM cI ad th n np nq G T) → va_S (inA ad 8) s.heap H locs → lv_has ls 6 [(0, .ref (ad 0)), (1, .int c0), (2, .int (nI k9)), (3, .int sk), (4, .int (nI l9)), (5, .int (nI p9))] → W p l e R s m args below meth c H locs 0 0 Q (F0 m 10 ls []) := by
    intro fu
    induction fu with
    | zero => intro _ _ _ _ _ _ _ h; exact absurd h (Nat.not_lt_zero _)
    | succ fu ih10 =>
      intro p9 l9 G g H locs ls hm10 g1 g2 hG hgd hP hD hS hl
      refine lv_iload hx hb dX1_take_10 (lv_at hl 5 rfl) ?_
      refine lv_aload_n hx hb dX1_take_12 rfl (lv_at hl 0 rfl) ?_
      refine va_get (D := D) (ci := 1) (v := .int (nI np)) (C := RX1) (T := TX1) (N := 12) hx hb hts hiw hown hK hP 0 m_at0 rfl 4 (by decide) (hts (.fieldLink RX1 67 "GloveCuttersModel" "pieces" "I") (by decide +kernel)) (fun _ h9 => h9) rfl dX1_take_13 ?_
      refine nv_icmp_ge (tgt := 74) hx hb (by omega) (by omega) dX1_take_16 (by decide) (fun c_1 => ?_) (fun c_1 => ?_)
      · rw [← hQ]
        exact W.vret hx hb hr (fun t ht hW => ⟨⟨(), rfl, trivial, (by show va_P D vwCl (wM cI ad th n np nq (va_up F 6 (tkG (okM F c0 sk k9) (nI nq) (F 6) (kP k9) np).1) T) t.heap; rw [ht, ← tk_end hgd g1 (Or.inl (by omega)), ← hG]; exact hP)⟩, hS.F ht⟩) hS.2.2 dX1_take_74
      · refine lv_iload hx hb dX1_take_19 (lv_at hl 4 rfl) ?_
        refine nv_if_le (tgt := 74) hx hb (by omega) dX1_take_21 (by decide) (fun c_2 => ?_) (fun c_2 => ?_)
        · rw [← hQ]
          exact W.vret hx hb hr (fun t ht hW => ⟨⟨(), rfl, trivial, (by show va_P D vwCl (wM cI ad th n np nq (va_up F 6 (tkG (okM F c0 sk k9) (nI nq) (F 6) (kP k9) np).1) T) t.heap; rw [ht, ← tk_end hgd g1 (Or.inr c_2), ← hG]; exact hP)⟩, hS.F ht⟩) hS.2.2 dX1_take_74
        · refine lv_aload_n hx hb dX1_take_24 rfl (lv_at hl 0 rfl) ?_
          refine lv_iload hx hb dX1_take_25 (lv_at hl 5 rfl) ?_
          refine lv_iload_n hx hb dX1_take_27 rfl (lv_at hl 1 rfl) ?_
          refine lv_iload_n hx hb dX1_take_28 rfl (lv_at hl 2 rfl) ?_
          refine va_calli (va_runV (As := [.int (nI p9), .int c0, .int (nI k9)]) (rest := []) ⟨hx, hb, hml, hown, hts⟩ (c_X1_isFree l D cI ad th n np nq G T p9 c0 (nI k9) hn hnp (fun p hp => by rw [hG]; exact hsk p hp) (by omega)) (cwV 3 hts gX1_take_X1_isFree rfl rfl rfl (by decide +kernel) ⟨Nat.le_trans (Nat.le_of_ble_eq_true rfl) hRf, Nat.le_trans (Nat.le_of_ble_eq_true rfl) hRl⟩) (pr_V hP (ci := 1) (q0 := 0) rfl m_at0 rfl hP hK [0] rfl V0_at V0_c) rfl rfl hl.1 rfl (lv_room (Nat.le_of_ble_eq_true rfl)) dX1_take_29 ⟨Nat.le_trans (Nat.le_of_ble_eq_true rfl) hRc, Nat.le_trans (Nat.le_of_ble_eq_true rfl) hRs⟩) hS (fun _ _ h => h.elim) (fun _ h => h.elim) (fun r_3 _ t H1 locs ht hvm hw_3 hB hz hk hS => ?_)
          have hP := P_kept hP hk
          obtain rfl := hw_3
          have eis : isF G c0 (nI k9) p9 = isFg F g c0 (nI k9) p9 := by (unfold isF isFg; rw [hG]; rfl)
          refine nb_if_eq (tgt := 68) hx hb dX1_take_32 (by decide) (fun c_4 => ?_) (fun c_4 => ?_)
          · refine lv_iinc (k := 5) (v := nI (p9 + 1)) (lv' := [(5, .int (nI (p9 + 1))), (0, .ref (ad 0)), (1, .int c0), (2, .int (nI k9)), (3, .int sk), (4, .int (nI l9))]) hx hb dX1_take_68 hl rfl (nI_add p9 1) (by decide) rfl (fun ls hl => ?_)
            refine lv_goto (tgt := 10) hx hb dX1_take_71 (by decide) ?_
            exact ih10 (p9 + 1) l9 G g _ _ _ (by omega) (by omega) (by omega) hG (tk_n hgd (by unfold okM; rw [← eis, c_4]; rfl)) hP hD hS (lv_sub hl [1, 2, 3, 4, 5, 0] rfl)
          · refine lv_iload_n hx hb dX1_take_35 rfl (lv_at hl 3 rfl) ?_
            refine lv_iconst (v := -1) hx hb dX1_take_36 (by decide) ?_
            refine lv_icmp_eq (tgt := 54) hx hb dX1_take_37 (by decide) (fun c_5 => ?_) (fun c_5 => ?_)
            · refine lv_aload_n hx hb dX1_take_54 rfl (lv_at hl 0 rfl) ?_
              refine va_get (D := D) (ci := 1) (v := .ref (ad 5)) (C := RX1) (T := TX1) (N := 12) hx hb hts hiw hown hK hP 0 m_at0 rfl 7 (by decide) (hts (.fieldLink RX1 22 "GloveCuttersModel" "pairOf" "[I") (by decide +kernel)) (fun _ h9 => h9) rfl dX1_take_55 ?_
              refine lv_iload hx hb dX1_take_58 (lv_at hl 5 rfl) ?_
              refine lv_aload_n hx hb dX1_take_60 rfl (lv_at hl 0 rfl) ?_
              refine va_get (D := D) (ci := 1) (v := .int (nI nq)) (C := RX1) (T := TX1) (N := 12) hx hb hts hiw hown hK hP 0 m_at0 rfl 9 (by decide) (hts (.fieldLink RX1 119 "GloveCuttersModel" "pairs" "I") (by decide +kernel)) (fun _ h9 => h9) rfl dX1_take_61 ?_
              refine nv_iast hx hb hK hP hD hS 5 0 m_at5 rfl (by omega) (by omega) dX1_take_64 (fun H locs hP hD hS => ?_)
              rw [m_set5] at hP hD
              obtain ⟨F_6, eF_6⟩ : ∃ z, z = va_up G 6 (upd (G 6) p9 (nI nq)) := ⟨_, rfl⟩
              rw [← eF_6] at hP hD
              refine lv_iinc (k := 4) (v := nI (l9 - 1)) (lv' := [(4, .int (nI (l9 - 1))), (0, .ref (ad 0)), (1, .int c0), (2, .int (nI k9)), (3, .int sk), (5, .int (nI p9))]) hx hb dX1_take_65 hl rfl (sb_m1 (by omega)) (by decide) rfl (fun ls hl => ?_)
              refine lv_iinc (k := 5) (v := nI (p9 + 1)) (lv' := [(5, .int (nI (p9 + 1))), (4, .int (nI (l9 - 1))), (0, .ref (ad 0)), (1, .int c0), (2, .int (nI k9)), (3, .int sk)]) hx hb dX1_take_68 hl rfl (nI_add p9 1) (by decide) rfl (fun ls hl => ?_)
              refine lv_goto (tgt := 10) hx hb dX1_take_71 (by decide) ?_
              exact ih10 (p9 + 1) (l9 - 1) F_6 (upd g p9 (nI nq)) _ _ _ (by omega) (by omega) (by omega) (by rw [eF_6, hG, uu, va_up_self]) (tk_y hgd c_2 (by unfold okM; rw [← eis, c_4, Bool.true_and]; rw [show (sk == -1) = true from beq_t c_5]; rfl)) hP hD hS (lv_sub hl [2, 3, 4, 5, 1, 0] rfl)
            · refine lv_aload_n hx hb dX1_take_40 rfl (lv_at hl 0 rfl) ?_
              refine va_get (D := D) (ci := 1) (v := .ref (ad 3)) (C := RX1) (T := TX1) (N := 12) hx hb hts hiw hown hK hP 0 m_at0 rfl 5 (by decide) (hts (.fieldLink RX1 16 "GloveCuttersModel" "skinOf" "[I") (by decide +kernel)) (fun _ h9 => h9) rfl dX1_take_41 ?_
              refine lv_iload hx hb dX1_take_44 (lv_at hl 5 rfl) ?_
              refine nv_iald hx hb hK hP 3 0 m_at3 rfl (by omega) (by omega) dX1_take_46 ?_
              refine lv_iload_n hx hb dX1_take_47 rfl (lv_at hl 3 rfl) ?_
              refine lv_icmp_eq (tgt := 54) hx hb dX1_take_48 (by decide) (fun c_7 => ?_) (fun c_7 => ?_)
              · refine lv_aload_n hx hb dX1_take_54 rfl (lv_at hl 0 rfl) ?_
                refine va_get (D := D) (ci := 1) (v := .ref (ad 5)) (C := RX1) (T := TX1) (N := 12) hx hb hts hiw hown hK hP 0 m_at0 rfl 7 (by decide) (hts (.fieldLink RX1 22 "GloveCuttersModel" "pairOf" "[I") (by decide +kernel)) (fun _ h9 => h9) rfl dX1_take_55 ?_
                refine lv_iload hx hb dX1_take_58 (lv_at hl 5 rfl) ?_
                refine lv_aload_n hx hb dX1_take_60 rfl (lv_at hl 0 rfl) ?_
                refine va_get (D := D) (ci := 1) (v := .int (nI nq)) (C := RX1) (T := TX1) (N := 12) hx hb hts hiw hown hK hP 0 m_at0 rfl 9 (by decide) (hts (.fieldLink RX1 119 "GloveCuttersModel" "pairs" "I") (by decide +kernel)) (fun _ h9 => h9) rfl dX1_take_61 ?_
                refine nv_iast hx hb hK hP hD hS 5 0 m_at5 rfl (by omega) (by omega) dX1_take_64 (fun H locs hP hD hS => ?_)
                rw [m_set5] at hP hD
                obtain ⟨F_8, eF_8⟩ : ∃ z, z = va_up G 6 (upd (G 6) p9 (nI nq)) := ⟨_, rfl⟩
                rw [← eF_8] at hP hD
                refine lv_iinc (k := 4) (v := nI (l9 - 1)) (lv' := [(4, .int (nI (l9 - 1))), (0, .ref (ad 0)), (1, .int c0), (2, .int (nI k9)), (3, .int sk), (5, .int (nI p9))]) hx hb dX1_take_65 hl rfl (sb_m1 (by omega)) (by decide) rfl (fun ls hl => ?_)
                refine lv_iinc (k := 5) (v := nI (p9 + 1)) (lv' := [(5, .int (nI (p9 + 1))), (4, .int (nI (l9 - 1))), (0, .ref (ad 0)), (1, .int c0), (2, .int (nI k9)), (3, .int sk)]) hx hb dX1_take_68 hl rfl (nI_add p9 1) (by decide) rfl (fun ls hl => ?_)
                refine lv_goto (tgt := 10) hx hb dX1_take_71 (by decide) ?_
                exact ih10 (p9 + 1) (l9 - 1) F_8 (upd g p9 (nI nq)) _ _ _ (by omega) (by omega) (by omega) (by rw [eF_8, hG, uu, va_up_self]) (tk_y hgd c_2 (by unfold okM; rw [← eis, c_4, Bool.true_and]; rw [show (F 4 p9 == sk) = true from beq_t ((show G 4 p9 = F 4 p9 by rw [hG]; rfl) ▸ c_7), Bool.or_true])) hP hD hS (lv_sub hl [2, 3, 4, 5, 1, 0] rfl)
              · refine lv_goto (tgt := 68) hx hb dX1_take_51 (by decide) ?_
                refine lv_iinc (k := 5) (v := nI (p9 + 1)) (lv' := [(5, .int (nI (p9 + 1))), (0, .ref (ad 0)), (1, .int c0), (2, .int (nI k9)), (3, .int sk), (4, .int (nI l9))]) hx hb dX1_take_68 hl rfl (nI_add p9 1) (by decide) rfl (fun ls hl => ?_)
                refine lv_goto (tgt := 10) hx hb dX1_take_71 (by decide) ?_
                exact ih10 (p9 + 1) l9 G g _ _ _ (by omega) (by omega) (by omega) hG (tk_n hgd (by unfold okM; rw [show (sk == -1) = false from beq_f c_5, show (F 4 p9 == sk) = false from beq_f (fun z => c_7 (by rw [hG]; exact z))]; exact Bool.and_false _)) hP hD hS (lv_sub hl [1, 2, 3, 4, 5, 0] rfl)
  exact L10 _ 0 (kP k9) F (F 6) _ _ _ (Nat.lt_succ_self _) (by omega) (kP_le k9).1 (va_up_id F 6).symm (by rw [tkG]) hP hD hS (lv_sub hl [2, 3, 4, 5, 1, 0] rfl)
set_option maxHeartbeats 4000000 in
set_option maxRecDepth 100000 in
/-- sew -/
theorem c_X1_sew (l : Launch) (D : va_G) (cI : ClassId) (ad : Nat → Nat) (th : Int32) (n np nq : Nat) (F : Nat → Nat → Int32) (T : Nat → Int32) (sz : Nat) (c0 : Int32) (hinj : inj ad 8) (hn : n ≤ 10) (hnp : np ≤ 150) (hnq : nq ≤ 20) (hsk : ∀ p, p < np → ∃ k, k < n ∧ F 4 p = nI k) (h12b : ∀ q, nq ≤ q → q < 20 → F 12 q = 0) : Met l yX1_sew wsX1_sew ({ frames := 4, cells := 1, slots := 5, locals := 91 } : Room) (va_Pc [.ref (ad 0), .int c0] (Pr D [(cI, .int)] (wM cI ad th n np nq F T) (fun U : State => EnvM (inB ad 8 sz) U ∧ U.heap.size = sz))) (va_Qi (S := Unit) (fun (r : Int32) (_ : Unit) => r = (spSew n np nq F c0).2) (fun (_ : Unit) (t : State) => va_P D vwCl (if (spSew n np nq F c0).1 = 0 then wM cI ad (nI 0) n np (nq + 1) (swF F n np nq c0) T else wM cI ad (nI (spSew n np nq F c0).1) n np nq F T) t.heap) (inB ad 8 sz)) 1 5 (inB ad 8 sz) := by
  refine Met.ofW (cc := cX1_sew) (maxL := 6) (ret := (some .int)) (by decide) rfl ?_
  intro p e s m args below meth c s₁ B hml hv
  obtain ⟨hargs, hP, hK, hV⟩ := hv
  obtain ⟨hV, hsz⟩ := hV
  have hA : ∀ q : Nat, s.heap.size ≤ q → (inB ad 8 sz) q := fun q h => Or.inr (by rw [← hsz]; exact h)
  have hx := B.exec
  have hb := B.bytes
  have hr := B.returns
  have hts := atoms_spec (ws := wsX1_sew) B.pre
  have hown : s.vm.findClass RX1 = some m.cls := findClass_of_methodNamed B.named
  have hlocks := B.notSynchronized
  have hS : va_S (fun _ => False) s.heap s.heap [] := va_S.rf
  have hV0 : EnvM (fun _ => False) s := EnvM.nar hV sub_no
  have hiw : ∀ w ∈ wsX10, w ∈ wsX1_sew := (fun _ h => List.mem_cons_of_mem _ (List.mem_append_right _ h))
  have hRf : 4 ≤ (headSpec wsX1_sew ({ frames := 4, cells := 1, slots := 5, locals := 91 } : Room)).room.frames := Nat.le_refl _
  have hRl : 91 ≤ (headSpec wsX1_sew ({ frames := 4, cells := 1, slots := 5, locals := 91 } : Room)).room.locals := Nat.le_refl _
  have hRc : 1 ≤ (headSpec wsX1_sew ({ frames := 4, cells := 1, slots := 5, locals := 91 } : Room)).room.cells := Nat.le_refl _
  have hRs : 5 ≤ (headSpec wsX1_sew ({ frames := 4, cells := 1, slots := 5, locals := 91 } : Room)).room.slots := Nat.le_refl _
  generalize (headSpec wsX1_sew ({ frames := 4, cells := 1, slots := 5, locals := 91 } : Room)).room = R at hRf hRl hRc hRs ⊢
  have hl := lv_entry [.ref (ad 0), .int c0] (n := 6) (Nat.le_of_ble_eq_true rfl)
  refine W.eq (show entryFrame m args 6 = _ from by rw [hargs, lg_entry_eq]) ?_
  generalize (lg_sl [.ref (ad 0), .int c0] ++ List.replicate (6 - (lg_sl [.ref (ad 0), .int c0]).length) Slot.unset).toArray = ls at hl ⊢
  have hl : lv_has ls 6 [(0, .ref (ad 0)), (1, .int c0)] := hl
  have hD : va_D (inB ad 8 sz) (wM cI ad th n np nq F T) := ((m_D hinj).weaken (fun _ _ _ h => Or.inl h))
  generalize hQ : MQ _ _ _ _ _ _ _ = Q
  refine lv_aload_n hx hb dX1_sew_0 rfl (lv_at hl 0 rfl) ?_
  refine lv_iconst (v := nI 0) hx hb dX1_sew_1 (by decide) ?_
  have hS : va_S (inB ad 8 sz) s.heap _ _ := S_mono hS
  refine va_put (D := D) (ci := 1) (v := .int (nI 0)) (ty := .int) (C := RX1) (T := TX1) (N := 12) hx hb hts hiw tyX1 tyX1_ok nmX1 hown hK hP hD hS 0 m_at0 rfl 0 (by decide) (hts (.fieldLink RX1 34 "GloveCuttersModel" "thrown" "I") (by decide +kernel)) (fun _ h9 => h9) rfl (by decide +kernel) rfl rfl (Nat.le_of_ble_eq_true rfl) dX1_sew_2 (fun H locs hP hD hS => ?_)
  have hP : va_P D vwCl (wM cI ad (nI 0) n np nq F T) H := hP
  have hD : va_D (inB ad 8 sz) (wM cI ad (nI 0) n np nq F T) := hD
  refine lv_iload_n hx hb dX1_sew_5 rfl (lv_at hl 1 rfl) ?_
  refine va_calli (va_runS (As := [.int c0]) (rest := []) ⟨hx, hb, hml, hown, hts⟩ (c_X1_isColour l D c0 ) (va_cwS 1 hts gX1_sew_X1_isColour rfl rfl rfl (by decide +kernel) ⟨Nat.le_trans (Nat.le_of_ble_eq_true rfl) hRf, Nat.le_trans (Nat.le_of_ble_eq_true rfl) hRl⟩) (pr_S (P_nil) hK [] rfl V0_at V0_c) rfl rfl hl.1 rfl (lv_room (Nat.le_of_ble_eq_true rfl)) dX1_sew_6 ⟨Nat.le_trans (Nat.le_of_ble_eq_true rfl) hRc, Nat.le_trans (Nat.le_of_ble_eq_true rfl) hRs⟩) hS (fun _ _ h => h.elim) (fun _ h => h.elim) (fun r_1 _ t H1 locs ht hvm hw_1 hB hz hk hS => ?_)
  have hP := P_kept hP hk
  obtain rfl := hw_1
  refine nb_if_ne (tgt := 18) hx hb dX1_sew_9 (by decide) (fun c_2 => ?_) (fun c_2 => ?_)
  · refine lv_aload_n hx hb dX1_sew_18 rfl (lv_at hl 0 rfl) ?_
    refine va_get (D := D) (ci := 1) (v := .int (nI nq)) (C := RX1) (T := TX1) (N := 12) hx hb hts hiw hown hK hP 0 m_at0 rfl 9 (by decide) (hts (.fieldLink RX1 119 "GloveCuttersModel" "pairs" "I") (by decide +kernel)) (fun _ h9 => h9) rfl dX1_sew_19 ?_
    refine lv_bipush (v := nI 20) hx hb dX1_sew_22 (by decide) ?_
    refine nv_icmp_eq (tgt := 35) hx hb (by omega) (by omega) dX1_sew_24 (by decide) (fun c_3 => ?_) (fun c_3 => ?_)
    · refine lv_aload_n hx hb dX1_sew_35 rfl (lv_at hl 0 rfl) ?_
      refine lv_iconst (v := nI 2) hx hb dX1_sew_36 (by decide) ?_
      refine va_calli (va_runV (As := [.int (nI 2)]) (rest := []) ⟨hx, hb, hml, hown, hts⟩ (c_X1_no l D cI ad (nI 0) n np nq F T 2 hinj) (cwV 1 hts gX1_sew_X1_no rfl rfl rfl (by decide +kernel) ⟨Nat.le_trans (Nat.le_of_ble_eq_true rfl) hRf, Nat.le_trans (Nat.le_of_ble_eq_true rfl) hRl⟩) (pr_V hP (ci := 1) (q0 := 0) rfl m_at0 rfl hP hK [0] rfl V0_at V0_c) rfl rfl hl.1 rfl (lv_room (Nat.le_of_ble_eq_true rfl)) dX1_sew_37 ⟨Nat.le_trans (Nat.le_of_ble_eq_true rfl) hRc, Nat.le_trans (Nat.le_of_ble_eq_true rfl) hRs⟩) hS (fun _ _ h => Or.inl h) (fun _ h => Or.inl h) (fun r_4 _ t H1 locs ht hvm hw_4 hB hz hk hS => ?_)
      rw [ht] at hB
      have hP := hB
      have hP : va_P D vwCl (wM cI ad (nI 2) n np nq F T) H1 := hP
      have hD : va_D (inB ad 8 sz) (wM cI ad (nI 2) n np nq F T) := ((m_D hinj).weaken (fun _ _ _ h => Or.inl h))
      obtain rfl := hw_4
      rw [← hQ]
      refine W.widen (k := 1) (n := 5) (by omega) (by omega) ?_
      exact W.iret (v := nI 0) hx hb hr (fun t ht hW => ⟨⟨nI 0, (), rfl, (congrArg Prod.snd (show spSew n np nq F c0 = (2, 0) from (by unfold spSew; rw [c_2, decide_eq_false (show ¬ nq < 20 by omega), Bool.and_false]; rfl))).symm, (by show va_P D vwCl (if (spSew n np nq F c0).1 = 0 then wM cI ad (nI 0) n np (nq + 1) (swF F n np nq c0) T else wM cI ad (nI (spSew n np nq F c0).1) n np nq F T) t.heap; rw [show spSew n np nq F c0 = (2, 0) from (by unfold spSew; rw [c_2, decide_eq_false (show ¬ nq < 20 by omega), Bool.and_false]; rfl), ht]; rw [if_neg (by decide)]; exact hP)⟩, hS.F ht⟩) hS.2.2 dX1_sew_40
    · refine lv_aload_n hx hb dX1_sew_27 rfl (lv_at hl 0 rfl) ?_
      refine lv_iload_n hx hb dX1_sew_28 rfl (lv_at hl 1 rfl) ?_
      refine va_calli (va_runV (As := [.int c0]) (rest := []) ⟨hx, hb, hml, hown, hts⟩ (c_X1_canSew l D cI ad (nI 0) n np nq F T c0 hn hnp hsk) (cwV 1 hts gX1_sew_X1_canSew rfl rfl rfl (by decide +kernel) ⟨Nat.le_trans (Nat.le_of_ble_eq_true rfl) hRf, Nat.le_trans (Nat.le_of_ble_eq_true rfl) hRl⟩) (pr_V hP (ci := 1) (q0 := 0) rfl m_at0 rfl hP hK [0] rfl (hV.at hS sub_id sub_no) EnvM_c) rfl rfl hl.1 rfl (lv_room (Nat.le_of_ble_eq_true rfl)) dX1_sew_29 ⟨Nat.le_trans (Nat.le_of_ble_eq_true rfl) hRc, Nat.le_trans (Nat.le_of_ble_eq_true rfl) hRs⟩) hS (fun _ _ h => h.elim) (fun _ h => h.elim) (fun r_5 _ t H1 locs ht hvm hw_5 hB hz hk hS => ?_)
      have hP := P_kept hP hk
      obtain rfl := hw_5
      refine nb_if_ne (tgt := 41) hx hb dX1_sew_32 (by decide) (fun c_6 => ?_) (fun c_6 => ?_)
      · refine lv_aload_n hx hb dX1_sew_41 rfl (lv_at hl 0 rfl) ?_
        refine lv_iload_n hx hb dX1_sew_42 rfl (lv_at hl 1 rfl) ?_
        refine va_calli (va_runV (As := [.int c0]) (rest := []) ⟨hx, hb, hml, hown, hts⟩ (c_X1_trankSkin l D cI ad (nI 0) n np nq F T c0 hn hnp hsk) (cwV 1 hts gX1_sew_X1_trankSkin rfl rfl rfl (by decide +kernel) ⟨Nat.le_trans (Nat.le_of_ble_eq_true rfl) hRf, Nat.le_trans (Nat.le_of_ble_eq_true rfl) hRl⟩) (pr_V hP (ci := 1) (q0 := 0) rfl m_at0 rfl hP hK [0] rfl V0_at V0_c) rfl rfl hl.1 rfl (lv_room (Nat.le_of_ble_eq_true rfl)) dX1_sew_43 ⟨Nat.le_trans (Nat.le_of_ble_eq_true rfl) hRc, Nat.le_trans (Nat.le_of_ble_eq_true rfl) hRs⟩) hS (fun _ _ h => h.elim) (fun _ h => h.elim) (fun r_7 _ t H1 locs ht hvm hw_7 hB hz hk hS => ?_)
        have hP := P_kept hP hk
        obtain rfl := hw_7
        have hts9 := canS_ts hn c_6
        obtain ⟨ts9, ets9⟩ : ∃ z, z = tsI F n np c0 := ⟨_, rfl⟩
        rw [← ets9] at hts9 ⊢
        refine lv_istore_n (lv' := [(2, .int ts9), (0, .ref (ad 0)), (1, .int c0)]) hx hb dX1_sew_46 rfl hl (by decide) rfl (fun ls hl => ?_)
        refine lv_iconst (v := nI 0) hx hb dX1_sew_47 (by decide) ?_
        refine lv_istore_n (lv' := [(3, .int (nI 0)), (2, .int ts9), (0, .ref (ad 0)), (1, .int c0)]) hx hb dX1_sew_48 rfl hl (by decide) rfl (fun ls hl => ?_)
        have L49 : ∀ (fu : Nat) (i9 : Nat) (G : Nat → Nat → Int32) (H : Heap) (locs : List Loc) (ls : Array Slot), 4 - i9 < fu → (i9 ≤ 4) → (G = va_up F 6 (tk4 F np c0 ts9 (nI nq) i9)) → va_P D vwCl (wM cI ad (nI 0) n np nq G T) H → va_D (inB ad 8 sz) (wM cI ad (nI 0) n np nq G T) → va_S (inB ad 8 sz) s.heap H locs → lv_has ls 6 [(0, .ref (ad 0)), (1, .int c0), (2, .int ts9), (3, .int (nI i9))] → W p l e R s m args below meth c H locs 0 0 Q (F0 m 49 ls []) := by
          intro fu
          induction fu with
          | zero => intro _ _ _ _ _ h; exact absurd h (Nat.not_lt_zero _)
          | succ fu ih49 =>
            intro i9 G H locs ls hm49 h1 hG hP hD hS hl
            refine lv_iload_n hx hb dX1_sew_49 rfl (lv_at hl 3 rfl) ?_
            refine lv_iconst (v := nI 4) hx hb dX1_sew_50 (by decide) ?_
            refine nv_icmp_ge (tgt := 75) hx hb (by omega) (by omega) dX1_sew_51 (by decide) (fun c_8 => ?_) (fun c_8 => ?_)
            · obtain rfl : i9 = 4 := by omega
              refine lv_iconst (v := nI 0) hx hb dX1_sew_75 (by decide) ?_
              refine lv_istore_n (lv' := [(3, .int (nI 0)), (0, .ref (ad 0)), (1, .int c0), (2, .int ts9)]) hx hb dX1_sew_76 rfl hl (by decide) rfl (fun ls hl => ?_)
              refine lv_iconst (v := nI 0) hx hb dX1_sew_77 (by decide) ?_
              refine lv_istore (lv' := [(4, .int (nI 0)), (3, .int (nI 0)), (0, .ref (ad 0)), (1, .int c0), (2, .int ts9)]) hx hb dX1_sew_78 hl (by decide) rfl (fun ls hl => ?_)
              refine lv_iconst (v := nI 0) hx hb dX1_sew_80 (by decide) ?_
              refine lv_istore (lv' := [(5, .int (nI 0)), (4, .int (nI 0)), (3, .int (nI 0)), (0, .ref (ad 0)), (1, .int c0), (2, .int ts9)]) hx hb dX1_sew_81 hl (by decide) rfl (fun ls hl => ?_)
              have L83 : ∀ (fu : Nat) (x9 : Int32) (y9 : Int32) (p9 : Nat) (H : Heap) (locs : List Loc) (ls : Array Slot), np - p9 < fu → (p9 ≤ np) → (x9 = sO (F 4) (tk4 F np c0 ts9 (nI nq) 4) (nI nq) p9) → (y9 = sS (F 7) (tk4 F np c0 ts9 (nI nq) 4) (nI nq) p9) → va_P D vwCl (wM cI ad (nI 0) n np nq G T) H → va_D (inB ad 8 sz) (wM cI ad (nI 0) n np nq G T) → va_S (inB ad 8 sz) s.heap H locs → lv_has ls 6 [(0, .ref (ad 0)), (1, .int c0), (2, .int ts9), (3, .int x9), (4, .int y9), (5, .int (nI p9))] → W p l e R s m args below meth c H locs 0 0 Q (F0 m 83 ls []) := by
                intro fu
                induction fu with
                | zero => intro _ _ _ _ _ _ h; exact absurd h (Nat.not_lt_zero _)
                | succ fu ih83 =>
                  intro x9 y9 p9 H locs ls hm83 g1 hxs hys hP hD hS hl
                  refine lv_iload hx hb dX1_sew_83 (lv_at hl 5 rfl) ?_
                  refine lv_aload_n hx hb dX1_sew_85 rfl (lv_at hl 0 rfl) ?_
                  refine va_get (D := D) (ci := 1) (v := .int (nI np)) (C := RX1) (T := TX1) (N := 12) hx hb hts hiw hown hK hP 0 m_at0 rfl 4 (by decide) (hts (.fieldLink RX1 67 "GloveCuttersModel" "pieces" "I") (by decide +kernel)) (fun _ h9 => h9) rfl dX1_sew_86 ?_
                  refine nv_icmp_ge (tgt := 139) hx hb (by omega) (by omega) dX1_sew_89 (by decide) (fun c_9 => ?_) (fun c_9 => ?_)
                  · refine lv_iconst (v := nI 5) hx hb dX1_sew_139 (by decide) ?_
                    refine nv_newa (atype := .int) (a0 := (5, .inl (fun _ => 0))) hx hb (hts (.arrayClass .int) (by decide +kernel)) rfl hK 0 rfl (fun _ h => h) hP hD hS hA (fun _ => rfl) (by decide) (by decide) (Nat.le_trans (Nat.le_of_ble_eq_true rfl) hRc) (Nat.le_trans (Nat.le_of_ble_eq_true rfl) hRs) dX1_sew_140 (fun q_10 H hP hD hS => ?_)
                    obtain ⟨f_11, ef_11⟩ : ∃ z : Nat → Int32, z = (fun _ => 0) := ⟨_, rfl⟩
                    rw [← ef_11] at hP hD
                    have hP : va_P D vwCl (wM cI ad (nI 0) n np nq G T ++ [(q_10, .inl (cI, 5, .inl f_11))]) H := hP
                    have hD : va_D (inB ad 8 sz) (wM cI ad (nI 0) n np nq G T ++ [(q_10, .inl (cI, 5, .inl f_11))]) := hD
                    refine lv_dup hx hb dX1_sew_142 rfl ?_
                    refine lv_iconst (v := nI 0) hx hb dX1_sew_143 (by decide) ?_
                    refine lv_iload_n hx hb dX1_sew_144 rfl (lv_at hl 1 rfl) ?_
                    refine nv_iast hx hb hK hP hD hS 9 0 rfl rfl (by omega) (by omega) dX1_sew_145 (fun H locs hP hD hS => ?_)
                    obtain ⟨f_12, ef_12⟩ : ∃ z, z = upd f_11 0 c0 := ⟨_, rfl⟩
                    rw [← ef_12] at hP hD
                    have hP : va_P D vwCl (wM cI ad (nI 0) n np nq G T ++ [(q_10, .inl (cI, 5, .inl f_12))]) H := hP
                    have hD : va_D (inB ad 8 sz) (wM cI ad (nI 0) n np nq G T ++ [(q_10, .inl (cI, 5, .inl f_12))]) := hD
                    refine lv_dup hx hb dX1_sew_146 rfl ?_
                    refine lv_iconst (v := nI 1) hx hb dX1_sew_147 (by decide) ?_
                    refine lv_iload_n hx hb dX1_sew_148 rfl (lv_at hl 2 rfl) ?_
                    refine nv_iast hx hb hK hP hD hS 9 0 rfl rfl (by omega) (by omega) dX1_sew_149 (fun H locs hP hD hS => ?_)
                    obtain ⟨f_13, ef_13⟩ : ∃ z, z = upd f_12 1 ts9 := ⟨_, rfl⟩
                    rw [← ef_13] at hP hD
                    have hP : va_P D vwCl (wM cI ad (nI 0) n np nq G T ++ [(q_10, .inl (cI, 5, .inl f_13))]) H := hP
                    have hD : va_D (inB ad 8 sz) (wM cI ad (nI 0) n np nq G T ++ [(q_10, .inl (cI, 5, .inl f_13))]) := hD
                    refine lv_dup hx hb dX1_sew_150 rfl ?_
                    refine lv_iconst (v := nI 2) hx hb dX1_sew_151 (by decide) ?_
                    refine lv_iload_n hx hb dX1_sew_152 rfl (lv_at hl 3 rfl) ?_
                    refine va_calli (va_runS (As := [.int x9]) (rest := [.int (nI 2), .ref q_10, .ref q_10]) ⟨hx, hb, hml, hown, hts⟩ (c_J6_bitCount_0f7a4 l D x9 ) (va_cwS 1 hts gX1_sew_J6_bitCount_0f7a4 rfl rfl rfl (by decide +kernel) ⟨Nat.le_trans (Nat.le_of_ble_eq_true rfl) hRf, Nat.le_trans (Nat.le_of_ble_eq_true rfl) hRl⟩) (pr_S (P_nil) hK [] rfl V0_at V0_c) rfl rfl hl.1 rfl (lv_room (Nat.le_of_ble_eq_true rfl)) dX1_sew_153 ⟨Nat.le_trans (Nat.le_of_ble_eq_true rfl) hRc, Nat.le_trans (Nat.le_of_ble_eq_true rfl) hRs⟩) hS (fun _ _ h => h.elim) (fun _ h => h.elim) (fun r_14 _ t H1 locs ht hvm hw_14 hB hz hk hS => ?_)
                    have hP := P_kept hP hk
                    obtain rfl := hw_14
                    refine nv_iast hx hb hK hP hD hS 9 0 rfl rfl (by omega) (by omega) dX1_sew_156 (fun H locs hP hD hS => ?_)
                    obtain ⟨f_15, ef_15⟩ : ∃ z, z = upd f_13 2 (bcI x9) := ⟨_, rfl⟩
                    rw [← ef_15] at hP hD
                    have hP : va_P D vwCl (wM cI ad (nI 0) n np nq G T ++ [(q_10, .inl (cI, 5, .inl f_15))]) H := hP
                    have hD : va_D (inB ad 8 sz) (wM cI ad (nI 0) n np nq G T ++ [(q_10, .inl (cI, 5, .inl f_15))]) := hD
                    refine lv_dup hx hb dX1_sew_157 rfl ?_
                    refine lv_iconst (v := nI 3) hx hb dX1_sew_158 (by decide) ?_
                    refine lv_iload hx hb dX1_sew_159 (lv_at hl 4 rfl) ?_
                    refine nv_iast hx hb hK hP hD hS 9 0 rfl rfl (by omega) (by omega) dX1_sew_161 (fun H locs hP hD hS => ?_)
                    obtain ⟨f_16, ef_16⟩ : ∃ z, z = upd f_15 3 y9 := ⟨_, rfl⟩
                    rw [← ef_16] at hP hD
                    have hP : va_P D vwCl (wM cI ad (nI 0) n np nq G T ++ [(q_10, .inl (cI, 5, .inl f_16))]) H := hP
                    have hD : va_D (inB ad 8 sz) (wM cI ad (nI 0) n np nq G T ++ [(q_10, .inl (cI, 5, .inl f_16))]) := hD
                    refine lv_dup hx hb dX1_sew_162 rfl ?_
                    refine lv_iconst (v := nI 4) hx hb dX1_sew_163 (by decide) ?_
                    refine lv_iconst (v := nI 0) hx hb dX1_sew_164 (by decide) ?_
                    refine nv_iast hx hb hK hP hD hS 9 0 rfl rfl (by omega) (by omega) dX1_sew_165 (fun H locs hP hD hS => ?_)
                    obtain ⟨f_17, ef_17⟩ : ∃ z, z = upd f_16 4 (nI 0) := ⟨_, rfl⟩
                    rw [← ef_17] at hP hD
                    have hP : va_P D vwCl (wM cI ad (nI 0) n np nq G T ++ [(q_10, .inl (cI, 5, .inl f_17))]) H := hP
                    have hD : va_D (inB ad 8 sz) (wM cI ad (nI 0) n np nq G T ++ [(q_10, .inl (cI, 5, .inl f_17))]) := hD
                    refine lv_astore (lv' := [(5, .ref q_10), (0, .ref (ad 0)), (1, .int c0), (2, .int ts9), (3, .int x9), (4, .int y9)]) hx hb dX1_sew_166 hl (by decide) rfl (fun ls hl => ?_)
                    refine lv_aload hx hb dX1_sew_168 (lv_at hl 0 rfl) ?_
                    refine lv_iconst (v := nI 0) hx hb dX1_sew_170 (by decide) ?_
                    refine lv_aload_n hx hb dX1_sew_171 rfl (lv_at hl 1 rfl) ?_
                    refine va_get (D := D) (ci := 1) (v := .ref (ad 7)) (C := RX1) (T := TX1) (N := 12) hx hb hts hiw hown hK hP 0 (ap_l m_at0) rfl 10 (by decide) (hts (.fieldLink RX1 28 "GloveCuttersModel" "book" "[I") (by decide +kernel)) (fun _ h9 => h9) rfl dX1_sew_172 ?_
                    refine lv_iconst (v := nI 5) hx hb dX1_sew_175 (by decide) ?_
                    refine lv_aload_n hx hb dX1_sew_176 rfl (lv_at hl 1 rfl) ?_
                    refine va_get (D := D) (ci := 1) (v := .int (nI nq)) (C := RX1) (T := TX1) (N := 12) hx hb hts hiw hown hK hP 0 (ap_l m_at0) rfl 9 (by decide) (hts (.fieldLink RX1 119 "GloveCuttersModel" "pairs" "I") (by decide +kernel)) (fun _ h9 => h9) rfl dX1_sew_177 ?_
                    refine nv_imul hx hb dX1_sew_180 ?_
                    refine lv_iconst (v := nI 5) hx hb dX1_sew_181 (by decide) ?_
                    have hcl9 : (nI (5 * nq)).toNatClampNeg = 5 * nq := nI_clamp (by omega)
                    refine va_copyi (rest := []) hx hb (hml.trans hl.1.symm) hown (hts (.methodLink RX1 134 arraycopyName) (by decide +kernel)) (hts (.native arraycopyName) (by decide +kernel)) (hts (.static arraycopyName) (by decide +kernel)) (hts (.initialized "java/lang/System") (by decide +kernel)) hK hP hD hS 9 7 0 0 rfl (ap_l m_at7) rfl rfl rfl (by decide) (nI_pos (by omega)) (by decide) (by decide) (by rw [hcl9]; show 5 * nq + 5 ≤ 100; omega) (fun _ _ => rfl) (Nat.le_trans (Nat.le_of_ble_eq_true rfl) hRf) (Nat.le_trans (Nat.le_of_ble_eq_true rfl) hRl) dX1_sew_182 (fun H locs hP hD hS => ?_)
                    have hP := P_dropS (k := 7) (by rw [m_len]; decide) hP
                    rw [hcl9, show (nI 0).toNatClampNeg = 0 from rfl, show (nI 5).toNatClampNeg = 5 from rfl, cpy_book (c := f_17) (v0 := c0) (v1 := ts9) (v2 := bcI x9) (v3 := y9) (by rw [ef_17, ef_16, ef_15, ef_13, ef_12, ef_11]; rfl) (by rw [ef_17, ef_16, ef_15, ef_13, ef_12, ef_11]; rfl) (by rw [ef_17, ef_16, ef_15, ef_13, ef_12, ef_11]; rfl) (by rw [ef_17, ef_16, ef_15, ef_13, ef_12, ef_11]; rfl) (show f_17 4 = G 12 nq from (by rw [ef_17, ef_16, ef_15, ef_13, ef_12, ef_11]; rfl : f_17 4 = nI 0).trans (by rw [hG]; exact (h12b nq (Nat.le_refl _) (by omega)).symm)), m_set7 rfl (fun k hk => by rw [va_up_ne _ _ (by omega), va_up_ne _ _ (by omega), va_up_ne _ _ (by omega), va_up_ne _ _ (by omega)])] at hP
                    obtain ⟨F_18, eF_18⟩ : ∃ z, z = va_up (va_up (va_up (va_up G 8 (upd (G 8) nq c0)) 9 (upd (G 9) nq ts9)) 10 (upd (G 10) nq (bcI x9))) 11 (upd (G 11) nq y9) := ⟨_, rfl⟩
                    rw [← eF_18] at hP
                    have hD : va_D (inB ad 8 sz) (wM cI ad (nI 0) n np nq F_18 T) := ((m_D hinj).weaken (fun _ _ _ h => Or.inl h))
                    refine lv_aload_n hx hb dX1_sew_185 rfl (lv_at hl 1 rfl) ?_
                    refine lv_dup hx hb dX1_sew_186 rfl ?_
                    refine va_get (D := D) (ci := 1) (v := .int (nI nq)) (C := RX1) (T := TX1) (N := 12) hx hb hts hiw hown hK hP 0 m_at0 rfl 9 (by decide) (hts (.fieldLink RX1 119 "GloveCuttersModel" "pairs" "I") (by decide +kernel)) (fun _ h9 => h9) rfl dX1_sew_187 ?_
                    refine lv_iconst (v := nI 1) hx hb dX1_sew_190 (by decide) ?_
                    refine nv_iadd hx hb dX1_sew_191 ?_
                    refine va_put (D := D) (ci := 1) (v := .int (nI (nq + 1))) (ty := .int) (C := RX1) (T := TX1) (N := 12) hx hb hts hiw tyX1 tyX1_ok nmX1 hown hK hP hD hS 0 m_at0 rfl 9 (by decide) (hts (.fieldLink RX1 119 "GloveCuttersModel" "pairs" "I") (by decide +kernel)) (fun _ h9 => h9) rfl (by decide +kernel) rfl rfl (Nat.le_of_ble_eq_true rfl) dX1_sew_192 (fun H locs hP hD hS => ?_)
                    have hP : va_P D vwCl (wM cI ad (nI 0) n np (nq + 1) F_18 T) H := hP
                    have hD : va_D (inB ad 8 sz) (wM cI ad (nI 0) n np (nq + 1) F_18 T) := hD
                    refine lv_aload_n hx hb dX1_sew_195 rfl (lv_at hl 1 rfl) ?_
                    refine va_get (D := D) (ci := 1) (v := .int (nI (nq + 1))) (C := RX1) (T := TX1) (N := 12) hx hb hts hiw hown hK hP 0 m_at0 rfl 9 (by decide) (hts (.fieldLink RX1 119 "GloveCuttersModel" "pairs" "I") (by decide +kernel)) (fun _ h9 => h9) rfl dX1_sew_196 ?_
                    refine lv_iconst (v := nI 1) hx hb dX1_sew_199 (by decide) ?_
                    refine nv_isub hx hb (by omega) dX1_sew_200 ?_
                    rw [← hQ]
                    exact W.iret (v := nI ((nq + 1) - 1)) hx hb hr (fun t ht hW => ⟨⟨nI ((nq + 1) - 1), (), rfl, (congrArg Prod.snd (show spSew n np nq F c0 = (0, nI (nq + 1 - 1)) from (by rw [show nq + 1 - 1 = nq by omega]; unfold spSew; rw [c_2, c_6, decide_eq_true (show nq < 20 by omega)]; rfl))).symm, (by show va_P D vwCl (if (spSew n np nq F c0).1 = 0 then wM cI ad (nI 0) n np (nq + 1) (swF F n np nq c0) T else wM cI ad (nI (spSew n np nq F c0).1) n np nq F T) t.heap; rw [show spSew n np nq F c0 = (0, nI (nq + 1 - 1)) from (by rw [show nq + 1 - 1 = nq by omega]; unfold spSew; rw [c_2, c_6, decide_eq_true (show nq < 20 by omega)]; rfl), ht]; rw [if_pos rfl]; have e8 : swF F n np nq c0 = F_18 := (by rw [eF_18, hG, hxs, hys, show p9 = np by omega]; unfold swF swG swB; rw [← ets9]; exact (swF_eq F _ _ _ _ _).symm); rw [e8]; exact hP)⟩, hS.F ht⟩) hS.2.2 dX1_sew_201
                  · refine lv_aload_n hx hb dX1_sew_92 rfl (lv_at hl 0 rfl) ?_
                    refine va_get (D := D) (ci := 1) (v := .ref (ad 5)) (C := RX1) (T := TX1) (N := 12) hx hb hts hiw hown hK hP 0 m_at0 rfl 7 (by decide) (hts (.fieldLink RX1 22 "GloveCuttersModel" "pairOf" "[I") (by decide +kernel)) (fun _ h9 => h9) rfl dX1_sew_93 ?_
                    refine lv_iload hx hb dX1_sew_96 (lv_at hl 5 rfl) ?_
                    refine nv_iald hx hb hK hP 5 0 m_at5 rfl (by omega) (by omega) dX1_sew_98 ?_
                    refine lv_aload_n hx hb dX1_sew_99 rfl (lv_at hl 0 rfl) ?_
                    refine va_get (D := D) (ci := 1) (v := .int (nI nq)) (C := RX1) (T := TX1) (N := 12) hx hb hts hiw hown hK hP 0 m_at0 rfl 9 (by decide) (hts (.fieldLink RX1 119 "GloveCuttersModel" "pairs" "I") (by decide +kernel)) (fun _ h9 => h9) rfl dX1_sew_100 ?_
                    refine lv_icmp_eq (tgt := 109) hx hb dX1_sew_103 (by decide) (fun c_19 => ?_) (fun c_19 => ?_)
                    · refine lv_iload_n hx hb dX1_sew_109 rfl (lv_at hl 3 rfl) ?_
                      refine lv_iconst (v := nI 1) hx hb dX1_sew_110 (by decide) ?_
                      refine lv_aload_n hx hb dX1_sew_111 rfl (lv_at hl 0 rfl) ?_
                      refine va_get (D := D) (ci := 1) (v := .ref (ad 3)) (C := RX1) (T := TX1) (N := 12) hx hb hts hiw hown hK hP 0 m_at0 rfl 5 (by decide) (hts (.fieldLink RX1 16 "GloveCuttersModel" "skinOf" "[I") (by decide +kernel)) (fun _ h9 => h9) rfl dX1_sew_112 ?_
                      refine lv_iload hx hb dX1_sew_115 (lv_at hl 5 rfl) ?_
                      refine nv_iald hx hb hK hP 3 0 m_at3 rfl (by omega) (by omega) dX1_sew_117 ?_
                      refine lv_ishl hx hb dX1_sew_118 ?_
                      refine lv_ior hx hb dX1_sew_119 ?_
                      refine lv_istore_n (lv' := [(3, .int (x9 ||| ((nI 1) <<< ((G 4 p9) &&& 31)))), (0, .ref (ad 0)), (1, .int c0), (2, .int ts9), (4, .int y9), (5, .int (nI p9))]) hx hb dX1_sew_120 rfl hl (by decide) rfl (fun ls hl => ?_)
                      refine lv_iload hx hb dX1_sew_121 (lv_at hl 4 rfl) ?_
                      refine lv_aload_n hx hb dX1_sew_123 rfl (lv_at hl 1 rfl) ?_
                      refine va_get (D := D) (ci := 1) (v := .ref (ad 6)) (C := RX1) (T := TX1) (N := 12) hx hb hts hiw hown hK hP 0 m_at0 rfl 8 (by decide) (hts (.fieldLink RX1 25 "GloveCuttersModel" "thinOf" "[I") (by decide +kernel)) (fun _ h9 => h9) rfl dX1_sew_124 ?_
                      refine lv_iload hx hb dX1_sew_127 (lv_at hl 5 rfl) ?_
                      refine nv_iald hx hb hK hP 6 0 m_at6 rfl (by omega) (by omega) dX1_sew_129 ?_
                      refine lv_iadd hx hb dX1_sew_130 ?_
                      refine lv_istore (lv' := [(4, .int (y9 + (G 7 p9))), (3, .int (x9 ||| ((nI 1) <<< ((G 4 p9) &&& 31)))), (0, .ref (ad 0)), (1, .int c0), (2, .int ts9), (5, .int (nI p9))]) hx hb dX1_sew_131 hl (by decide) rfl (fun ls hl => ?_)
                      refine lv_iinc (k := 5) (v := nI (p9 + 1)) (lv' := [(5, .int (nI (p9 + 1))), (4, .int (y9 + (G 7 p9))), (3, .int (x9 ||| ((nI 1) <<< ((G 4 p9) &&& 31)))), (0, .ref (ad 0)), (1, .int c0), (2, .int ts9)]) hx hb dX1_sew_133 hl rfl (nI_add p9 1) (by decide) rfl (fun ls hl => ?_)
                      refine lv_goto (tgt := 83) hx hb dX1_sew_136 (by decide) ?_
                      exact ih83 (x9 ||| ((nI 1) <<< ((G 4 p9) &&& 31))) (y9 + (G 7 p9)) (p9 + 1) _ _ _ (by omega) (by omega) (by rw [sO, if_pos (beq_t (show tk4 F np c0 ts9 (nI nq) 4 p9 = nI nq by have q9 := c_19; rw [hG, va_up_self] at q9; exact q9)), ← hxs]; rw [hG]; rfl) (by rw [sS, if_pos (beq_t (show tk4 F np c0 ts9 (nI nq) 4 p9 = nI nq by have q9 := c_19; rw [hG, va_up_self] at q9; exact q9)), ← hys]; rw [hG]; rfl) hP hD hS (lv_sub hl [3, 4, 5, 2, 1, 0] rfl)
                    · refine lv_goto (tgt := 133) hx hb dX1_sew_106 (by decide) ?_
                      refine lv_iinc (k := 5) (v := nI (p9 + 1)) (lv' := [(5, .int (nI (p9 + 1))), (0, .ref (ad 0)), (1, .int c0), (2, .int ts9), (3, .int x9), (4, .int y9)]) hx hb dX1_sew_133 hl rfl (nI_add p9 1) (by decide) rfl (fun ls hl => ?_)
                      refine lv_goto (tgt := 83) hx hb dX1_sew_136 (by decide) ?_
                      exact ih83 x9 y9 (p9 + 1) _ _ _ (by omega) (by omega) (by rw [sO, if_neg (by rw [beq_f (fun q9 => c_19 (by rw [hG, va_up_self]; exact q9))]; decide)]; exact hxs) (by rw [sS, if_neg (by rw [beq_f (fun q9 => c_19 (by rw [hG, va_up_self]; exact q9))]; decide)]; exact hys) hP hD hS (lv_sub hl [1, 2, 3, 4, 5, 0] rfl)
              exact L83 _ (nI 0) (nI 0) 0 _ _ _ (Nat.lt_succ_self _) (by omega) rfl rfl hP hD hS (lv_sub hl [3, 4, 5, 2, 1, 0] rfl)
            · refine lv_aload_n hx hb dX1_sew_54 rfl (lv_at hl 0 rfl) ?_
              refine lv_iload_n hx hb dX1_sew_55 rfl (lv_at hl 1 rfl) ?_
              refine lv_iload_n hx hb dX1_sew_56 rfl (lv_at hl 3 rfl) ?_
              refine lv_iload_n hx hb dX1_sew_57 rfl (lv_at hl 3 rfl) ?_
              refine nv_if_ne (tgt := 65) hx hb (by omega) dX1_sew_58 (by decide) (fun c_20 => ?_) (fun c_20 => ?_)
              · refine lv_iconst (v := -1) hx hb dX1_sew_65 (by decide) ?_
                refine va_callv (va_runV (As := [.int c0, .int (nI i9), .int (-1)]) (rest := []) ⟨hx, hb, hml, hown, hts⟩ (c_X1_take l D cI ad (nI 0) n np nq G T c0 i9 (-1) hinj hn hnp hnq (fun p hp => by rw [hG]; exact hsk p hp) (by omega)) (cwV 3 hts gX1_sew_X1_take rfl rfl rfl (by decide +kernel) ⟨Nat.le_trans (Nat.le_of_ble_eq_true rfl) hRf, Nat.le_trans (Nat.le_of_ble_eq_true rfl) hRl⟩) (pr_V hP (ci := 1) (q0 := 0) rfl m_at0 rfl hP hK [0] rfl (hV.at hS sub_id (fun _ h => Or.inl h)) EnvM_c) rfl rfl hl.1 rfl (lv_room (Nat.le_of_ble_eq_true rfl)) dX1_sew_66 ⟨Nat.le_trans (Nat.le_of_ble_eq_true rfl) hRc, Nat.le_trans (Nat.le_of_ble_eq_true rfl) hRs⟩) hS (fun _ _ h => Or.inl h) (fun _ h => Or.inl h) (fun _ t H1 locs ht hvm hw_21 hB hz hk hS => ?_)
                rw [ht] at hB
                have hP := hB
                have hP : va_P D vwCl (wM cI ad (nI 0) n np nq (va_up G 6 (tkG (okM G c0 (-1) i9) (nI nq) (G 6) (kP i9) np).1) T) H1 := hP
                have hD : va_D (inB ad 8 sz) (wM cI ad (nI 0) n np nq (va_up G 6 (tkG (okM G c0 (-1) i9) (nI nq) (G 6) (kP i9) np).1) T) := ((m_D hinj).weaken (fun _ _ _ h => Or.inl h))
                obtain ⟨F_22, eF_22⟩ : ∃ z, z = va_up G 6 (tkG (okM G c0 (-1) i9) (nI nq) (G 6) (kP i9) np).1 := ⟨_, rfl⟩
                rw [← eF_22] at hP hD
                refine lv_iinc (k := 3) (v := nI (i9 + 1)) (lv' := [(3, .int (nI (i9 + 1))), (0, .ref (ad 0)), (1, .int c0), (2, .int ts9)]) hx hb dX1_sew_69 hl rfl (nI_add i9 1) (by decide) rfl (fun ls hl => ?_)
                refine lv_goto (tgt := 49) hx hb dX1_sew_72 (by decide) ?_
                exact ih49 (i9 + 1) F_22 _ _ _ (by omega) (by omega) (by rw [eF_22, hG, uu, va_up_self]; show va_up F 6 (tkG (okM F c0 (-1) i9) (nI nq) (tk4 F np c0 ts9 (nI nq) i9) (kP i9) np).1 = _; rw [show okM F c0 (-1) i9 = okP F c0 ts9 i9 from by rw [← okM_P hts9, if_neg (by omega)]]; rfl) hP hD hS (lv_sub hl [1, 2, 3, 0] rfl)
              · refine lv_iload_n hx hb dX1_sew_61 rfl (lv_at hl 2 rfl) ?_
                refine lv_goto (tgt := 66) hx hb dX1_sew_62 (by decide) ?_
                refine va_callv (va_runV (As := [.int c0, .int (nI i9), .int ts9]) (rest := []) ⟨hx, hb, hml, hown, hts⟩ (c_X1_take l D cI ad (nI 0) n np nq G T c0 i9 ts9 hinj hn hnp hnq (fun p hp => by rw [hG]; exact hsk p hp) (by omega)) (cwV 3 hts gX1_sew_X1_take rfl rfl rfl (by decide +kernel) ⟨Nat.le_trans (Nat.le_of_ble_eq_true rfl) hRf, Nat.le_trans (Nat.le_of_ble_eq_true rfl) hRl⟩) (pr_V hP (ci := 1) (q0 := 0) rfl m_at0 rfl hP hK [0] rfl (hV.at hS sub_id (fun _ h => Or.inl h)) EnvM_c) rfl rfl hl.1 rfl (lv_room (Nat.le_of_ble_eq_true rfl)) dX1_sew_66 ⟨Nat.le_trans (Nat.le_of_ble_eq_true rfl) hRc, Nat.le_trans (Nat.le_of_ble_eq_true rfl) hRs⟩) hS (fun _ _ h => Or.inl h) (fun _ h => Or.inl h) (fun _ t H1 locs ht hvm hw_23 hB hz hk hS => ?_)
                rw [ht] at hB
                have hP := hB
                have hP : va_P D vwCl (wM cI ad (nI 0) n np nq (va_up G 6 (tkG (okM G c0 ts9 i9) (nI nq) (G 6) (kP i9) np).1) T) H1 := hP
                have hD : va_D (inB ad 8 sz) (wM cI ad (nI 0) n np nq (va_up G 6 (tkG (okM G c0 ts9 i9) (nI nq) (G 6) (kP i9) np).1) T) := ((m_D hinj).weaken (fun _ _ _ h => Or.inl h))
                obtain ⟨F_24, eF_24⟩ : ∃ z, z = va_up G 6 (tkG (okM G c0 ts9 i9) (nI nq) (G 6) (kP i9) np).1 := ⟨_, rfl⟩
                rw [← eF_24] at hP hD
                refine lv_iinc (k := 3) (v := nI (i9 + 1)) (lv' := [(3, .int (nI (i9 + 1))), (0, .ref (ad 0)), (1, .int c0), (2, .int ts9)]) hx hb dX1_sew_69 hl rfl (nI_add i9 1) (by decide) rfl (fun ls hl => ?_)
                refine lv_goto (tgt := 49) hx hb dX1_sew_72 (by decide) ?_
                exact ih49 (i9 + 1) F_24 _ _ _ (by omega) (by omega) (by rw [eF_24, hG, uu, va_up_self]; show va_up F 6 (tkG (okM F c0 ts9 i9) (nI nq) (tk4 F np c0 ts9 (nI nq) i9) (kP i9) np).1 = _; rw [show okM F c0 ts9 i9 = okP F c0 ts9 i9 from by rw [← okM_P hts9, if_pos c_20]]; rfl) hP hD hS (lv_sub hl [1, 2, 3, 0] rfl)
        exact L49 _ 0 F _ _ _ (Nat.lt_succ_self _) (by omega) (va_up_id F 6).symm hP hD hS (lv_sub hl [2, 3, 1, 0] rfl)
      · refine lv_aload_n hx hb dX1_sew_35 rfl (lv_at hl 0 rfl) ?_
        refine lv_iconst (v := nI 2) hx hb dX1_sew_36 (by decide) ?_
        refine va_calli (va_runV (As := [.int (nI 2)]) (rest := []) ⟨hx, hb, hml, hown, hts⟩ (c_X1_no l D cI ad (nI 0) n np nq F T 2 hinj) (cwV 1 hts gX1_sew_X1_no rfl rfl rfl (by decide +kernel) ⟨Nat.le_trans (Nat.le_of_ble_eq_true rfl) hRf, Nat.le_trans (Nat.le_of_ble_eq_true rfl) hRl⟩) (pr_V hP (ci := 1) (q0 := 0) rfl m_at0 rfl hP hK [0] rfl V0_at V0_c) rfl rfl hl.1 rfl (lv_room (Nat.le_of_ble_eq_true rfl)) dX1_sew_37 ⟨Nat.le_trans (Nat.le_of_ble_eq_true rfl) hRc, Nat.le_trans (Nat.le_of_ble_eq_true rfl) hRs⟩) hS (fun _ _ h => Or.inl h) (fun _ h => Or.inl h) (fun r_25 _ t H1 locs ht hvm hw_25 hB hz hk hS => ?_)
        rw [ht] at hB
        have hP := hB
        have hP : va_P D vwCl (wM cI ad (nI 2) n np nq F T) H1 := hP
        have hD : va_D (inB ad 8 sz) (wM cI ad (nI 2) n np nq F T) := ((m_D hinj).weaken (fun _ _ _ h => Or.inl h))
        obtain rfl := hw_25
        rw [← hQ]
        refine W.widen (k := 1) (n := 5) (by omega) (by omega) ?_
        exact W.iret (v := nI 0) hx hb hr (fun t ht hW => ⟨⟨nI 0, (), rfl, (congrArg Prod.snd (show spSew n np nq F c0 = (2, 0) from (by unfold spSew; rw [c_2, c_6]; rfl))).symm, (by show va_P D vwCl (if (spSew n np nq F c0).1 = 0 then wM cI ad (nI 0) n np (nq + 1) (swF F n np nq c0) T else wM cI ad (nI (spSew n np nq F c0).1) n np nq F T) t.heap; rw [show spSew n np nq F c0 = (2, 0) from (by unfold spSew; rw [c_2, c_6]; rfl), ht]; rw [if_neg (by decide)]; exact hP)⟩, hS.F ht⟩) hS.2.2 dX1_sew_40
  · refine lv_aload_n hx hb dX1_sew_12 rfl (lv_at hl 0 rfl) ?_
    refine lv_iconst (v := nI 1) hx hb dX1_sew_13 (by decide) ?_
    refine va_calli (va_runV (As := [.int (nI 1)]) (rest := []) ⟨hx, hb, hml, hown, hts⟩ (c_X1_no l D cI ad (nI 0) n np nq F T 1 hinj) (cwV 1 hts gX1_sew_X1_no rfl rfl rfl (by decide +kernel) ⟨Nat.le_trans (Nat.le_of_ble_eq_true rfl) hRf, Nat.le_trans (Nat.le_of_ble_eq_true rfl) hRl⟩) (pr_V hP (ci := 1) (q0 := 0) rfl m_at0 rfl hP hK [0] rfl V0_at V0_c) rfl rfl hl.1 rfl (lv_room (Nat.le_of_ble_eq_true rfl)) dX1_sew_14 ⟨Nat.le_trans (Nat.le_of_ble_eq_true rfl) hRc, Nat.le_trans (Nat.le_of_ble_eq_true rfl) hRs⟩) hS (fun _ _ h => Or.inl h) (fun _ h => Or.inl h) (fun r_26 _ t H1 locs ht hvm hw_26 hB hz hk hS => ?_)
    rw [ht] at hB
    have hP := hB
    have hP : va_P D vwCl (wM cI ad (nI 1) n np nq F T) H1 := hP
    have hD : va_D (inB ad 8 sz) (wM cI ad (nI 1) n np nq F T) := ((m_D hinj).weaken (fun _ _ _ h => Or.inl h))
    obtain rfl := hw_26
    rw [← hQ]
    refine W.widen (k := 1) (n := 5) (by omega) (by omega) ?_
    exact W.iret (v := nI 0) hx hb hr (fun t ht hW => ⟨⟨nI 0, (), rfl, (congrArg Prod.snd (show spSew n np nq F c0 = (1, 0) from (by unfold spSew; rw [c_2]; rfl))).symm, (by show va_P D vwCl (if (spSew n np nq F c0).1 = 0 then wM cI ad (nI 0) n np (nq + 1) (swF F n np nq c0) T else wM cI ad (nI (spSew n np nq F c0).1) n np nq F T) t.heap; rw [show spSew n np nq F c0 = (1, 0) from (by unfold spSew; rw [c_2]; rfl), ht]; rw [if_neg (by decide)]; exact hP)⟩, hS.F ht⟩) hS.2.2 dX1_sew_17
set_option maxHeartbeats 4000000 in
set_option maxRecDepth 100000 in
/-- counted -/
theorem c_X1_counted (l : Launch) (D : va_G) (cI : ClassId) (ad : Nat → Nat) (th : Int32) (n np nq : Nat) (F : Nat → Nat → Int32) (T : Nat → Int32) (sz w0 : Nat) (hinj : inj ad 8) (hnp : np ≤ 150) (hnq : nq ≤ 20) (hrip : ∀ q, q < nq → F 12 q = 0 ∨ F 12 q = 1) (hw : w0 < 7) : Met l yX1_counted wsX1_counted ({ frames := 0, cells := 2, slots := 10, locals := 0 } : Room) (va_Pc [.ref (ad 0), .int (nI w0)] (Pr D [(cI, .int)] (wM cI ad th n np nq F T) (fun U : State => U.heap.size = sz))) (va_Qi (S := Unit) (fun (r : Int32) (_ : Unit) => r = cnT n np nq F w0) (fun (_ : Unit) (t : State) => va_P D vwCl (wM cI ad th n np nq F T) t.heap) (inB ad 8 sz)) 2 10 (inB ad 8 sz) := by
  refine Met.ofW (cc := cX1_counted) (maxL := 5) (ret := (some .int)) (by decide) rfl ?_
  intro p e s m args below meth c s₁ B hml hv
  obtain ⟨hargs, hP, hK, hV⟩ := hv
  have hsz := hV
  have hA : ∀ q : Nat, s.heap.size ≤ q → (inB ad 8 sz) q := fun q h => Or.inr (by rw [← hsz]; exact h)
  have hx := B.exec
  have hb := B.bytes
  have hr := B.returns
  have hts := atoms_spec (ws := wsX1_counted) B.pre
  have hown : s.vm.findClass RX1 = some m.cls := findClass_of_methodNamed B.named
  have hlocks := B.notSynchronized
  have hS : va_S (fun _ => False) s.heap s.heap [] := va_S.rf
  have hiw : ∀ w ∈ wsX10, w ∈ wsX1_counted := (fun _ h => List.mem_cons_of_mem _ (List.mem_append_right _ h))
  have hRf : 0 ≤ (headSpec wsX1_counted ({ frames := 0, cells := 2, slots := 10, locals := 0 } : Room)).room.frames := Nat.le_refl _
  have hRl : 0 ≤ (headSpec wsX1_counted ({ frames := 0, cells := 2, slots := 10, locals := 0 } : Room)).room.locals := Nat.le_refl _
  have hRc : 2 ≤ (headSpec wsX1_counted ({ frames := 0, cells := 2, slots := 10, locals := 0 } : Room)).room.cells := Nat.le_refl _
  have hRs : 10 ≤ (headSpec wsX1_counted ({ frames := 0, cells := 2, slots := 10, locals := 0 } : Room)).room.slots := Nat.le_refl _
  generalize (headSpec wsX1_counted ({ frames := 0, cells := 2, slots := 10, locals := 0 } : Room)).room = R at hRf hRl hRc hRs ⊢
  have hl := lv_entry [.ref (ad 0), .int (nI w0)] (n := 5) (Nat.le_of_ble_eq_true rfl)
  refine W.eq (show entryFrame m args 5 = _ from by rw [hargs, lg_entry_eq]) ?_
  generalize (lg_sl [.ref (ad 0), .int (nI w0)] ++ List.replicate (5 - (lg_sl [.ref (ad 0), .int (nI w0)]).length) Slot.unset).toArray = ls at hl ⊢
  have hl : lv_has ls 5 [(0, .ref (ad 0)), (1, .int (nI w0))] := hl
  have hD : va_D (inB ad 8 sz) (wM cI ad th n np nq F T) := ((m_D hinj).weaken (fun _ _ _ h => Or.inl h))
  generalize hQ : MQ _ _ _ _ _ _ _ = Q
  refine lv_iconst (v := nI 3) hx hb dX1_counted_0 (by decide) ?_
  have hS : va_S (inB ad 8 sz) s.heap _ _ := S_mono hS
  refine nv_newa (atype := .int) (a0 := (3, .inl (fun _ => 0))) hx hb (hts (.arrayClass .int) (by decide +kernel)) rfl hK 0 rfl (fun _ h => h) hP hD hS hA (fun _ => rfl) (by decide) (by decide) (Nat.le_trans (Nat.le_of_ble_eq_true rfl) hRc) (Nat.le_trans (Nat.le_of_ble_eq_true rfl) hRs) dX1_counted_1 (fun q_1 H hP hD hS => ?_)
  obtain ⟨f_2, ef_2⟩ : ∃ z : Nat → Int32, z = (fun _ => 0) := ⟨_, rfl⟩
  rw [← ef_2] at hP hD
  have hP : va_P D vwCl (wM cI ad th n np nq F T ++ [(q_1, .inl (cI, 3, .inl f_2))]) H := hP
  have hD : va_D (inB ad 8 sz) (wM cI ad th n np nq F T ++ [(q_1, .inl (cI, 3, .inl f_2))]) := hD
  refine lv_astore_n (lv' := [(2, .ref q_1), (0, .ref (ad 0)), (1, .int (nI w0))]) hx hb dX1_counted_3 rfl hl (by decide) rfl (fun ls hl => ?_)
  refine lv_iconst (v := nI 0) hx hb dX1_counted_4 (by decide) ?_
  refine lv_istore_n (lv' := [(3, .int (nI 0)), (2, .ref q_1), (0, .ref (ad 0)), (1, .int (nI w0))]) hx hb dX1_counted_5 rfl hl (by decide) rfl (fun ls hl => ?_)
  refine lv_iconst (v := nI 0) hx hb dX1_counted_6 (by decide) ?_
  refine lv_istore (lv' := [(4, .int (nI 0)), (3, .int (nI 0)), (2, .ref q_1), (0, .ref (ad 0)), (1, .int (nI w0))]) hx hb dX1_counted_7 hl (by decide) rfl (fun ls hl => ?_)
  have L9 : ∀ (fu : Nat) (i9 : Nat) (ff : Nat → Int32) (H : Heap) (locs : List Loc) (ls : Array Slot), np - i9 < fu → (i9 ≤ np) → (ff 0 = nI (pAt F i9 (-1))) → (ff 1 = nI (i9 - pAt F i9 (-1) - pAt F i9 (-2))) → (ff 2 = nI (pAt F i9 (-2))) → va_P D vwCl (wM cI ad th n np nq F T ++ [(q_1, .inl (cI, 3, .inl ff))]) H → va_D (inB ad 8 sz) (wM cI ad th n np nq F T ++ [(q_1, .inl (cI, 3, .inl ff))]) → va_S (inB ad 8 sz) s.heap H locs → lv_has ls 5 [(0, .ref (ad 0)), (1, .int (nI w0)), (2, .ref q_1), (3, .int (nI 0)), (4, .int (nI i9))] → W p l e R s m args below meth c H locs 1 3 Q (F0 m 9 ls []) := by
    intro fu
    induction fu with
    | zero => intro _ _ _ _ _ h; exact absurd h (Nat.not_lt_zero _)
    | succ fu ih9 =>
      intro i9 ff H locs ls hm9 h1 e0 e1 e2 hP hD hS hl
      refine lv_iload hx hb dX1_counted_9 (lv_at hl 4 rfl) ?_
      refine lv_aload_n hx hb dX1_counted_11 rfl (lv_at hl 0 rfl) ?_
      refine va_get (D := D) (ci := 1) (v := .int (nI np)) (C := RX1) (T := TX1) (N := 12) hx hb hts hiw hown hK hP 0 (ap_l m_at0) rfl 4 (by decide) (hts (.fieldLink RX1 67 "GloveCuttersModel" "pieces" "I") (by decide +kernel)) (fun _ h9 => h9) rfl dX1_counted_12 ?_
      refine nv_icmp_ge (tgt := 62) hx hb (by omega) (by omega) dX1_counted_15 (by decide) (fun c_3 => ?_) (fun c_3 => ?_)
      · have hi9 : i9 = np := by omega
        refine lv_iconst (v := nI 0) hx hb dX1_counted_62 (by decide) ?_
        refine lv_istore (lv' := [(4, .int (nI 0)), (0, .ref (ad 0)), (1, .int (nI w0)), (2, .ref q_1), (3, .int (nI 0))]) hx hb dX1_counted_63 hl (by decide) rfl (fun ls hl => ?_)
        have L65 : ∀ (fu : Nat) (a9 : Nat) (k9 : Nat) (H : Heap) (locs : List Loc) (ls : Array Slot), nq - k9 < fu → (k9 ≤ nq) → (a9 = pUse F k9) → va_P D vwCl (wM cI ad th n np nq F T ++ [(q_1, .inl (cI, 3, .inl ff))]) H → va_D (inB ad 8 sz) (wM cI ad th n np nq F T ++ [(q_1, .inl (cI, 3, .inl ff))]) → va_S (inB ad 8 sz) s.heap H locs → lv_has ls 5 [(0, .ref (ad 0)), (1, .int (nI w0)), (2, .ref q_1), (3, .int (nI a9)), (4, .int (nI k9))] → W p l e R s m args below meth c H locs 1 3 Q (F0 m 65 ls []) := by
          intro fu
          induction fu with
          | zero => intro _ _ _ _ _ h; exact absurd h (Nat.not_lt_zero _)
          | succ fu ih65 =>
            intro a9 k9 H locs ls hm65 g1 h2 hP hD hS hl
            refine lv_iload hx hb dX1_counted_65 (lv_at hl 4 rfl) ?_
            refine lv_aload_n hx hb dX1_counted_67 rfl (lv_at hl 0 rfl) ?_
            refine va_get (D := D) (ci := 1) (v := .int (nI nq)) (C := RX1) (T := TX1) (N := 12) hx hb hts hiw hown hK hP 0 (ap_l m_at0) rfl 9 (by decide) (hts (.fieldLink RX1 119 "GloveCuttersModel" "pairs" "I") (by decide +kernel)) (fun _ h9 => h9) rfl dX1_counted_68 ?_
            refine nv_icmp_ge (tgt := 96) hx hb (by omega) (by omega) dX1_counted_71 (by decide) (fun c_4 => ?_) (fun c_4 => ?_)
            · have hk9 : k9 = nq := by omega
              refine lv_bipush (v := nI 7) hx hb dX1_counted_96 (by decide) ?_
              refine nv_newa (atype := .int) (a0 := (7, .inl (fun _ => 0))) hx hb (hts (.arrayClass .int) (by decide +kernel)) rfl hK 0 rfl (fun _ h => h) hP hD hS hA (fun _ => rfl) (by decide) (by decide) (Nat.le_trans (Nat.le_of_ble_eq_true rfl) hRc) (Nat.le_trans (Nat.le_of_ble_eq_true rfl) hRs) dX1_counted_98 (fun q_5 H hP hD hS => ?_)
              obtain ⟨f_6, ef_6⟩ : ∃ z : Nat → Int32, z = (fun _ => 0) := ⟨_, rfl⟩
              rw [← ef_6] at hP hD
              have hP : va_P D vwCl (wM cI ad th n np nq F T ++ [(q_1, .inl (cI, 3, .inl ff)), (q_5, .inl (cI, 7, .inl f_6))]) H := hP
              have hD : va_D (inB ad 8 sz) (wM cI ad th n np nq F T ++ [(q_1, .inl (cI, 3, .inl ff)), (q_5, .inl (cI, 7, .inl f_6))]) := hD
              refine lv_dup hx hb dX1_counted_100 rfl ?_
              refine lv_iconst (v := nI 0) hx hb dX1_counted_101 (by decide) ?_
              refine lv_aload_n hx hb dX1_counted_102 rfl (lv_at hl 0 rfl) ?_
              refine va_get (D := D) (ci := 1) (v := .int (nI n)) (C := RX1) (T := TX1) (N := 12) hx hb hts hiw hown hK hP 0 (ap_l m_at0) rfl 1 (by decide) (hts (.fieldLink RX1 38 "GloveCuttersModel" "skins" "I") (by decide +kernel)) (fun _ h9 => h9) rfl dX1_counted_103 ?_
              refine nv_iast hx hb hK hP hD hS 10 0 rfl rfl (by omega) (by omega) dX1_counted_106 (fun H locs hP hD hS => ?_)
              obtain ⟨f_7, ef_7⟩ : ∃ z, z = upd f_6 0 (nI n) := ⟨_, rfl⟩
              rw [← ef_7] at hP hD
              have hP : va_P D vwCl (wM cI ad th n np nq F T ++ [(q_1, .inl (cI, 3, .inl ff)), (q_5, .inl (cI, 7, .inl f_7))]) H := hP
              have hD : va_D (inB ad 8 sz) (wM cI ad th n np nq F T ++ [(q_1, .inl (cI, 3, .inl ff)), (q_5, .inl (cI, 7, .inl f_7))]) := hD
              refine lv_dup hx hb dX1_counted_107 rfl ?_
              refine lv_iconst (v := nI 1) hx hb dX1_counted_108 (by decide) ?_
              refine lv_aload_n hx hb dX1_counted_109 rfl (lv_at hl 0 rfl) ?_
              refine va_get (D := D) (ci := 1) (v := .int (nI np)) (C := RX1) (T := TX1) (N := 12) hx hb hts hiw hown hK hP 0 (ap_l m_at0) rfl 4 (by decide) (hts (.fieldLink RX1 67 "GloveCuttersModel" "pieces" "I") (by decide +kernel)) (fun _ h9 => h9) rfl dX1_counted_110 ?_
              refine nv_iast hx hb hK hP hD hS 10 0 rfl rfl (by omega) (by omega) dX1_counted_113 (fun H locs hP hD hS => ?_)
              obtain ⟨f_8, ef_8⟩ : ∃ z, z = upd f_7 1 (nI np) := ⟨_, rfl⟩
              rw [← ef_8] at hP hD
              have hP : va_P D vwCl (wM cI ad th n np nq F T ++ [(q_1, .inl (cI, 3, .inl ff)), (q_5, .inl (cI, 7, .inl f_8))]) H := hP
              have hD : va_D (inB ad 8 sz) (wM cI ad th n np nq F T ++ [(q_1, .inl (cI, 3, .inl ff)), (q_5, .inl (cI, 7, .inl f_8))]) := hD
              refine lv_dup hx hb dX1_counted_114 rfl ?_
              refine lv_iconst (v := nI 2) hx hb dX1_counted_115 (by decide) ?_
              refine lv_aload_n hx hb dX1_counted_116 rfl (lv_at hl 2 rfl) ?_
              refine lv_iconst (v := nI 0) hx hb dX1_counted_117 (by decide) ?_
              refine nv_iald hx hb hK hP 9 0 rfl rfl (by omega) (by omega) dX1_counted_118 ?_
              refine nv_iast hx hb hK hP hD hS 10 0 rfl rfl (by omega) (by omega) dX1_counted_119 (fun H locs hP hD hS => ?_)
              obtain ⟨f_9, ef_9⟩ : ∃ z, z = upd f_8 2 (ff 0) := ⟨_, rfl⟩
              rw [← ef_9] at hP hD
              have hP : va_P D vwCl (wM cI ad th n np nq F T ++ [(q_1, .inl (cI, 3, .inl ff)), (q_5, .inl (cI, 7, .inl f_9))]) H := hP
              have hD : va_D (inB ad 8 sz) (wM cI ad th n np nq F T ++ [(q_1, .inl (cI, 3, .inl ff)), (q_5, .inl (cI, 7, .inl f_9))]) := hD
              refine lv_dup hx hb dX1_counted_120 rfl ?_
              refine lv_iconst (v := nI 3) hx hb dX1_counted_121 (by decide) ?_
              refine lv_aload_n hx hb dX1_counted_122 rfl (lv_at hl 2 rfl) ?_
              refine lv_iconst (v := nI 1) hx hb dX1_counted_123 (by decide) ?_
              refine nv_iald hx hb hK hP 9 0 rfl rfl (by omega) (by omega) dX1_counted_124 ?_
              refine nv_iast hx hb hK hP hD hS 10 0 rfl rfl (by omega) (by omega) dX1_counted_125 (fun H locs hP hD hS => ?_)
              obtain ⟨f_10, ef_10⟩ : ∃ z, z = upd f_9 3 (ff 1) := ⟨_, rfl⟩
              rw [← ef_10] at hP hD
              have hP : va_P D vwCl (wM cI ad th n np nq F T ++ [(q_1, .inl (cI, 3, .inl ff)), (q_5, .inl (cI, 7, .inl f_10))]) H := hP
              have hD : va_D (inB ad 8 sz) (wM cI ad th n np nq F T ++ [(q_1, .inl (cI, 3, .inl ff)), (q_5, .inl (cI, 7, .inl f_10))]) := hD
              refine lv_dup hx hb dX1_counted_126 rfl ?_
              refine lv_iconst (v := nI 4) hx hb dX1_counted_127 (by decide) ?_
              refine lv_aload_n hx hb dX1_counted_128 rfl (lv_at hl 2 rfl) ?_
              refine lv_iconst (v := nI 2) hx hb dX1_counted_129 (by decide) ?_
              refine nv_iald hx hb hK hP 9 0 rfl rfl (by omega) (by omega) dX1_counted_130 ?_
              refine nv_iast hx hb hK hP hD hS 10 0 rfl rfl (by omega) (by omega) dX1_counted_131 (fun H locs hP hD hS => ?_)
              obtain ⟨f_11, ef_11⟩ : ∃ z, z = upd f_10 4 (ff 2) := ⟨_, rfl⟩
              rw [← ef_11] at hP hD
              have hP : va_P D vwCl (wM cI ad th n np nq F T ++ [(q_1, .inl (cI, 3, .inl ff)), (q_5, .inl (cI, 7, .inl f_11))]) H := hP
              have hD : va_D (inB ad 8 sz) (wM cI ad th n np nq F T ++ [(q_1, .inl (cI, 3, .inl ff)), (q_5, .inl (cI, 7, .inl f_11))]) := hD
              refine lv_dup hx hb dX1_counted_132 rfl ?_
              refine lv_iconst (v := nI 5) hx hb dX1_counted_133 (by decide) ?_
              refine lv_aload_n hx hb dX1_counted_134 rfl (lv_at hl 0 rfl) ?_
              refine va_get (D := D) (ci := 1) (v := .int (nI nq)) (C := RX1) (T := TX1) (N := 12) hx hb hts hiw hown hK hP 0 (ap_l m_at0) rfl 9 (by decide) (hts (.fieldLink RX1 119 "GloveCuttersModel" "pairs" "I") (by decide +kernel)) (fun _ h9 => h9) rfl dX1_counted_135 ?_
              refine nv_iast hx hb hK hP hD hS 10 0 rfl rfl (by omega) (by omega) dX1_counted_138 (fun H locs hP hD hS => ?_)
              obtain ⟨f_12, ef_12⟩ : ∃ z, z = upd f_11 5 (nI nq) := ⟨_, rfl⟩
              rw [← ef_12] at hP hD
              have hP : va_P D vwCl (wM cI ad th n np nq F T ++ [(q_1, .inl (cI, 3, .inl ff)), (q_5, .inl (cI, 7, .inl f_12))]) H := hP
              have hD : va_D (inB ad 8 sz) (wM cI ad th n np nq F T ++ [(q_1, .inl (cI, 3, .inl ff)), (q_5, .inl (cI, 7, .inl f_12))]) := hD
              refine lv_dup hx hb dX1_counted_139 rfl ?_
              refine lv_bipush (v := nI 6) hx hb dX1_counted_140 (by decide) ?_
              refine lv_iload_n hx hb dX1_counted_142 rfl (lv_at hl 3 rfl) ?_
              refine nv_iast hx hb hK hP hD hS 10 0 rfl rfl (by omega) (by omega) dX1_counted_143 (fun H locs hP hD hS => ?_)
              obtain ⟨f_13, ef_13⟩ : ∃ z, z = upd f_12 6 (nI a9) := ⟨_, rfl⟩
              rw [← ef_13] at hP hD
              have hP : va_P D vwCl (wM cI ad th n np nq F T ++ [(q_1, .inl (cI, 3, .inl ff)), (q_5, .inl (cI, 7, .inl f_13))]) H := hP
              have hD : va_D (inB ad 8 sz) (wM cI ad th n np nq F T ++ [(q_1, .inl (cI, 3, .inl ff)), (q_5, .inl (cI, 7, .inl f_13))]) := hD
              refine lv_astore (lv' := [(4, .ref q_5), (0, .ref (ad 0)), (1, .int (nI w0)), (2, .ref q_1), (3, .int (nI a9))]) hx hb dX1_counted_144 hl (by decide) rfl (fun ls hl => ?_)
              refine lv_aload hx hb dX1_counted_146 (lv_at hl 0 rfl) ?_
              refine lv_iload_n hx hb dX1_counted_148 rfl (lv_at hl 2 rfl) ?_
              refine nv_iald hx hb hK hP 10 0 rfl rfl (by omega) (by omega) dX1_counted_149 ?_
              rw [← hQ]
              exact W.iret (v := f_13 w0) hx hb hr (fun t ht hW => ⟨⟨f_13 w0, (), rfl, (by rcases (show w0 = 0 ∨ w0 = 1 ∨ w0 = 2 ∨ w0 = 3 ∨ w0 = 4 ∨ w0 = 5 ∨ w0 = 6 by omega) with rfl | rfl | rfl | rfl | rfl | rfl | rfl <;> rw [ef_13, ef_12, ef_11, ef_10, ef_9, ef_8, ef_7, ef_6] <;> first | rfl | exact e0.trans (congrArg (fun z => nI (pAt F z (-1))) hi9) | exact e1.trans (congrArg (fun z => nI (z - pAt F z (-1) - pAt F z (-2))) hi9) | exact e2.trans (congrArg (fun z => nI (pAt F z (-2))) hi9) | exact (congrArg nI h2).trans (congrArg (fun z => nI (pUse F z)) hk9)), (by show va_P D vwCl (wM cI ad th n np nq F T) t.heap; rw [ht]; exact P_drop hP)⟩, hS.F ht⟩) hS.2.2 dX1_counted_150
            · refine lv_iload_n hx hb dX1_counted_74 rfl (lv_at hl 3 rfl) ?_
              refine lv_iconst (v := nI 1) hx hb dX1_counted_75 (by decide) ?_
              refine lv_aload_n hx hb dX1_counted_76 rfl (lv_at hl 0 rfl) ?_
              refine va_get (D := D) (ci := 1) (v := .ref (ad 7)) (C := RX1) (T := TX1) (N := 12) hx hb hts hiw hown hK hP 0 (ap_l m_at0) rfl 10 (by decide) (hts (.fieldLink RX1 28 "GloveCuttersModel" "book" "[I") (by decide +kernel)) (fun _ h9 => h9) rfl dX1_counted_77 ?_
              refine lv_iconst (v := nI 5) hx hb dX1_counted_80 (by decide) ?_
              refine lv_iload hx hb dX1_counted_81 (lv_at hl 4 rfl) ?_
              refine nv_imul hx hb dX1_counted_83 ?_
              refine lv_iconst (v := nI 4) hx hb dX1_counted_84 (by decide) ?_
              refine nv_iadd hx hb dX1_counted_85 ?_
              refine nv_iald hx hb hK hP 7 0 (ap_l m_at7) rfl (by omega) (by omega) dX1_counted_86 ?_
              refine lv_isub hx hb dX1_counted_87 ?_
              refine lv_iadd hx hb dX1_counted_88 ?_
              rw [h2]
              rw [cntw (hrip k9 (by omega))]
              refine lv_istore_n (lv' := [(3, .int (nI (pUse F (k9 + 1)))), (0, .ref (ad 0)), (1, .int (nI w0)), (2, .ref q_1), (4, .int (nI k9))]) hx hb dX1_counted_89 rfl hl (by decide) rfl (fun ls hl => ?_)
              refine lv_iinc (k := 4) (v := nI (k9 + 1)) (lv' := [(4, .int (nI (k9 + 1))), (3, .int (nI (pUse F (k9 + 1)))), (0, .ref (ad 0)), (1, .int (nI w0)), (2, .ref q_1)]) hx hb dX1_counted_90 hl rfl (nI_add k9 1) (by decide) rfl (fun ls hl => ?_)
              refine lv_goto (tgt := 65) hx hb dX1_counted_93 (by decide) ?_
              exact ih65 (pUse F (k9 + 1)) (k9 + 1) _ _ _ (by omega) (by omega) rfl hP hD hS (lv_sub hl [2, 3, 4, 1, 0] rfl)
        exact L65 _ 0 0 _ _ _ (Nat.lt_succ_self _) (by omega) rfl hP hD hS (lv_sub hl [1, 2, 3, 4, 0] rfl)
      · refine lv_aload_n hx hb dX1_counted_18 rfl (lv_at hl 2 rfl) ?_
        refine lv_aload_n hx hb dX1_counted_19 rfl (lv_at hl 0 rfl) ?_
        refine va_get (D := D) (ci := 1) (v := .ref (ad 5)) (C := RX1) (T := TX1) (N := 12) hx hb hts hiw hown hK hP 0 (ap_l m_at0) rfl 7 (by decide) (hts (.fieldLink RX1 22 "GloveCuttersModel" "pairOf" "[I") (by decide +kernel)) (fun _ h9 => h9) rfl dX1_counted_20 ?_
        refine lv_iload hx hb dX1_counted_23 (lv_at hl 4 rfl) ?_
        refine nv_iald hx hb hK hP 5 0 (ap_l m_at5) rfl (by omega) (by omega) dX1_counted_25 ?_
        refine lv_iconst (v := -1) hx hb dX1_counted_26 (by decide) ?_
        refine lv_icmp_ne (tgt := 34) hx hb dX1_counted_27 (by decide) (fun c_14 => ?_) (fun c_14 => ?_)
        · refine lv_aload_n hx hb dX1_counted_34 rfl (lv_at hl 0 rfl) ?_
          refine va_get (D := D) (ci := 1) (v := .ref (ad 5)) (C := RX1) (T := TX1) (N := 12) hx hb hts hiw hown hK hP 0 (ap_l m_at0) rfl 7 (by decide) (hts (.fieldLink RX1 22 "GloveCuttersModel" "pairOf" "[I") (by decide +kernel)) (fun _ h9 => h9) rfl dX1_counted_35 ?_
          refine lv_iload hx hb dX1_counted_38 (lv_at hl 4 rfl) ?_
          refine nv_iald hx hb hK hP 5 0 (ap_l m_at5) rfl (by omega) (by omega) dX1_counted_40 ?_
          refine lv_bipush (v := -2) hx hb dX1_counted_41 (by decide) ?_
          refine lv_icmp_ne (tgt := 50) hx hb dX1_counted_43 (by decide) (fun c_15 => ?_) (fun c_15 => ?_)
          · refine lv_iconst (v := nI 1) hx hb dX1_counted_50 (by decide) ?_
            refine lv_dup2_11 hx hb dX1_counted_51 rfl rfl ?_
            refine nv_iald hx hb hK hP 9 0 rfl rfl (by omega) (by omega) dX1_counted_52 ?_
            refine lv_iconst (v := nI 1) hx hb dX1_counted_53 (by decide) ?_
            refine lv_iadd hx hb dX1_counted_54 ?_
            refine nv_iast hx hb hK hP hD hS 9 0 rfl rfl (by omega) (by omega) dX1_counted_55 (fun H locs hP hD hS => ?_)
            obtain ⟨f_16, ef_16⟩ : ∃ z, z = upd ff 1 ((ff 1) + (nI 1)) := ⟨_, rfl⟩
            rw [← ef_16] at hP hD
            have hP : va_P D vwCl (wM cI ad th n np nq F T ++ [(q_1, .inl (cI, 3, .inl f_16))]) H := hP
            have hD : va_D (inB ad 8 sz) (wM cI ad th n np nq F T ++ [(q_1, .inl (cI, 3, .inl f_16))]) := hD
            refine lv_iinc (k := 4) (v := nI (i9 + 1)) (lv' := [(4, .int (nI (i9 + 1))), (0, .ref (ad 0)), (1, .int (nI w0)), (2, .ref q_1), (3, .int (nI 0))]) hx hb dX1_counted_56 hl rfl (nI_add i9 1) (by decide) rfl (fun ls hl => ?_)
            refine lv_goto (tgt := 9) hx hb dX1_counted_59 (by decide) ?_
            exact ih9 (i9 + 1) f_16 _ _ _ (by omega) (by omega) (by have ha := pAt_n c_14; have hb' := pAt_n c_15; have h2 := pAt_2 F i9; rw [ef_16]; show ff 0 = _; rw [e0]; exact congrArg nI (by omega)) (by have ha := pAt_n c_14; have hb' := pAt_n c_15; have h2 := pAt_2 F i9; rw [ef_16]; rw [pk_us, e1]; exact (nI_add _ 1).trans (congrArg nI (by omega))) (by have ha := pAt_n c_14; have hb' := pAt_n c_15; have h2 := pAt_2 F i9; rw [ef_16]; show ff 2 = _; rw [e2]; exact congrArg nI (by omega)) hP hD hS (lv_sub hl [1, 2, 3, 4, 0] rfl)
          · refine lv_iconst (v := nI 2) hx hb dX1_counted_46 (by decide) ?_
            refine lv_goto (tgt := 51) hx hb dX1_counted_47 (by decide) ?_
            refine lv_dup2_11 hx hb dX1_counted_51 rfl rfl ?_
            refine nv_iald hx hb hK hP 9 0 rfl rfl (by omega) (by omega) dX1_counted_52 ?_
            refine lv_iconst (v := nI 1) hx hb dX1_counted_53 (by decide) ?_
            refine lv_iadd hx hb dX1_counted_54 ?_
            refine nv_iast hx hb hK hP hD hS 9 0 rfl rfl (by omega) (by omega) dX1_counted_55 (fun H locs hP hD hS => ?_)
            obtain ⟨f_17, ef_17⟩ : ∃ z, z = upd ff 2 ((ff 2) + (nI 1)) := ⟨_, rfl⟩
            rw [← ef_17] at hP hD
            have hP : va_P D vwCl (wM cI ad th n np nq F T ++ [(q_1, .inl (cI, 3, .inl f_17))]) H := hP
            have hD : va_D (inB ad 8 sz) (wM cI ad th n np nq F T ++ [(q_1, .inl (cI, 3, .inl f_17))]) := hD
            refine lv_iinc (k := 4) (v := nI (i9 + 1)) (lv' := [(4, .int (nI (i9 + 1))), (0, .ref (ad 0)), (1, .int (nI w0)), (2, .ref q_1), (3, .int (nI 0))]) hx hb dX1_counted_56 hl rfl (nI_add i9 1) (by decide) rfl (fun ls hl => ?_)
            refine lv_goto (tgt := 9) hx hb dX1_counted_59 (by decide) ?_
            exact ih9 (i9 + 1) f_17 _ _ _ (by omega) (by omega) (by have ha := pAt_n c_14; have hb' := pAt_y c_15; have h2 := pAt_2 F i9; rw [ef_17]; show ff 0 = _; rw [e0]; exact congrArg nI (by omega)) (by have ha := pAt_n c_14; have hb' := pAt_y c_15; have h2 := pAt_2 F i9; rw [ef_17]; show ff 1 = _; rw [e1]; exact congrArg nI (by omega)) (by have ha := pAt_n c_14; have hb' := pAt_y c_15; have h2 := pAt_2 F i9; rw [ef_17]; rw [pk_us, e2]; exact (nI_add _ 1).trans (congrArg nI (by omega))) hP hD hS (lv_sub hl [1, 2, 3, 4, 0] rfl)
        · refine lv_iconst (v := nI 0) hx hb dX1_counted_30 (by decide) ?_
          refine lv_goto (tgt := 51) hx hb dX1_counted_31 (by decide) ?_
          refine lv_dup2_11 hx hb dX1_counted_51 rfl rfl ?_
          refine nv_iald hx hb hK hP 9 0 rfl rfl (by omega) (by omega) dX1_counted_52 ?_
          refine lv_iconst (v := nI 1) hx hb dX1_counted_53 (by decide) ?_
          refine lv_iadd hx hb dX1_counted_54 ?_
          refine nv_iast hx hb hK hP hD hS 9 0 rfl rfl (by omega) (by omega) dX1_counted_55 (fun H locs hP hD hS => ?_)
          obtain ⟨f_18, ef_18⟩ : ∃ z, z = upd ff 0 ((ff 0) + (nI 1)) := ⟨_, rfl⟩
          rw [← ef_18] at hP hD
          have hP : va_P D vwCl (wM cI ad th n np nq F T ++ [(q_1, .inl (cI, 3, .inl f_18))]) H := hP
          have hD : va_D (inB ad 8 sz) (wM cI ad th n np nq F T ++ [(q_1, .inl (cI, 3, .inl f_18))]) := hD
          refine lv_iinc (k := 4) (v := nI (i9 + 1)) (lv' := [(4, .int (nI (i9 + 1))), (0, .ref (ad 0)), (1, .int (nI w0)), (2, .ref q_1), (3, .int (nI 0))]) hx hb dX1_counted_56 hl rfl (nI_add i9 1) (by decide) rfl (fun ls hl => ?_)
          refine lv_goto (tgt := 9) hx hb dX1_counted_59 (by decide) ?_
          exact ih9 (i9 + 1) f_18 _ _ _ (by omega) (by omega) (by have ha := pAt_y c_14; have hb' := pAt_n (F := F) (i := i9) (v := -2) (by rw [c_14]; decide); have h2 := pAt_2 F i9; rw [ef_18]; rw [pk_us, e0]; exact (nI_add _ 1).trans (congrArg nI (by omega))) (by have ha := pAt_y c_14; have hb' := pAt_n (F := F) (i := i9) (v := -2) (by rw [c_14]; decide); have h2 := pAt_2 F i9; rw [ef_18]; show ff 1 = _; rw [e1]; exact congrArg nI (by omega)) (by have ha := pAt_y c_14; have hb' := pAt_n (F := F) (i := i9) (v := -2) (by rw [c_14]; decide); have h2 := pAt_2 F i9; rw [ef_18]; show ff 2 = _; rw [e2]; exact congrArg nI (by omega)) hP hD hS (lv_sub hl [1, 2, 3, 4, 0] rfl)
  exact L9 _ 0 f_2 _ _ _ (Nat.lt_succ_self _) (by omega) (by rw [ef_2]; rfl) (by rw [ef_2]; rfl) (by rw [ef_2]; rfl) hP hD hS (lv_sub hl [3, 4, 2, 1, 0] rfl)
set_option maxHeartbeats 4000000 in
set_option maxRecDepth 100000 in
/-- count -/
theorem c_X1_count (l : Launch) (D : va_G) (cI : ClassId) (ad : Nat → Nat) (th : Int32) (n np nq : Nat) (F : Nat → Nat → Int32) (T : Nat → Int32) (sz : Nat) (w0 : Int32) (hinj : inj ad 8) (hnp : np ≤ 150) (hnq : nq ≤ 20) (hrip : ∀ q, q < nq → F 12 q = 0 ∨ F 12 q = 1) : Met l yX1_count wsX1_count ({ frames := 1, cells := 2, slots := 10, locals := 24 } : Room) (va_Pc [.ref (ad 0), .int w0] (Pr D [(cI, .int)] (wM cI ad th n np nq F T) (fun U : State => U.heap.size = sz))) (va_Qi (S := Unit) (fun (r : Int32) (_ : Unit) => r = (spCount n np nq F w0).2) (fun (_ : Unit) (t : State) => va_P D vwCl (wM cI ad (nI (spCount n np nq F w0).1) n np nq F T) t.heap) (inB ad 8 sz)) 2 10 (inB ad 8 sz) := by
  refine Met.ofW (cc := cX1_count) (maxL := 2) (ret := (some .int)) (by decide) rfl ?_
  intro p e s m args below meth c s₁ B hml hv
  obtain ⟨hargs, hP, hK, hV⟩ := hv
  have hsz := hV
  have hA : ∀ q : Nat, s.heap.size ≤ q → (inB ad 8 sz) q := fun q h => Or.inr (by rw [← hsz]; exact h)
  have hx := B.exec
  have hb := B.bytes
  have hr := B.returns
  have hts := atoms_spec (ws := wsX1_count) B.pre
  have hown : s.vm.findClass RX1 = some m.cls := findClass_of_methodNamed B.named
  have hlocks := B.notSynchronized
  have hS : va_S (fun _ => False) s.heap s.heap [] := va_S.rf
  have hiw : ∀ w ∈ wsX10, w ∈ wsX1_count := (fun _ h => List.mem_cons_of_mem _ (List.mem_append_right _ h))
  have hRf : 1 ≤ (headSpec wsX1_count ({ frames := 1, cells := 2, slots := 10, locals := 24 } : Room)).room.frames := Nat.le_refl _
  have hRl : 24 ≤ (headSpec wsX1_count ({ frames := 1, cells := 2, slots := 10, locals := 24 } : Room)).room.locals := Nat.le_refl _
  have hRc : 2 ≤ (headSpec wsX1_count ({ frames := 1, cells := 2, slots := 10, locals := 24 } : Room)).room.cells := Nat.le_refl _
  have hRs : 10 ≤ (headSpec wsX1_count ({ frames := 1, cells := 2, slots := 10, locals := 24 } : Room)).room.slots := Nat.le_refl _
  generalize (headSpec wsX1_count ({ frames := 1, cells := 2, slots := 10, locals := 24 } : Room)).room = R at hRf hRl hRc hRs ⊢
  have hl := lv_entry [.ref (ad 0), .int w0] (n := 2) (Nat.le_of_ble_eq_true rfl)
  refine W.eq (show entryFrame m args 2 = _ from by rw [hargs, lg_entry_eq]) ?_
  generalize (lg_sl [.ref (ad 0), .int w0] ++ List.replicate (2 - (lg_sl [.ref (ad 0), .int w0]).length) Slot.unset).toArray = ls at hl ⊢
  have hl : lv_has ls 2 [(0, .ref (ad 0)), (1, .int w0)] := hl
  have hD : va_D (inB ad 8 sz) (wM cI ad th n np nq F T) := ((m_D hinj).weaken (fun _ _ _ h => Or.inl h))
  generalize hQ : MQ _ _ _ _ _ _ _ = Q
  refine lv_aload_n hx hb dX1_count_0 rfl (lv_at hl 0 rfl) ?_
  refine lv_iconst (v := nI 0) hx hb dX1_count_1 (by decide) ?_
  have hS : va_S (inB ad 8 sz) s.heap _ _ := S_mono hS
  refine va_put (D := D) (ci := 1) (v := .int (nI 0)) (ty := .int) (C := RX1) (T := TX1) (N := 12) hx hb hts hiw tyX1 tyX1_ok nmX1 hown hK hP hD hS 0 m_at0 rfl 0 (by decide) (hts (.fieldLink RX1 34 "GloveCuttersModel" "thrown" "I") (by decide +kernel)) (fun _ h9 => h9) rfl (by decide +kernel) rfl rfl (Nat.le_of_ble_eq_true rfl) dX1_count_2 (fun H locs hP hD hS => ?_)
  have hP : va_P D vwCl (wM cI ad (nI 0) n np nq F T) H := hP
  have hD : va_D (inB ad 8 sz) (wM cI ad (nI 0) n np nq F T) := hD
  refine lv_iload_n hx hb dX1_count_5 rfl (lv_at hl 1 rfl) ?_
  refine lv_iconst (v := nI 0) hx hb dX1_count_6 (by decide) ?_
  refine lv_bipush (v := nI 6) hx hb dX1_count_7 (by decide) ?_
  refine va_calli (va_runS (As := [.int w0, .int (nI 0), .int (nI 6)]) (rest := []) ⟨hx, hb, hml, hown, hts⟩ (c_X1_isIn l D w0 (nI 0) (nI 6) ) (va_cwS 3 hts gX1_count_X1_isIn rfl rfl rfl (by decide +kernel) ⟨Nat.le_trans (Nat.le_of_ble_eq_true rfl) hRf, Nat.le_trans (Nat.le_of_ble_eq_true rfl) hRl⟩) (pr_S (P_nil) hK [] rfl V0_at V0_c) rfl rfl hl.1 rfl (lv_room (Nat.le_of_ble_eq_true rfl)) dX1_count_9 ⟨Nat.le_trans (Nat.le_of_ble_eq_true rfl) hRc, Nat.le_trans (Nat.le_of_ble_eq_true rfl) hRs⟩) hS (fun _ _ h => h.elim) (fun _ h => h.elim) (fun r_1 _ t H1 locs ht hvm hw_1 hB hz hk hS => ?_)
  have hP := P_kept hP hk
  obtain rfl := hw_1
  refine nb_if_eq (tgt := 23) hx hb dX1_count_12 (by decide) (fun c_2 => ?_) (fun c_2 => ?_)
  · refine lv_aload_n hx hb dX1_count_23 rfl (lv_at hl 0 rfl) ?_
    refine lv_iconst (v := nI 1) hx hb dX1_count_24 (by decide) ?_
    refine va_calli (va_runV (As := [.int (nI 1)]) (rest := []) ⟨hx, hb, hml, hown, hts⟩ (c_X1_no l D cI ad (nI 0) n np nq F T 1 hinj) (cwV 1 hts gX1_count_X1_no rfl rfl rfl (by decide +kernel) ⟨Nat.le_trans (Nat.le_of_ble_eq_true rfl) hRf, Nat.le_trans (Nat.le_of_ble_eq_true rfl) hRl⟩) (pr_V hP (ci := 1) (q0 := 0) rfl m_at0 rfl hP hK [0] rfl V0_at V0_c) rfl rfl hl.1 rfl (lv_room (Nat.le_of_ble_eq_true rfl)) dX1_count_25 ⟨Nat.le_trans (Nat.le_of_ble_eq_true rfl) hRc, Nat.le_trans (Nat.le_of_ble_eq_true rfl) hRs⟩) hS (fun _ _ h => Or.inl h) (fun _ h => Or.inl h) (fun r_3 _ t H1 locs ht hvm hw_3 hB hz hk hS => ?_)
    rw [ht] at hB
    have hP := hB
    have hP : va_P D vwCl (wM cI ad (nI 1) n np nq F T) H1 := hP
    have hD : va_D (inB ad 8 sz) (wM cI ad (nI 1) n np nq F T) := ((m_D hinj).weaken (fun _ _ _ h => Or.inl h))
    obtain rfl := hw_3
    rw [← hQ]
    refine W.widen (k := 2) (n := 10) (by omega) (by omega) ?_
    exact W.iret (v := nI 0) hx hb hr (fun t ht hW => ⟨⟨nI 0, (), rfl, (congrArg Prod.snd (show spCount n np nq F w0 = (1, 0) from (by unfold spCount; rw [← isI_k (x := w0) (k := 6) (by decide), c_2]; rfl))).symm, (by show va_P D vwCl (wM cI ad (nI (spCount n np nq F w0).1) n np nq F T) t.heap; rw [show spCount n np nq F w0 = (1, 0) from (by unfold spCount; rw [← isI_k (x := w0) (k := 6) (by decide), c_2]; rfl), ht]; exact hP)⟩, hS.F ht⟩) hS.2.2 dX1_count_28
  · obtain ⟨w9, hw9, rfl⟩ := inR_t (n := 7) (by decide) (by rw [← isI_k (k := 6) (by decide)]; exact c_2)
    refine lv_aload_n hx hb dX1_count_15 rfl (lv_at hl 0 rfl) ?_
    refine lv_iload_n hx hb dX1_count_16 rfl (lv_at hl 1 rfl) ?_
    refine va_calli (va_runV (As := [.int (nI w9)]) (rest := []) ⟨hx, hb, hml, hown, hts⟩ (c_X1_counted l D cI ad (nI 0) n np nq F T _ w9 hinj hnp hnq hrip (by omega)) (cwV 1 hts gX1_count_X1_counted rfl rfl rfl (by decide +kernel) ⟨Nat.le_trans (Nat.le_of_ble_eq_true rfl) hRf, Nat.le_trans (Nat.le_of_ble_eq_true rfl) hRl⟩) (pr_V hP (ci := 1) (q0 := 0) rfl m_at0 rfl hP hK [0] rfl (fun U hU _ => congrArg Array.size hU) (fun _ _ _ _ h => h)) rfl rfl hl.1 rfl (lv_room (Nat.le_of_ble_eq_true rfl)) dX1_count_17 ⟨Nat.le_trans (Nat.le_of_ble_eq_true rfl) hRc, Nat.le_trans (Nat.le_of_ble_eq_true rfl) hRs⟩) hS (fun q _ h => h.imp id (fun z => by rw [← hsz]; exact Nat.le_trans hS.1 z)) (fun q h => h.imp id (fun z => by rw [← hsz]; exact Nat.le_trans hS.1 z)) (fun r_4 _ t H1 locs ht hvm hw_4 hB hz hk hS => ?_)
    rw [ht] at hB
    have hP := hB
    have hP : va_P D vwCl (wM cI ad (nI 0) n np nq F T) H1 := hP
    have hD : va_D (inB ad 8 sz) (wM cI ad (nI 0) n np nq F T) := ((m_D hinj).weaken (fun _ _ _ h => Or.inl h))
    obtain rfl := hw_4
    refine lv_goto (tgt := 28) hx hb dX1_count_20 (by decide) ?_
    rw [← hQ]
    exact W.iret (v := cnT n np nq F w9) hx hb hr (fun t ht hW => ⟨⟨cnT n np nq F w9, (), rfl, (congrArg Prod.snd (show spCount n np nq F (nI w9) = (0, cnT n np nq F w9) from (spCount_y hw9))).symm, (by show va_P D vwCl (wM cI ad (nI (spCount n np nq F (nI w9)).1) n np nq F T) t.heap; rw [show spCount n np nq F (nI w9) = (0, cnT n np nq F w9) from (spCount_y hw9), ht]; exact hP)⟩, hS.F ht⟩) hS.2.2 dX1_count_28
set_option maxHeartbeats 4000000 in
set_option maxRecDepth 100000 in
/-- digest -/
theorem c_X1_digest (l : Launch) (D : va_G) (cI : ClassId) (ad : Nat → Nat) (th : Int32) (n np nq : Nat) (F : Nat → Nat → Int32) (T : Nat → Int32) (sz : Nat) (hinj : inj ad 8) (hn : n ≤ 10) (hnp : np ≤ 150) (hnq : nq ≤ 20) (hrip : ∀ q, q < nq → F 12 q = 0 ∨ F 12 q = 1) (hpc : ∀ s, s < 10 → F 2 s = nI (cn (fun p => F 4 p == nI s) np)) : Met l yX1_digest wsX1_digest ({ frames := 2, cells := 14, slots := 70, locals := 48 } : Room) (va_Pc [.ref (ad 0)] (Pr D [(cI, .int)] (wM cI ad th n np nq F T) (fun U : State => U.heap.size = sz))) (va_Ql (S := Unit) (fun (r : Int64) (_ : Unit) => r = dG n np nq F) (fun (_ : Unit) (t : State) => va_P D vwCl (wM cI ad (nI 0) n np nq F T) t.heap) (inB ad 8 sz)) 14 70 (inB ad 8 sz) := by
  refine Met.ofW (cc := cX1_digest) (maxL := 5) (ret := (some .long)) (by decide) rfl ?_
  intro p e s m args below meth c s₁ B hml hv
  obtain ⟨hargs, hP, hK, hV⟩ := hv
  have hsz := hV
  have hA : ∀ q : Nat, s.heap.size ≤ q → (inB ad 8 sz) q := fun q h => Or.inr (by rw [← hsz]; exact h)
  have hx := B.exec
  have hb := B.bytes
  have hr := B.returns
  have hts := atoms_spec (ws := wsX1_digest) B.pre
  have hown : s.vm.findClass RX1 = some m.cls := findClass_of_methodNamed B.named
  have hlocks := B.notSynchronized
  have hS : va_S (fun _ => False) s.heap s.heap [] := va_S.rf
  have hiw : ∀ w ∈ wsX10, w ∈ wsX1_digest := (fun _ h => List.mem_cons_of_mem _ (List.mem_append_right _ h))
  have hRf : 2 ≤ (headSpec wsX1_digest ({ frames := 2, cells := 14, slots := 70, locals := 48 } : Room)).room.frames := Nat.le_refl _
  have hRl : 48 ≤ (headSpec wsX1_digest ({ frames := 2, cells := 14, slots := 70, locals := 48 } : Room)).room.locals := Nat.le_refl _
  have hRc : 14 ≤ (headSpec wsX1_digest ({ frames := 2, cells := 14, slots := 70, locals := 48 } : Room)).room.cells := Nat.le_refl _
  have hRs : 70 ≤ (headSpec wsX1_digest ({ frames := 2, cells := 14, slots := 70, locals := 48 } : Room)).room.slots := Nat.le_refl _
  generalize (headSpec wsX1_digest ({ frames := 2, cells := 14, slots := 70, locals := 48 } : Room)).room = R at hRf hRl hRc hRs ⊢
  have hl := lv_entry [.ref (ad 0)] (n := 5) (Nat.le_of_ble_eq_true rfl)
  refine W.eq (show entryFrame m args 5 = _ from by rw [hargs, lg_entry_eq]) ?_
  generalize (lg_sl [.ref (ad 0)] ++ List.replicate (5 - (lg_sl [.ref (ad 0)]).length) Slot.unset).toArray = ls at hl ⊢
  have hl : lv_has ls 5 [(0, .ref (ad 0))] := hl
  have hD : va_D (inB ad 8 sz) (wM cI ad th n np nq F T) := ((m_D hinj).weaken (fun _ _ _ h => Or.inl h))
  generalize hQ : MQ _ _ _ _ _ _ _ = Q
  refine lv_aload_n hx hb dX1_digest_0 rfl (lv_at hl 0 rfl) ?_
  refine lv_iconst (v := nI 0) hx hb dX1_digest_1 (by decide) ?_
  have hS : va_S (inB ad 8 sz) s.heap _ _ := S_mono hS
  refine va_put (D := D) (ci := 1) (v := .int (nI 0)) (ty := .int) (C := RX1) (T := TX1) (N := 12) hx hb hts hiw tyX1 tyX1_ok nmX1 hown hK hP hD hS 0 m_at0 rfl 0 (by decide) (hts (.fieldLink RX1 34 "GloveCuttersModel" "thrown" "I") (by decide +kernel)) (fun _ h9 => h9) rfl (by decide +kernel) rfl rfl (Nat.le_of_ble_eq_true rfl) dX1_digest_2 (fun H locs hP hD hS => ?_)
  have hP : va_P D vwCl (wM cI ad (nI 0) n np nq F T) H := hP
  have hD : va_D (inB ad 8 sz) (wM cI ad (nI 0) n np nq F T) := hD
  refine lv_ldc2 (v := 1087) hx hb hown (hts (.constantLong RX1 155 (1087)) (by decide +kernel)) dX1_digest_5 ?_
  refine lv_lstore_n (lv' := [(1, .long 1087), (0, .ref (ad 0))]) hx hb dX1_digest_8 rfl hl (by decide) rfl (fun ls hl => ?_)
  refine lv_iconst (v := nI 0) hx hb dX1_digest_9 (by decide) ?_
  refine lv_istore_n (lv' := [(3, .int (nI 0)), (1, .long 1087), (0, .ref (ad 0))]) hx hb dX1_digest_10 rfl hl (by decide) rfl (fun ls hl => ?_)
  have L11 : ∀ (fu : Nat) (da : Int64) (a9 : Nat) (cc : Nat) (ss : Nat) (H : Heap) (locs : List Loc) (ls : Array Slot), 7 - a9 < fu → (a9 ≤ 7) → (da = dS (cnT n np nq F) 1087 a9) → (cc = 2 * a9) → (ss = 10 * a9) → va_P D vwCl (wM cI ad (nI 0) n np nq F T) H → va_D (inB ad 8 sz) (wM cI ad (nI 0) n np nq F T) → va_S (inB ad 8 sz) s.heap H locs → lv_has ls 5 [(0, .ref (ad 0)), (1, .long da), (3, .int (nI a9))] → W p l e R s m args below meth c H locs cc ss Q (F0 m 11 ls []) := by
    intro fu
    induction fu with
    | zero => intro _ _ _ _ _ _ _ h; exact absurd h (Nat.not_lt_zero _)
    | succ fu ih11 =>
      intro da a9 cc ss H locs ls hm11 ga ea hcc hss hP hD hS hl
      refine lv_iload_n hx hb dX1_digest_11 rfl (lv_at hl 2 rfl) ?_
      refine lv_bipush (v := nI 6) hx hb dX1_digest_12 (by decide) ?_
      refine nv_icmp_gt (tgt := 36) hx hb (by omega) (by omega) dX1_digest_14 (by decide) (fun c_1 => ?_) (fun c_1 => ?_)
      · refine lv_iconst (v := nI 0) hx hb dX1_digest_36 (by decide) ?_
        refine lv_istore_n (lv' := [(3, .int (nI 0)), (0, .ref (ad 0)), (1, .long da)]) hx hb dX1_digest_37 rfl hl (by decide) rfl (fun ls hl => ?_)
        have L38 : ∀ (fu : Nat) (db : Int64) (b9 : Nat) (H : Heap) (locs : List Loc) (ls : Array Slot), n - b9 < fu → (b9 ≤ n) → (db = dK F (dS (cnT n np nq F) 1087 7) b9) → va_P D vwCl (wM cI ad (nI 0) n np nq F T) H → va_D (inB ad 8 sz) (wM cI ad (nI 0) n np nq F T) → va_S (inB ad 8 sz) s.heap H locs → lv_has ls 5 [(0, .ref (ad 0)), (1, .long db), (3, .int (nI b9))] → W p l e R s m args below meth c H locs cc ss Q (F0 m 38 ls []) := by
          intro fu
          induction fu with
          | zero => intro _ _ _ _ _ h; exact absurd h (Nat.not_lt_zero _)
          | succ fu ih38 =>
            intro db b9 H locs ls hm38 gb eb hP hD hS hl
            refine lv_iload_n hx hb dX1_digest_38 rfl (lv_at hl 2 rfl) ?_
            refine lv_aload_n hx hb dX1_digest_39 rfl (lv_at hl 0 rfl) ?_
            refine va_get (D := D) (ci := 1) (v := .int (nI n)) (C := RX1) (T := TX1) (N := 12) hx hb hts hiw hown hK hP 0 m_at0 rfl 1 (by decide) (hts (.fieldLink RX1 38 "GloveCuttersModel" "skins" "I") (by decide +kernel)) (fun _ h9 => h9) rfl dX1_digest_40 ?_
            refine nv_icmp_ge (tgt := 118) hx hb (by omega) (by omega) dX1_digest_43 (by decide) (fun c_2 => ?_) (fun c_2 => ?_)
            · refine lv_iconst (v := nI 0) hx hb dX1_digest_118 (by decide) ?_
              refine lv_istore_n (lv' := [(3, .int (nI 0)), (0, .ref (ad 0)), (1, .long db)]) hx hb dX1_digest_119 rfl hl (by decide) rfl (fun ls hl => ?_)
              have L120 : ∀ (fu : Nat) (dp : Int64) (p9 : Nat) (H : Heap) (locs : List Loc) (ls : Array Slot), np - p9 < fu → (p9 ≤ np) → (dp = dP F (dK F (dS (cnT n np nq F) 1087 7) n) p9) → va_P D vwCl (wM cI ad (nI 0) n np nq F T) H → va_D (inB ad 8 sz) (wM cI ad (nI 0) n np nq F T) → va_S (inB ad 8 sz) s.heap H locs → lv_has ls 5 [(0, .ref (ad 0)), (1, .long dp), (3, .int (nI p9))] → W p l e R s m args below meth c H locs cc ss Q (F0 m 120 ls []) := by
                intro fu
                induction fu with
                | zero => intro _ _ _ _ _ h; exact absurd h (Nat.not_lt_zero _)
                | succ fu ih120 =>
                  intro dp p9 H locs ls hm120 gp ep hP hD hS hl
                  refine lv_iload_n hx hb dX1_digest_120 rfl (lv_at hl 2 rfl) ?_
                  refine lv_aload_n hx hb dX1_digest_121 rfl (lv_at hl 0 rfl) ?_
                  refine va_get (D := D) (ci := 1) (v := .int (nI np)) (C := RX1) (T := TX1) (N := 12) hx hb hts hiw hown hK hP 0 m_at0 rfl 4 (by decide) (hts (.fieldLink RX1 67 "GloveCuttersModel" "pieces" "I") (by decide +kernel)) (fun _ h9 => h9) rfl dX1_digest_122 ?_
                  refine nv_icmp_ge (tgt := 164) hx hb (by omega) (by omega) dX1_digest_125 (by decide) (fun c_3 => ?_) (fun c_3 => ?_)
                  · refine lv_iconst (v := nI 0) hx hb dX1_digest_164 (by decide) ?_
                    refine lv_istore_n (lv' := [(3, .int (nI 0)), (0, .ref (ad 0)), (1, .long dp)]) hx hb dX1_digest_165 rfl hl (by decide) rfl (fun ls hl => ?_)
                    have L166 : ∀ (fu : Nat) (dq : Int64) (q9 : Nat) (H : Heap) (locs : List Loc) (ls : Array Slot), (5 * nq) - q9 < fu → (q9 ≤ (5 * nq)) → (dq = dS (mBook F) (dP F (dK F (dS (cnT n np nq F) 1087 7) n) np) q9) → va_P D vwCl (wM cI ad (nI 0) n np nq F T) H → va_D (inB ad 8 sz) (wM cI ad (nI 0) n np nq F T) → va_S (inB ad 8 sz) s.heap H locs → lv_has ls 5 [(0, .ref (ad 0)), (1, .long dq), (3, .int (nI q9))] → W p l e R s m args below meth c H locs cc ss Q (F0 m 166 ls []) := by
                      intro fu
                      induction fu with
                      | zero => intro _ _ _ _ _ h; exact absurd h (Nat.not_lt_zero _)
                      | succ fu ih166 =>
                        intro dq q9 H locs ls hm166 gq eq hP hD hS hl
                        refine lv_iload_n hx hb dX1_digest_166 rfl (lv_at hl 2 rfl) ?_
                        refine lv_iconst (v := nI 5) hx hb dX1_digest_167 (by decide) ?_
                        refine lv_aload_n hx hb dX1_digest_168 rfl (lv_at hl 0 rfl) ?_
                        refine va_get (D := D) (ci := 1) (v := .int (nI nq)) (C := RX1) (T := TX1) (N := 12) hx hb hts hiw hown hK hP 0 m_at0 rfl 9 (by decide) (hts (.fieldLink RX1 119 "GloveCuttersModel" "pairs" "I") (by decide +kernel)) (fun _ h9 => h9) rfl dX1_digest_169 ?_
                        refine nv_imul hx hb dX1_digest_172 ?_
                        refine nv_icmp_ge (tgt := 196) hx hb (by omega) (by omega) dX1_digest_173 (by decide) (fun c_4 => ?_) (fun c_4 => ?_)
                        · refine lv_lload_n hx hb dX1_digest_196 rfl (lv_at hl 1 rfl) ?_
                          rw [← hQ]
                          refine W.widen (k := 14) (n := 70) (by omega) (by omega) ?_
                          exact W.lret (v := dq) hx hb hr (fun t ht hW => ⟨⟨dq, (), rfl, (by rw [eq, show q9 = 5 * nq by omega, dS_book]; rfl), (by show va_P D vwCl (wM cI ad (nI 0) n np nq F T) t.heap; rw [ht]; exact hP)⟩, hS.F ht⟩) hS.2.2 dX1_digest_197
                        · refine lv_lload_n hx hb dX1_digest_176 rfl (lv_at hl 1 rfl) ?_
                          refine lv_ldc2 (v := 31) hx hb hown (hts (.constantLong RX1 157 (31)) (by decide +kernel)) dX1_digest_177 ?_
                          refine lv_lmul hx hb dX1_digest_180 ?_
                          refine lv_aload_n hx hb dX1_digest_181 rfl (lv_at hl 0 rfl) ?_
                          refine va_get (D := D) (ci := 1) (v := .ref (ad 7)) (C := RX1) (T := TX1) (N := 12) hx hb hts hiw hown hK hP 0 m_at0 rfl 10 (by decide) (hts (.fieldLink RX1 28 "GloveCuttersModel" "book" "[I") (by decide +kernel)) (fun _ h9 => h9) rfl dX1_digest_182 ?_
                          refine lv_iload_n hx hb dX1_digest_185 rfl (lv_at hl 2 rfl) ?_
                          refine nv_iald hx hb hK hP 7 0 m_at7 rfl (by omega) (by omega) dX1_digest_186 ?_
                          refine lv_i2l hx hb dX1_digest_187 rfl ?_
                          refine lv_ladd hx hb dX1_digest_188 ?_
                          refine lv_lstore_n (lv' := [(1, .long ((dq * 31) + ((mBook F q9).toInt64))), (0, .ref (ad 0)), (3, .int (nI q9))]) hx hb dX1_digest_189 rfl hl (by decide) rfl (fun ls hl => ?_)
                          refine lv_iinc (k := 2) (v := nI (q9 + 1)) (lv' := [(3, .int (nI (q9 + 1))), (1, .long ((dq * 31) + ((mBook F q9).toInt64))), (0, .ref (ad 0))]) hx hb dX1_digest_190 hl rfl (nI_add q9 1) (by decide) rfl (fun ls hl => ?_)
                          refine lv_goto (tgt := 166) hx hb dX1_digest_193 (by decide) ?_
                          exact ih166 ((dq * 31) + ((mBook F q9).toInt64)) (q9 + 1) _ _ _ (by omega) (by omega) (by rw [eq]; rfl) hP hD hS (lv_sub hl [2, 1, 0] rfl)
                    exact L166 _ dp 0 _ _ _ (Nat.lt_succ_self _) (by omega) (by rw [ep, show p9 = np by omega]; rfl) hP hD hS (lv_sub hl [1, 2, 0] rfl)
                  · refine lv_iconst (v := nI 0) hx hb dX1_digest_128 (by decide) ?_
                    refine lv_istore (lv' := [(4, .int (nI 0)), (0, .ref (ad 0)), (1, .long dp), (3, .int (nI p9))]) hx hb dX1_digest_129 hl (by decide) rfl (fun ls hl => ?_)
                    have L131 : ∀ (fu : Nat) (dv : Int64) (v9 : Nat) (H : Heap) (locs : List Loc) (ls : Array Slot), 4 - v9 < fu → (v9 ≤ 4) → (dv = dS (pcT F p9) dp v9) → va_P D vwCl (wM cI ad (nI 0) n np nq F T) H → va_D (inB ad 8 sz) (wM cI ad (nI 0) n np nq F T) → va_S (inB ad 8 sz) s.heap H locs → lv_has ls 5 [(0, .ref (ad 0)), (1, .long dv), (3, .int (nI p9)), (4, .int (nI v9))] → W p l e R s m args below meth c H locs cc ss Q (F0 m 131 ls []) := by
                      intro fu
                      induction fu with
                      | zero => intro _ _ _ _ _ h; exact absurd h (Nat.not_lt_zero _)
                      | succ fu ih131 =>
                        intro dv v9 H locs ls hm131 gv ev hP hD hS hl
                        refine lv_iload hx hb dX1_digest_131 (lv_at hl 3 rfl) ?_
                        refine lv_iconst (v := nI 3) hx hb dX1_digest_133 (by decide) ?_
                        refine nv_icmp_gt (tgt := 158) hx hb (by omega) (by omega) dX1_digest_134 (by decide) (fun c_5 => ?_) (fun c_5 => ?_)
                        · refine lv_iinc (k := 2) (v := nI (p9 + 1)) (lv' := [(3, .int (nI (p9 + 1))), (0, .ref (ad 0)), (1, .long dv), (4, .int (nI v9))]) hx hb dX1_digest_158 hl rfl (nI_add p9 1) (by decide) rfl (fun ls hl => ?_)
                          refine lv_goto (tgt := 120) hx hb dX1_digest_161 (by decide) ?_
                          exact ih120 dv (p9 + 1) _ _ _ (by omega) (by omega) (by rw [ev, show v9 = 4 by omega, ep]; rfl) hP hD hS (lv_sub hl [1, 2, 0] rfl)
                        · refine lv_lload_n hx hb dX1_digest_137 rfl (lv_at hl 1 rfl) ?_
                          refine lv_ldc2 (v := 31) hx hb hown (hts (.constantLong RX1 157 (31)) (by decide +kernel)) dX1_digest_138 ?_
                          refine lv_lmul hx hb dX1_digest_141 ?_
                          refine lv_aload_n hx hb dX1_digest_142 rfl (lv_at hl 0 rfl) ?_
                          refine lv_iload_n hx hb dX1_digest_143 rfl (lv_at hl 2 rfl) ?_
                          refine lv_iload hx hb dX1_digest_144 (lv_at hl 3 rfl) ?_
                          refine va_calli (va_runV (As := [.int (nI p9), .int (nI v9)]) (rest := [.long (dv * 31)]) ⟨hx, hb, hml, hown, hts⟩ (c_X1_pieceTold l D cI ad (nI 0) n np nq F T p9 v9 hnp (by omega) (by omega)) (cwV 2 hts gX1_digest_X1_pieceTold rfl rfl rfl (by decide +kernel) ⟨Nat.le_trans (Nat.le_of_ble_eq_true rfl) hRf, Nat.le_trans (Nat.le_of_ble_eq_true rfl) hRl⟩) (pr_V hP (ci := 1) (q0 := 0) rfl m_at0 rfl hP hK [0] rfl V0_at V0_c) rfl rfl hl.1 rfl (lv_room (Nat.le_of_ble_eq_true rfl)) dX1_digest_146 ⟨by omega, by omega⟩) hS (fun _ _ h => h.elim) (fun _ h => h.elim) (fun r_6 _ t H1 locs ht hvm hw_6 hB hz hk hS => ?_)
                          have hP := P_kept hP hk
                          obtain rfl := hw_6
                          refine lv_i2l hx hb dX1_digest_149 rfl ?_
                          refine lv_ladd hx hb dX1_digest_150 ?_
                          refine lv_lstore_n (lv' := [(1, .long ((dv * 31) + ((pcT F p9 v9).toInt64))), (0, .ref (ad 0)), (3, .int (nI p9)), (4, .int (nI v9))]) hx hb dX1_digest_151 rfl hl (by decide) rfl (fun ls hl => ?_)
                          refine lv_iinc (k := 3) (v := nI (v9 + 1)) (lv' := [(4, .int (nI (v9 + 1))), (1, .long ((dv * 31) + ((pcT F p9 v9).toInt64))), (0, .ref (ad 0)), (3, .int (nI p9))]) hx hb dX1_digest_152 hl rfl (nI_add v9 1) (by decide) rfl (fun ls hl => ?_)
                          refine lv_goto (tgt := 131) hx hb dX1_digest_155 (by decide) ?_
                          exact ih131 ((dv * 31) + ((pcT F p9 v9).toInt64)) (v9 + 1) _ _ _ (by omega) (by omega) (by rw [ev]; rfl) hP hD hS (lv_sub hl [2, 1, 3, 0] rfl)
                    exact L131 _ dp 0 _ _ _ (Nat.lt_succ_self _) (by omega) rfl hP hD hS (lv_sub hl [1, 2, 3, 0] rfl)
              exact L120 _ db 0 _ _ _ (Nat.lt_succ_self _) (by omega) (by rw [eb, show b9 = n by omega]; rfl) hP hD hS (lv_sub hl [1, 2, 0] rfl)
            · refine lv_iconst (v := nI 0) hx hb dX1_digest_46 (by decide) ?_
              refine lv_istore (lv' := [(4, .int (nI 0)), (0, .ref (ad 0)), (1, .long db), (3, .int (nI b9))]) hx hb dX1_digest_47 hl (by decide) rfl (fun ls hl => ?_)
              have L49 : ∀ (fu : Nat) (du : Int64) (u9 : Nat) (H : Heap) (locs : List Loc) (ls : Array Slot), 6 - u9 < fu → (u9 ≤ 6) → (du = dS (skT F b9) db u9) → va_P D vwCl (wM cI ad (nI 0) n np nq F T) H → va_D (inB ad 8 sz) (wM cI ad (nI 0) n np nq F T) → va_S (inB ad 8 sz) s.heap H locs → lv_has ls 5 [(0, .ref (ad 0)), (1, .long du), (3, .int (nI b9)), (4, .int (nI u9))] → W p l e R s m args below meth c H locs cc ss Q (F0 m 49 ls []) := by
                intro fu
                induction fu with
                | zero => intro _ _ _ _ _ h; exact absurd h (Nat.not_lt_zero _)
                | succ fu ih49 =>
                  intro du u9 H locs ls hm49 gu eu hP hD hS hl
                  refine lv_iload hx hb dX1_digest_49 (lv_at hl 3 rfl) ?_
                  refine lv_iconst (v := nI 5) hx hb dX1_digest_51 (by decide) ?_
                  refine nv_icmp_gt (tgt := 76) hx hb (by omega) (by omega) dX1_digest_52 (by decide) (fun c_7 => ?_) (fun c_7 => ?_)
                  · refine lv_iconst (v := nI 0) hx hb dX1_digest_76 (by decide) ?_
                    refine lv_istore (lv' := [(4, .int (nI 0)), (0, .ref (ad 0)), (1, .long du), (3, .int (nI b9))]) hx hb dX1_digest_77 hl (by decide) rfl (fun ls hl => ?_)
                    have L79 : ∀ (fu : Nat) (dw : Int64) (w9 : Nat) (H : Heap) (locs : List Loc) (ls : Array Slot), 96 - w9 < fu → (w9 ≤ 96) → (dw = dS (F (14 + b9)) (dS (skT F b9) (dK F (dS (cnT n np nq F) 1087 7) b9) 6) w9) → va_P D vwCl (wM cI ad (nI 0) n np nq F T) H → va_D (inB ad 8 sz) (wM cI ad (nI 0) n np nq F T) → va_S (inB ad 8 sz) s.heap H locs → lv_has ls 5 [(0, .ref (ad 0)), (1, .long dw), (3, .int (nI b9)), (4, .int (nI w9))] → W p l e R s m args below meth c H locs cc ss Q (F0 m 79 ls []) := by
                      intro fu
                      induction fu with
                      | zero => intro _ _ _ _ _ h; exact absurd h (Nat.not_lt_zero _)
                      | succ fu ih79 =>
                        intro dw w9 H locs ls hm79 gw ew hP hD hS hl
                        refine lv_iload hx hb dX1_digest_79 (lv_at hl 3 rfl) ?_
                        refine lv_bipush (v := nI 96) hx hb dX1_digest_81 (by decide) ?_
                        refine nv_icmp_ge (tgt := 112) hx hb (by omega) (by omega) dX1_digest_83 (by decide) (fun c_8 => ?_) (fun c_8 => ?_)
                        · refine lv_iinc (k := 2) (v := nI (b9 + 1)) (lv' := [(3, .int (nI (b9 + 1))), (0, .ref (ad 0)), (1, .long dw), (4, .int (nI w9))]) hx hb dX1_digest_112 hl rfl (nI_add b9 1) (by decide) rfl (fun ls hl => ?_)
                          refine lv_goto (tgt := 38) hx hb dX1_digest_115 (by decide) ?_
                          exact ih38 dw (b9 + 1) _ _ _ (by omega) (by omega) (by rw [ew, show w9 = 96 by omega]; rfl) hP hD hS (lv_sub hl [1, 2, 0] rfl)
                        · refine lv_lload_n hx hb dX1_digest_86 rfl (lv_at hl 1 rfl) ?_
                          refine lv_ldc2 (v := 31) hx hb hown (hts (.constantLong RX1 157 (31)) (by decide +kernel)) dX1_digest_87 ?_
                          refine lv_lmul hx hb dX1_digest_90 ?_
                          refine lv_aload_n hx hb dX1_digest_91 rfl (lv_at hl 0 rfl) ?_
                          refine va_get (D := D) (ci := 1) (v := .ref (ad 2)) (C := RX1) (T := TX1) (N := 12) hx hb hts hiw hown hK hP 0 m_at0 rfl 3 (by decide) (hts (.fieldLink RX1 13 "GloveCuttersModel" "cells" "[I") (by decide +kernel)) (fun _ h9 => h9) rfl dX1_digest_92 ?_
                          refine lv_bipush (v := nI 96) hx hb dX1_digest_95 (by decide) ?_
                          refine lv_iload_n hx hb dX1_digest_97 rfl (lv_at hl 2 rfl) ?_
                          refine nv_imul hx hb dX1_digest_98 ?_
                          refine lv_iload hx hb dX1_digest_99 (lv_at hl 3 rfl) ?_
                          refine nv_iadd hx hb dX1_digest_101 ?_
                          refine nv_iald hx hb hK hP 2 0 m_at2 rfl (by omega) (by omega) dX1_digest_102 ?_
                          rw [show mCells F (96 * b9 + w9) = F (14 + b9) w9 from mCells_r (by omega)]
                          refine lv_i2l hx hb dX1_digest_103 rfl ?_
                          refine lv_ladd hx hb dX1_digest_104 ?_
                          refine lv_lstore_n (lv' := [(1, .long ((dw * 31) + ((F (14 + b9) w9).toInt64))), (0, .ref (ad 0)), (3, .int (nI b9)), (4, .int (nI w9))]) hx hb dX1_digest_105 rfl hl (by decide) rfl (fun ls hl => ?_)
                          refine lv_iinc (k := 3) (v := nI (w9 + 1)) (lv' := [(4, .int (nI (w9 + 1))), (1, .long ((dw * 31) + ((F (14 + b9) w9).toInt64))), (0, .ref (ad 0)), (3, .int (nI b9))]) hx hb dX1_digest_106 hl rfl (nI_add w9 1) (by decide) rfl (fun ls hl => ?_)
                          refine lv_goto (tgt := 79) hx hb dX1_digest_109 (by decide) ?_
                          exact ih79 ((dw * 31) + ((F (14 + b9) w9).toInt64)) (w9 + 1) _ _ _ (by omega) (by omega) (by rw [ew]; rfl) hP hD hS (lv_sub hl [2, 1, 3, 0] rfl)
                    exact L79 _ du 0 _ _ _ (Nat.lt_succ_self _) (by omega) (by rw [eu, show u9 = 6 by omega, eb]; rfl) hP hD hS (lv_sub hl [1, 2, 3, 0] rfl)
                  · refine lv_lload_n hx hb dX1_digest_55 rfl (lv_at hl 1 rfl) ?_
                    refine lv_ldc2 (v := 31) hx hb hown (hts (.constantLong RX1 157 (31)) (by decide +kernel)) dX1_digest_56 ?_
                    refine lv_lmul hx hb dX1_digest_59 ?_
                    refine lv_aload_n hx hb dX1_digest_60 rfl (lv_at hl 0 rfl) ?_
                    refine lv_iload_n hx hb dX1_digest_61 rfl (lv_at hl 2 rfl) ?_
                    refine lv_iload hx hb dX1_digest_62 (lv_at hl 3 rfl) ?_
                    refine va_calli (va_runV (As := [.int (nI b9), .int (nI u9)]) (rest := [.long (du * 31)]) ⟨hx, hb, hml, hown, hts⟩ (c_X1_skinTold l D cI ad (nI 0) n np nq F T b9 u9 hnp hpc (by omega) (by omega)) (cwV 2 hts gX1_digest_X1_skinTold rfl rfl rfl (by decide +kernel) ⟨Nat.le_trans (Nat.le_of_ble_eq_true rfl) hRf, Nat.le_trans (Nat.le_of_ble_eq_true rfl) hRl⟩) (pr_V hP (ci := 1) (q0 := 0) rfl m_at0 rfl hP hK [0] rfl V0_at V0_c) rfl rfl hl.1 rfl (lv_room (Nat.le_of_ble_eq_true rfl)) dX1_digest_64 ⟨by omega, by omega⟩) hS (fun _ _ h => h.elim) (fun _ h => h.elim) (fun r_9 _ t H1 locs ht hvm hw_9 hB hz hk hS => ?_)
                    have hP := P_kept hP hk
                    obtain rfl := hw_9
                    refine lv_i2l hx hb dX1_digest_67 rfl ?_
                    refine lv_ladd hx hb dX1_digest_68 ?_
                    refine lv_lstore_n (lv' := [(1, .long ((du * 31) + ((skT F b9 u9).toInt64))), (0, .ref (ad 0)), (3, .int (nI b9)), (4, .int (nI u9))]) hx hb dX1_digest_69 rfl hl (by decide) rfl (fun ls hl => ?_)
                    refine lv_iinc (k := 3) (v := nI (u9 + 1)) (lv' := [(4, .int (nI (u9 + 1))), (1, .long ((du * 31) + ((skT F b9 u9).toInt64))), (0, .ref (ad 0)), (3, .int (nI b9))]) hx hb dX1_digest_70 hl rfl (nI_add u9 1) (by decide) rfl (fun ls hl => ?_)
                    refine lv_goto (tgt := 49) hx hb dX1_digest_73 (by decide) ?_
                    exact ih49 ((du * 31) + ((skT F b9 u9).toInt64)) (u9 + 1) _ _ _ (by omega) (by omega) (by rw [eu]; rfl) hP hD hS (lv_sub hl [2, 1, 3, 0] rfl)
              exact L49 _ db 0 _ _ _ (Nat.lt_succ_self _) (by omega) rfl hP hD hS (lv_sub hl [1, 2, 3, 0] rfl)
        exact L38 _ da 0 _ _ _ (Nat.lt_succ_self _) (by omega) (by rw [ea, show a9 = 7 by omega]; rfl) hP hD hS (lv_sub hl [1, 2, 0] rfl)
      · refine lv_lload_n hx hb dX1_digest_17 rfl (lv_at hl 1 rfl) ?_
        refine lv_ldc2 (v := 31) hx hb hown (hts (.constantLong RX1 157 (31)) (by decide +kernel)) dX1_digest_18 ?_
        refine lv_lmul hx hb dX1_digest_21 ?_
        refine lv_aload_n hx hb dX1_digest_22 rfl (lv_at hl 0 rfl) ?_
        refine lv_iload_n hx hb dX1_digest_23 rfl (lv_at hl 2 rfl) ?_
        refine va_calli (va_runV (As := [.int (nI a9)]) (rest := [.long (da * 31)]) ⟨hx, hb, hml, hown, hts⟩ (c_X1_counted l D cI ad (nI 0) n np nq F T _ a9 hinj hnp hnq hrip (by omega)) (cwV 1 hts gX1_digest_X1_counted rfl rfl rfl (by decide +kernel) ⟨Nat.le_trans (Nat.le_of_ble_eq_true rfl) hRf, Nat.le_trans (Nat.le_of_ble_eq_true rfl) hRl⟩) (pr_V hP (ci := 1) (q0 := 0) rfl m_at0 rfl hP hK [0] rfl (fun U hU _ => congrArg Array.size hU) (fun _ _ _ _ h => h)) rfl rfl hl.1 rfl (lv_room (Nat.le_of_ble_eq_true rfl)) dX1_digest_24 ⟨by omega, by omega⟩) hS (fun q _ h => h.imp id (fun z => by rw [← hsz]; exact Nat.le_trans hS.1 z)) (fun q h => h.imp id (fun z => by rw [← hsz]; exact Nat.le_trans hS.1 z)) (fun r_10 _ t H1 locs ht hvm hw_10 hB hz hk hS => ?_)
        rw [ht] at hB
        have hP := hB
        have hP : va_P D vwCl (wM cI ad (nI 0) n np nq F T) H1 := hP
        have hD : va_D (inB ad 8 sz) (wM cI ad (nI 0) n np nq F T) := ((m_D hinj).weaken (fun _ _ _ h => Or.inl h))
        obtain rfl := hw_10
        refine lv_i2l hx hb dX1_digest_27 rfl ?_
        refine lv_ladd hx hb dX1_digest_28 ?_
        refine lv_lstore_n (lv' := [(1, .long ((da * 31) + ((cnT n np nq F a9).toInt64))), (0, .ref (ad 0)), (3, .int (nI a9))]) hx hb dX1_digest_29 rfl hl (by decide) rfl (fun ls hl => ?_)
        refine lv_iinc (k := 2) (v := nI (a9 + 1)) (lv' := [(3, .int (nI (a9 + 1))), (1, .long ((da * 31) + ((cnT n np nq F a9).toInt64))), (0, .ref (ad 0))]) hx hb dX1_digest_30 hl rfl (nI_add a9 1) (by decide) rfl (fun ls hl => ?_)
        refine lv_goto (tgt := 11) hx hb dX1_digest_33 (by decide) ?_
        exact ih11 ((da * 31) + ((cnT n np nq F a9).toInt64)) (a9 + 1) (cc + 2) (ss + 10) _ _ _ (by omega) (by omega) (by rw [ea]; rfl) (by omega) (by omega) hP hD hS (lv_sub hl [2, 1, 0] rfl)
  exact L11 _ 1087 0 0 0 _ _ _ (Nat.lt_succ_self _) (by omega) rfl (by omega) (by omega) hP hD hS (lv_sub hl [2, 1, 0] rfl)
set_option maxHeartbeats 4000000 in
set_option maxRecDepth 100000 in
/-- share -/
theorem c_X1_share (l : Launch) (D : va_G) (cI : ClassId) (ad : Nat → Nat) (th : Int32) (n np nq : Nat) (F : Nat → Nat → Int32) (T : Nat → Int32) (hinj : inj ad 8) (hn : n ≤ 10) : MetD lw_cs l yX1_share wsX1_share ({ frames := 1, cells := 0, slots := 0, locals := 26 } : Room) (va_Pc [.ref (ad 0)] (Pr D [(cI, .int)] (wM cI ad th n np nq F T) V0)) (va_Qd (S := Unit) (fun (r : UInt64) (_ : Unit) => alike64 r (shV F n) = true) (fun (_ : Unit) (t : State) => va_P D vwCl (wM cI ad (nI 0) n np nq F T) t.heap) (inA ad 8)) 0 0 (inA ad 8) := by
  refine MetD.ofW (cc := cX1_share) (maxL := 4) (ret := (some .double)) (by decide) rfl ?_
  intro p e s m args below meth c s₁ B hml hv hd0
  obtain ⟨hargs, hP, hK, hV⟩ := hv
  have hx := B.exec
  have hb := B.bytes
  have hr := B.returns
  have hts := atoms_spec (ws := wsX1_share) B.pre
  have hown : s.vm.findClass RX1 = some m.cls := findClass_of_methodNamed B.named
  have hlocks := B.notSynchronized
  have hts := dr_words hts s.drawn
  have hK : va_K D vwCl [(cI, .int)] (s.setDrawn s.drawn) := hK
  have hS : va_S (fun _ => False) s.heap s.heap [] := va_S.rf
  have hiw : ∀ w ∈ wsX10, w ∈ wsX1_share := (fun _ h => List.mem_cons_of_mem _ (List.mem_append_right _ h))
  have hRf : 1 ≤ (headSpec wsX1_share ({ frames := 1, cells := 0, slots := 0, locals := 26 } : Room)).room.frames := Nat.le_refl _
  have hRl : 26 ≤ (headSpec wsX1_share ({ frames := 1, cells := 0, slots := 0, locals := 26 } : Room)).room.locals := Nat.le_refl _
  have hRc : 0 ≤ (headSpec wsX1_share ({ frames := 1, cells := 0, slots := 0, locals := 26 } : Room)).room.cells := Nat.le_refl _
  have hRs : 0 ≤ (headSpec wsX1_share ({ frames := 1, cells := 0, slots := 0, locals := 26 } : Room)).room.slots := Nat.le_refl _
  generalize (headSpec wsX1_share ({ frames := 1, cells := 0, slots := 0, locals := 26 } : Room)).room = R at hRf hRl hRc hRs ⊢
  have hl := lv_entry [.ref (ad 0)] (n := 4) (Nat.le_of_ble_eq_true rfl)
  refine W.eq (show entryFrame m args 4 = _ from by rw [hargs, lg_entry_eq]) ?_
  generalize (lg_sl [.ref (ad 0)] ++ List.replicate (4 - (lg_sl [.ref (ad 0)]).length) Slot.unset).toArray = ls at hl ⊢
  have hl : lv_has ls 4 [(0, .ref (ad 0))] := hl
  have hD : va_D (inA ad 8) (wM cI ad th n np nq F T) := m_D hinj
  generalize hQ : MQD _ _ _ _ _ _ _ _ = Q
  refine lv_aload_n hx hb dX1_share_0 rfl (lv_at hl 0 rfl) ?_
  refine lv_iconst (v := nI 0) hx hb dX1_share_1 (by decide) ?_
  have hS : va_S (inA ad 8) s.heap _ _ := S_mono hS
  refine va_put (D := D) (ci := 1) (v := .int (nI 0)) (ty := .int) (C := RX1) (T := TX1) (N := 12) hx hb hts hiw tyX1 tyX1_ok nmX1 hown hK hP hD hS 0 m_at0 rfl 0 (by decide) (hts (.fieldLink RX1 34 "GloveCuttersModel" "thrown" "I") (by decide +kernel)) (fun _ h9 => h9) rfl (by decide +kernel) rfl rfl (Nat.le_of_ble_eq_true rfl) dX1_share_2 (fun H locs hP hD hS => ?_)
  have hP : va_P D vwCl (wM cI ad (nI 0) n np nq F T) H := hP
  have hD : va_D (inA ad 8) (wM cI ad (nI 0) n np nq F T) := hD
  refine lv_iconst (v := nI 0) hx hb dX1_share_5 (by decide) ?_
  refine lv_istore_n (lv' := [(1, .int (nI 0)), (0, .ref (ad 0))]) hx hb dX1_share_6 rfl hl (by decide) rfl (fun ls hl => ?_)
  refine lv_iconst (v := nI 0) hx hb dX1_share_7 (by decide) ?_
  refine lv_istore_n (lv' := [(2, .int (nI 0)), (1, .int (nI 0)), (0, .ref (ad 0))]) hx hb dX1_share_8 rfl hl (by decide) rfl (fun ls hl => ?_)
  refine lv_iconst (v := nI 0) hx hb dX1_share_9 (by decide) ?_
  refine lv_istore_n (lv' := [(3, .int (nI 0)), (2, .int (nI 0)), (1, .int (nI 0)), (0, .ref (ad 0))]) hx hb dX1_share_10 rfl hl (by decide) rfl (fun ls hl => ?_)
  have L11 : ∀ (fu : Nat) (a9 : Nat) (b9 : Nat) (i9 : Nat) (H : Heap) (locs : List Loc) (ls : Array Slot), n - i9 < fu → (i9 ≤ n) → (a9 = shC F i9) → (b9 = shA F i9) → (a9 ≤ 96 * i9) → (b9 ≤ 96 * i9) → va_P D vwCl (wM cI ad (nI 0) n np nq F T) H → va_D (inA ad 8) (wM cI ad (nI 0) n np nq F T) → va_S (inA ad 8) s.heap H locs → lv_has ls 4 [(0, .ref (ad 0)), (1, .int (nI a9)), (2, .int (nI b9)), (3, .int (nI i9))] → W p l e R (s.setDrawn s.drawn) m args below meth c H locs 0 0 Q (F0 m 11 ls []) := by
    intro fu
    induction fu with
    | zero => intro _ _ _ _ _ _ h; exact absurd h (Nat.not_lt_zero _)
    | succ fu ih11 =>
      intro a9 b9 i9 H locs ls hm11 h1 h2 h3 h4 h5 hP hD hS hl
      refine lv_iload_n hx hb dX1_share_11 rfl (lv_at hl 3 rfl) ?_
      refine lv_aload_n hx hb dX1_share_12 rfl (lv_at hl 0 rfl) ?_
      refine va_get (D := D) (ci := 1) (v := .int (nI n)) (C := RX1) (T := TX1) (N := 12) hx hb hts hiw hown hK hP 0 m_at0 rfl 1 (by decide) (hts (.fieldLink RX1 38 "GloveCuttersModel" "skins" "I") (by decide +kernel)) (fun _ h9 => h9) rfl dX1_share_13 ?_
      refine nv_icmp_ge (tgt := 66) hx hb (by omega) (by omega) dX1_share_16 (by decide) (fun c_1 => ?_) (fun c_1 => ?_)
      · refine lv_iload_n hx hb dX1_share_66 rfl (lv_at hl 2 rfl) ?_
        refine nv_if_ne (tgt := 74) hx hb (by omega) dX1_share_67 (by decide) (fun c_2 => ?_) (fun c_2 => ?_)
        · refine lv_iload_n hx hb dX1_share_74 rfl (lv_at hl 1 rfl) ?_
          refine lv_i2d hx hb dX1_share_75 ?_
          refine lv_iload_n hx hb dX1_share_76 rfl (lv_at hl 2 rfl) ?_
          refine lv_i2d hx hb dX1_share_77 ?_
          refine lv_ddiv_any hd0 lw_bits hx hb dX1_share_78 (fun r_3 d1 hal hd1 => ?_)
          rw [← hQ]
          refine W.endD hd1 ?_
          exact W.dret (v := r_3) hx hb hr (fun t ht hW => ⟨⟨r_3, (), rfl, (by unfold shV; rw [← show i9 = n by omega, ← h3, ← h2, if_neg (by omega)]; exact hal), (by show va_P D vwCl (wM cI ad (nI 0) n np nq F T) t.heap; rw [ht]; exact hP)⟩, hS.F ht⟩) hS.2.2 dX1_share_79
        · refine lv_dconst0 hx hb dX1_share_70 ?_
          refine lv_goto (tgt := 79) hx hb dX1_share_71 (by decide) ?_
          rw [← hQ]
          refine W.endD hd0 ?_
          exact W.dret (v := 0) hx hb hr (fun t ht hW => ⟨⟨0, (), rfl, (by unfold shV; rw [← show i9 = n by omega, ← h3, if_pos (by omega)]; rfl), (by show va_P D vwCl (wM cI ad (nI 0) n np nq F T) t.heap; rw [ht]; exact hP)⟩, hS.F ht⟩) hS.2.2 dX1_share_79
      · refine lv_iload_n hx hb dX1_share_19 rfl (lv_at hl 1 rfl) ?_
        refine lv_aload_n hx hb dX1_share_20 rfl (lv_at hl 0 rfl) ?_
        refine va_get (D := D) (ci := 1) (v := .ref (ad 2)) (C := RX1) (T := TX1) (N := 12) hx hb hts hiw hown hK hP 0 m_at0 rfl 3 (by decide) (hts (.fieldLink RX1 13 "GloveCuttersModel" "cells" "[I") (by decide +kernel)) (fun _ h9 => h9) rfl dX1_share_21 ?_
        refine lv_bipush (v := nI 96) hx hb dX1_share_24 (by decide) ?_
        refine lv_iload_n hx hb dX1_share_26 rfl (lv_at hl 3 rfl) ?_
        refine nv_imul hx hb dX1_share_27 ?_
        refine lv_bipush (v := nI 12) hx hb dX1_share_28 (by decide) ?_
        refine lv_bipush (v := nI 8) hx hb dX1_share_30 (by decide) ?_
        refine lv_iconst (v := nI 3) hx hb dX1_share_32 (by decide) ?_
        refine va_calli (va_runS (As := [.ref (ad 2), .int (nI (96 * i9)), .int (nI 12), .int (nI 8), .int (nI 3)]) (rest := [.int (nI a9)]) ⟨hx, hb, hml, hown, hts⟩ (c_X1_many l D cI (ad 2) 960 (mCells F) (96 * i9) 12 8 (nI 3) (by omega) (by omega) (by omega) (by omega) (by omega)) (va_cwS 5 hts gX1_share_X1_many rfl rfl rfl (by decide +kernel) ⟨Nat.le_trans (Nat.le_of_ble_eq_true rfl) hRf, Nat.le_trans (Nat.le_of_ble_eq_true rfl) hRl⟩) (pr_S (P_pick hP (k := 2) m_at2) hK [0] rfl V0_at V0_c) rfl rfl hl.1 rfl (lv_room (Nat.le_of_ble_eq_true rfl)) dX1_share_33 ⟨Nat.le_trans (Nat.le_of_ble_eq_true rfl) hRc, Nat.le_trans (Nat.le_of_ble_eq_true rfl) hRs⟩) hS (fun _ _ h => h.elim) (fun _ h => h.elim) (fun r_4 _ t H1 locs ht hvm hw_4 hB hz hk hS => ?_)
        have hP := P_kept hP hk
        obtain rfl := hw_4
        rw [tSM]
        have hb4 := tS_le F i9 (nI 3)
        refine nv_iadd hx hb dX1_share_36 ?_
        refine lv_istore_n (lv' := [(1, .int (nI (a9 + (tS F i9 (nI 3))))), (0, .ref (ad 0)), (2, .int (nI b9)), (3, .int (nI i9))]) hx hb dX1_share_37 rfl hl (by decide) rfl (fun ls hl => ?_)
        refine lv_iload_n hx hb dX1_share_38 rfl (lv_at hl 2 rfl) ?_
        refine lv_bipush (v := nI 96) hx hb dX1_share_39 (by decide) ?_
        refine lv_aload_n hx hb dX1_share_41 rfl (lv_at hl 1 rfl) ?_
        refine va_get (D := D) (ci := 1) (v := .ref (ad 2)) (C := RX1) (T := TX1) (N := 12) hx hb hts hiw hown hK hP 0 m_at0 rfl 3 (by decide) (hts (.fieldLink RX1 13 "GloveCuttersModel" "cells" "[I") (by decide +kernel)) (fun _ h9 => h9) rfl dX1_share_42 ?_
        refine lv_bipush (v := nI 96) hx hb dX1_share_45 (by decide) ?_
        refine lv_iload_n hx hb dX1_share_47 rfl (lv_at hl 3 rfl) ?_
        refine nv_imul hx hb dX1_share_48 ?_
        refine lv_bipush (v := nI 12) hx hb dX1_share_49 (by decide) ?_
        refine lv_bipush (v := nI 8) hx hb dX1_share_51 (by decide) ?_
        refine lv_iconst (v := nI 2) hx hb dX1_share_53 (by decide) ?_
        refine va_calli (va_runS (As := [.ref (ad 2), .int (nI (96 * i9)), .int (nI 12), .int (nI 8), .int (nI 2)]) (rest := [.int (nI 96), .int (nI b9)]) ⟨hx, hb, hml, hown, hts⟩ (c_X1_many l D cI (ad 2) 960 (mCells F) (96 * i9) 12 8 (nI 2) (by omega) (by omega) (by omega) (by omega) (by omega)) (va_cwS 5 hts gX1_share_X1_many rfl rfl rfl (by decide +kernel) ⟨Nat.le_trans (Nat.le_of_ble_eq_true rfl) hRf, Nat.le_trans (Nat.le_of_ble_eq_true rfl) hRl⟩) (pr_S (P_pick hP (k := 2) m_at2) hK [0] rfl V0_at V0_c) rfl rfl hl.1 rfl (lv_room (Nat.le_of_ble_eq_true rfl)) dX1_share_54 ⟨Nat.le_trans (Nat.le_of_ble_eq_true rfl) hRc, Nat.le_trans (Nat.le_of_ble_eq_true rfl) hRs⟩) hS (fun _ _ h => h.elim) (fun _ h => h.elim) (fun r_5 _ t H1 locs ht hvm hw_5 hB hz hk hS => ?_)
        have hP := P_kept hP hk
        obtain rfl := hw_5
        rw [tSM]
        have hb5 := tS_le F i9 (nI 2)
        refine nv_isub hx hb (by omega) dX1_share_57 ?_
        refine nv_iadd hx hb dX1_share_58 ?_
        refine lv_istore_n (lv' := [(2, .int (nI (b9 + (96 - (tS F i9 (nI 2)))))), (1, .int (nI (a9 + (tS F i9 (nI 3))))), (0, .ref (ad 0)), (3, .int (nI i9))]) hx hb dX1_share_59 rfl hl (by decide) rfl (fun ls hl => ?_)
        refine lv_iinc (k := 3) (v := nI (i9 + 1)) (lv' := [(3, .int (nI (i9 + 1))), (2, .int (nI (b9 + (96 - (tS F i9 (nI 2)))))), (1, .int (nI (a9 + (tS F i9 (nI 3))))), (0, .ref (ad 0))]) hx hb dX1_share_60 hl rfl (nI_add i9 1) (by decide) rfl (fun ls hl => ?_)
        refine lv_goto (tgt := 11) hx hb dX1_share_63 (by decide) ?_
        exact ih11 (a9 + (tS F i9 (nI 3))) (b9 + (96 - (tS F i9 (nI 2)))) (i9 + 1) _ _ _ (by omega) (by omega) (by rw [h2]; rfl) (by rw [h3]; rfl) (by omega) (by omega) hP hD hS (lv_sub hl [3, 2, 1, 0] rfl)
  exact L11 _ 0 0 0 _ _ _ (Nat.lt_succ_self _) (by omega) rfl rfl (by omega) (by omega) hP hD hS (lv_sub hl [3, 2, 1, 0] rfl)
