set_option maxHeartbeats 4000000 in
set_option maxRecDepth 100000 in
/-- tally: how many cells of a part hold v -/
theorem c_X0_tally (l : Launch) (D : va_G) (cI : ClassId) (a n : Nat) (f : Nat → Int32) (x y w h : Nat) (v : Int32) (hw : x + w ≤ 12) (hh : 12 * (y + h) ≤ n) (hn : n ≤ 960) : Met l yX0_tally wsX0_tally ({ frames := 0, cells := 0, slots := 0, locals := 0 } : Room) (va_Pc [.ref a, .int (nI x), .int (nI y), .int (nI w), .int (nI h), .int v] (Pr D [(cI, .int)] [(a, .inl (cI, n, .inl f))] V0)) (va_Qi (fun (r : Int32) (_ : Unit) => r = nI (ct f (12 * y + x) w v (w * h))) (fun _ _ => True) (fun _ => False)) 0 0 (fun _ => False) := by
  refine Met.ofW (cc := cX0_tally) (maxL := 9) (ret := (some .int)) (by decide) rfl ?_
  intro p e s m args below meth c s₁ B hml hv
  obtain ⟨hargs, hP, hK, hV⟩ := hv
  have hx := B.exec
  have hb := B.bytes
  have hr := B.returns
  have hts := atoms_spec (ws := wsX0_tally) B.pre
  have hown : s.vm.findClass RX0 = some m.cls := findClass_of_methodNamed B.named
  have hlocks := B.notSynchronized
  have hS : va_S (fun _ => False) s.heap s.heap [] := va_S.rf
  have hRf : 0 ≤ (headSpec wsX0_tally ({ frames := 0, cells := 0, slots := 0, locals := 0 } : Room)).room.frames := Nat.le_refl _
  have hRl : 0 ≤ (headSpec wsX0_tally ({ frames := 0, cells := 0, slots := 0, locals := 0 } : Room)).room.locals := Nat.le_refl _
  have hRc : 0 ≤ (headSpec wsX0_tally ({ frames := 0, cells := 0, slots := 0, locals := 0 } : Room)).room.cells := Nat.le_refl _
  have hRs : 0 ≤ (headSpec wsX0_tally ({ frames := 0, cells := 0, slots := 0, locals := 0 } : Room)).room.slots := Nat.le_refl _
  generalize (headSpec wsX0_tally ({ frames := 0, cells := 0, slots := 0, locals := 0 } : Room)).room = R at hRf hRl hRc hRs ⊢
  have hl := lv_entry [.ref a, .int (nI x), .int (nI y), .int (nI w), .int (nI h), .int v] (n := 9) (Nat.le_of_ble_eq_true rfl)
  refine W.eq (show entryFrame m args 9 = _ from by rw [hargs, lg_entry_eq]) ?_
  generalize (lg_sl [.ref a, .int (nI x), .int (nI y), .int (nI w), .int (nI h), .int v] ++ List.replicate (9 - (lg_sl [.ref a, .int (nI x), .int (nI y), .int (nI w), .int (nI h), .int v]).length) Slot.unset).toArray = ls at hl ⊢
  have hl : lv_has ls 9 [(0, .ref a), (1, .int (nI x)), (2, .int (nI y)), (3, .int (nI w)), (4, .int (nI h)), (5, .int v)] := hl
  generalize hQ : MQ _ _ _ _ _ _ _ = Q
  refine lv_iconst (v := nI 0) hx hb dX0_tally_0 (by decide) ?_
  refine lv_istore (lv' := [(6, .int (nI 0)), (0, .ref a), (1, .int (nI x)), (2, .int (nI y)), (3, .int (nI w)), (4, .int (nI h)), (5, .int v)]) hx hb dX0_tally_1 hl (by decide) rfl (fun ls hl => ?_)
  refine lv_iload_n hx hb dX0_tally_3 rfl (lv_at hl 3 rfl) ?_
  refine lv_istore (lv' := [(7, .int (nI y)), (6, .int (nI 0)), (0, .ref a), (1, .int (nI x)), (2, .int (nI y)), (3, .int (nI w)), (4, .int (nI h)), (5, .int v)]) hx hb dX0_tally_4 hl (by decide) rfl (fun ls hl => ?_)
  have L6 : ∀ (fu : Nat) (r : Nat) (k : Nat) (row : Nat) (H : Heap) (locs : List Loc) (ls : Array Slot), h - r < fu → (r ≤ h) → (row = y + r) → (k = ct f (12 * y + x) w v (w * r)) → (k ≤ 12 * r) → va_P D vwCl [(a, .inl (cI, n, .inl f))] H → va_S (fun _ => False) s.heap H locs → lv_has ls 9 [(0, .ref a), (1, .int (nI x)), (2, .int (nI y)), (3, .int (nI w)), (4, .int (nI h)), (5, .int v), (6, .int (nI k)), (7, .int (nI row))] → W p l e R s m args below meth c H locs 0 0 Q (F0 m 6 ls []) := by
    intro fu
    induction fu with
    | zero => intro _ _ _ _ _ _ h; exact absurd h (Nat.not_lt_zero _)
    | succ fu ih6 =>
      intro r k row H locs ls hm6 h1 h2 h3 h3b hP  hS hl
      refine lv_iload hx hb dX0_tally_6 (lv_at hl 7 rfl) ?_
      refine lv_iload_n hx hb dX0_tally_8 rfl (lv_at hl 2 rfl) ?_
      refine lv_iload hx hb dX0_tally_9 (lv_at hl 4 rfl) ?_
      refine nv_iadd hx hb dX0_tally_11 ?_
      refine nv_icmp_ge (tgt := 56) hx hb (by omega) (by omega) dX0_tally_12 (by decide) (fun c_1 => ?_) (fun c_1 => ?_)
      · refine lv_iload hx hb dX0_tally_56 (lv_at hl 6 rfl) ?_
        rw [← hQ]
        exact W.iret (v := nI k) hx hb hr (fun t ht hW => ⟨⟨nI k, (), rfl, (by rw [h3, show r = h by omega]), trivial⟩, hS.F ht⟩) hS.2.2 dX0_tally_58
      · refine lv_iload_n hx hb dX0_tally_15 rfl (lv_at hl 1 rfl) ?_
        refine lv_istore (lv' := [(8, .int (nI x)), (0, .ref a), (1, .int (nI x)), (2, .int (nI y)), (3, .int (nI w)), (4, .int (nI h)), (5, .int v), (6, .int (nI k)), (7, .int (nI row))]) hx hb dX0_tally_16 hl (by decide) rfl (fun ls hl => ?_)
        have L18 : ∀ (fu : Nat) (c2 : Nat) (k2 : Nat) (col : Nat) (H : Heap) (locs : List Loc) (ls : Array Slot), w - c2 < fu → (c2 ≤ w) → (col = x + c2) → (k2 = ct f (12 * y + x) w v (w * r + c2)) → (k2 ≤ 12 * r + c2) → va_P D vwCl [(a, .inl (cI, n, .inl f))] H → va_S (fun _ => False) s.heap H locs → lv_has ls 9 [(0, .ref a), (1, .int (nI x)), (2, .int (nI y)), (3, .int (nI w)), (4, .int (nI h)), (5, .int v), (6, .int (nI k2)), (7, .int (nI row)), (8, .int (nI col))] → W p l e R s m args below meth c H locs 0 0 Q (F0 m 18 ls []) := by
          intro fu
          induction fu with
          | zero => intro _ _ _ _ _ _ h; exact absurd h (Nat.not_lt_zero _)
          | succ fu ih18 =>
            intro c2 k2 col H locs ls hm18 g1 g2 g3 g4 hP  hS hl
            refine lv_iload hx hb dX0_tally_18 (lv_at hl 8 rfl) ?_
            refine lv_iload_n hx hb dX0_tally_20 rfl (lv_at hl 1 rfl) ?_
            refine lv_iload_n hx hb dX0_tally_21 rfl (lv_at hl 3 rfl) ?_
            refine nv_iadd hx hb dX0_tally_22 ?_
            refine nv_icmp_ge (tgt := 50) hx hb (by omega) (by omega) dX0_tally_23 (by decide) (fun c_2 => ?_) (fun c_2 => ?_)
            · refine lv_iinc (k := 7) (v := nI (row + 1)) (lv' := [(7, .int (nI (row + 1))), (0, .ref a), (1, .int (nI x)), (2, .int (nI y)), (3, .int (nI w)), (4, .int (nI h)), (5, .int v), (6, .int (nI k2)), (8, .int (nI col))]) hx hb dX0_tally_50 hl rfl (nI_add row 1) (by decide) rfl (fun ls hl => ?_)
              refine lv_goto (tgt := 6) hx hb dX0_tally_53 (by decide) ?_
              exact ih6 (r + 1) k2 (row + 1) _ _ _ (by omega) (by omega) (by omega) (by rw [g3, show c2 = w by omega]; rfl) (by omega) hP hS (lv_sub hl [1, 2, 3, 4, 5, 6, 7, 0] rfl)
            · refine lv_aload_n hx hb dX0_tally_26 rfl (lv_at hl 0 rfl) ?_
              refine lv_bipush (v := nI 12) hx hb dX0_tally_27 (by decide) ?_
              refine lv_iload hx hb dX0_tally_29 (lv_at hl 7 rfl) ?_
              refine nv_imul hx hb dX0_tally_31 ?_
              refine lv_iload hx hb dX0_tally_32 (lv_at hl 8 rfl) ?_
              refine nv_iadd hx hb dX0_tally_34 ?_
              refine nv_iald hx hb hK hP 0 0 rfl rfl (by omega) (by omega) dX0_tally_35 ?_
              refine lv_iload hx hb dX0_tally_36 (lv_at hl 5 rfl) ?_
              refine lv_icmp_ne (tgt := 44) hx hb dX0_tally_38 (by decide) (fun c_3 => ?_) (fun c_3 => ?_)
              · refine lv_iinc (k := 8) (v := nI (col + 1)) (lv' := [(8, .int (nI (col + 1))), (0, .ref a), (1, .int (nI x)), (2, .int (nI y)), (3, .int (nI w)), (4, .int (nI h)), (5, .int v), (6, .int (nI k2)), (7, .int (nI row))]) hx hb dX0_tally_44 hl rfl (nI_add col 1) (by decide) rfl (fun ls hl => ?_)
                refine lv_goto (tgt := 18) hx hb dX0_tally_47 (by decide) ?_
                exact ih18 (c2 + 1) k2 (col + 1) _ _ _ (by omega) (by omega) (by omega) (by rw [g3]; exact (ct_no (pl_row (by omega)) (by rw [show 12 * y + x + (r * 12 + c2) = 12 * row + col by omega]; exact c_3)).symm) (by omega) hP hS (lv_sub hl [1, 2, 3, 4, 5, 6, 7, 8, 0] rfl)
              · refine lv_iinc (k := 6) (v := nI (k2 + 1)) (lv' := [(6, .int (nI (k2 + 1))), (0, .ref a), (1, .int (nI x)), (2, .int (nI y)), (3, .int (nI w)), (4, .int (nI h)), (5, .int v), (7, .int (nI row)), (8, .int (nI col))]) hx hb dX0_tally_41 hl rfl (nI_add k2 1) (by decide) rfl (fun ls hl => ?_)
                refine lv_iinc (k := 8) (v := nI (col + 1)) (lv' := [(8, .int (nI (col + 1))), (6, .int (nI (k2 + 1))), (0, .ref a), (1, .int (nI x)), (2, .int (nI y)), (3, .int (nI w)), (4, .int (nI h)), (5, .int v), (7, .int (nI row))]) hx hb dX0_tally_44 hl rfl (nI_add col 1) (by decide) rfl (fun ls hl => ?_)
                refine lv_goto (tgt := 18) hx hb dX0_tally_47 (by decide) ?_
                exact ih18 (c2 + 1) (k2 + 1) (col + 1) _ _ _ (by omega) (by omega) (by omega) (by rw [g3]; exact (ct_yes (pl_row (by omega)) (by rw [show 12 * y + x + (r * 12 + c2) = 12 * row + col by omega]; exact c_3)).symm) (by omega) hP hS (lv_sub hl [2, 3, 4, 5, 6, 7, 1, 8, 0] rfl)
        exact L18 _ 0 k x _ _ _ (Nat.lt_succ_self _) (by omega) rfl h3 (by omega) hP hS (lv_sub hl [1, 2, 3, 4, 5, 6, 7, 8, 0] rfl)
  exact L6 _ 0 0 y _ _ _ (Nat.lt_succ_self _) (by omega) rfl rfl (by omega) hP hS (lv_sub hl [2, 3, 4, 5, 6, 7, 1, 0] rfl)
