set_option maxHeartbeats 4000000 in
set_option maxRecDepth 100000 in
/-- tally: how many cells of a part hold v -/
theorem c_X0_tally (l : Launch) (D : va_G) (cI : ClassId) (a n : Nat) (f : Nat → Int32) (x y w h : Nat) (v : Int32) (hw : x + w ≤ 12) (hh : 12 * (y + h) ≤ n) (hn : n ≤ 960) : Met l yX0_tally wsX0_tally ({ frames := 0, cells := 0, slots := 0, locals := 0 } : Room) (va_Pc [.ref a, .int (nI x), .int (nI y), .int (nI w), .int (nI h), .int v] (Pr D [(cI, .int)] [(a, .inl (cI, n, .inl f))] V0)) (va_Qi (S := Unit) (fun (r : Int32) (_ : Unit) => r = nI (ct f (12 * y + x) w v (w * h))) (fun _ _ => True) (fun _ => False)) 0 0 (fun _ => False) := by
  refine Met.ofW (cc := cX0_tally) (maxL := 9) (ret := (some .int)) (by decide) rfl ?_
  intro p e s m args below meth c s₁ B hml hv
  obtain ⟨hargs, hP, hK, hV⟩ := hv
  have hx := B.exec
  have hb := B.bytes
  have hr := B.returns
  have hts := atoms_spec (ws := wsX0_tally) B.pre
  have hown : s.vm.findClass RX0 = some m.cls := findClass_of_methodNamed B.named
  have hlocks := B.notSynchronized
  have hS : va_S (fun _ => False) s.heap s.heap [] := va_S.rf
  have hRf : 0 ≤ (headSpec wsX0_tally ({ frames := 0, cells := 0, slots := 0, locals := 0 } : Room)).room.frames := Nat.le_refl _
  have hRl : 0 ≤ (headSpec wsX0_tally ({ frames := 0, cells := 0, slots := 0, locals := 0 } : Room)).room.locals := Nat.le_refl _
  have hRc : 0 ≤ (headSpec wsX0_tally ({ frames := 0, cells := 0, slots := 0, locals := 0 } : Room)).room.cells := Nat.le_refl _
  have hRs : 0 ≤ (headSpec wsX0_tally ({ frames := 0, cells := 0, slots := 0, locals := 0 } : Room)).room.slots := Nat.le_refl _
  generalize (headSpec wsX0_tally ({ frames := 0, cells := 0, slots := 0, locals := 0 } : Room)).room = R at hRf hRl hRc hRs ⊢
  have hl := lv_entry [.ref a, .int (nI x), .int (nI y), .int (nI w), .int (nI h), .int v] (n := 9) (Nat.le_of_ble_eq_true rfl)
  refine W.eq (show entryFrame m args 9 = _ from by rw [hargs, lg_entry_eq]) ?_
  generalize (lg_sl [.ref a, .int (nI x), .int (nI y), .int (nI w), .int (nI h), .int v] ++ List.replicate (9 - (lg_sl [.ref a, .int (nI x), .int (nI y), .int (nI w), .int (nI h), .int v]).length) Slot.unset).toArray = ls at hl ⊢
  have hl : lv_has ls 9 [(0, .ref a), (1, .int (nI x)), (2, .int (nI y)), (3, .int (nI w)), (4, .int (nI h)), (5, .int v)] := hl
  generalize hQ : MQ _ _ _ _ _ _ _ = Q
  refine lv_iconst (v := nI 0) hx hb dX0_tally_0 (by decide) ?_
  refine lv_istore (lv' := [(6, .int (nI 0)), (0, .ref a), (1, .int (nI x)), (2, .int (nI y)), (3, .int (nI w)), (4, .int (nI h)), (5, .int v)]) hx hb dX0_tally_1 hl (by decide) rfl (fun ls hl => ?_)
  refine lv_iload_n hx hb dX0_tally_3 rfl (lv_at hl 3 rfl) ?_
  refine lv_istore (lv' := [(7, .int (nI y)), (6, .int (nI 0)), (0, .ref a), (1, .int (nI x)), (2, .int (nI y)), (3, .int (nI w)), (4, .int (nI h)), (5, .int v)]) hx hb dX0_tally_4 hl (by decide) rfl (fun ls hl => ?_)
  have L6 : ∀ (fu : Nat) (r : Nat) (k : Nat) (row : Nat) (H : Heap) (locs : List Loc) (ls : Array Slot), h - r < fu → (r ≤ h) → (row = y + r) → (k = ct f (12 * y + x) w v (w * r)) → (k ≤ 12 * r) → va_P D vwCl [(a, .inl (cI, n, .inl f))] H → va_S (fun _ => False) s.heap H locs → lv_has ls 9 [(0, .ref a), (1, .int (nI x)), (2, .int (nI y)), (3, .int (nI w)), (4, .int (nI h)), (5, .int v), (6, .int (nI k)), (7, .int (nI row))] → W p l e R s m args below meth c H locs 0 0 Q (F0 m 6 ls []) := by
    intro fu
    induction fu with
    | zero => intro _ _ _ _ _ _ h; exact absurd h (Nat.not_lt_zero _)
    | succ fu ih6 =>
      intro r k row H locs ls hm6 h1 h2 h3 h3b hP  hS hl
      refine lv_iload hx hb dX0_tally_6 (lv_at hl 7 rfl) ?_
      refine lv_iload_n hx hb dX0_tally_8 rfl (lv_at hl 2 rfl) ?_
      refine lv_iload hx hb dX0_tally_9 (lv_at hl 4 rfl) ?_
      refine nv_iadd hx hb dX0_tally_11 ?_
      refine nv_icmp_ge (tgt := 56) hx hb (by omega) (by omega) dX0_tally_12 (by decide) (fun c_1 => ?_) (fun c_1 => ?_)
      · refine lv_iload hx hb dX0_tally_56 (lv_at hl 6 rfl) ?_
        rw [← hQ]
        exact W.iret (v := nI k) hx hb hr (fun t ht hW => ⟨⟨nI k, (), rfl, (by rw [h3, show r = h by omega]), trivial⟩, hS.F ht⟩) hS.2.2 dX0_tally_58
      · refine lv_iload_n hx hb dX0_tally_15 rfl (lv_at hl 1 rfl) ?_
        refine lv_istore (lv' := [(8, .int (nI x)), (0, .ref a), (1, .int (nI x)), (2, .int (nI y)), (3, .int (nI w)), (4, .int (nI h)), (5, .int v), (6, .int (nI k)), (7, .int (nI row))]) hx hb dX0_tally_16 hl (by decide) rfl (fun ls hl => ?_)
        have L18 : ∀ (fu : Nat) (c2 : Nat) (k2 : Nat) (col : Nat) (H : Heap) (locs : List Loc) (ls : Array Slot), w - c2 < fu → (c2 ≤ w) → (col = x + c2) → (k2 = ct f (12 * y + x) w v (w * r + c2)) → (k2 ≤ 12 * r + c2) → va_P D vwCl [(a, .inl (cI, n, .inl f))] H → va_S (fun _ => False) s.heap H locs → lv_has ls 9 [(0, .ref a), (1, .int (nI x)), (2, .int (nI y)), (3, .int (nI w)), (4, .int (nI h)), (5, .int v), (6, .int (nI k2)), (7, .int (nI row)), (8, .int (nI col))] → W p l e R s m args below meth c H locs 0 0 Q (F0 m 18 ls []) := by
          intro fu
          induction fu with
          | zero => intro _ _ _ _ _ _ h; exact absurd h (Nat.not_lt_zero _)
          | succ fu ih18 =>
            intro c2 k2 col H locs ls hm18 g1 g2 g3 g4 hP  hS hl
            refine lv_iload hx hb dX0_tally_18 (lv_at hl 8 rfl) ?_
            refine lv_iload_n hx hb dX0_tally_20 rfl (lv_at hl 1 rfl) ?_
            refine lv_iload_n hx hb dX0_tally_21 rfl (lv_at hl 3 rfl) ?_
            refine nv_iadd hx hb dX0_tally_22 ?_
            refine nv_icmp_ge (tgt := 50) hx hb (by omega) (by omega) dX0_tally_23 (by decide) (fun c_2 => ?_) (fun c_2 => ?_)
            · refine lv_iinc (k := 7) (v := nI (row + 1)) (lv' := [(7, .int (nI (row + 1))), (0, .ref a), (1, .int (nI x)), (2, .int (nI y)), (3, .int (nI w)), (4, .int (nI h)), (5, .int v), (6, .int (nI k2)), (8, .int (nI col))]) hx hb dX0_tally_50 hl rfl (nI_add row 1) (by decide) rfl (fun ls hl => ?_)
              refine lv_goto (tgt := 6) hx hb dX0_tally_53 (by decide) ?_
              exact ih6 (r + 1) k2 (row + 1) _ _ _ (by omega) (by omega) (by omega) (by rw [g3, show c2 = w by omega]; rfl) (by omega) hP hS (lv_sub hl [1, 2, 3, 4, 5, 6, 7, 0] rfl)
            · refine lv_aload_n hx hb dX0_tally_26 rfl (lv_at hl 0 rfl) ?_
              refine lv_bipush (v := nI 12) hx hb dX0_tally_27 (by decide) ?_
              refine lv_iload hx hb dX0_tally_29 (lv_at hl 7 rfl) ?_
              refine nv_imul hx hb dX0_tally_31 ?_
              refine lv_iload hx hb dX0_tally_32 (lv_at hl 8 rfl) ?_
              refine nv_iadd hx hb dX0_tally_34 ?_
              refine nv_iald hx hb hK hP 0 0 rfl rfl (by omega) (by omega) dX0_tally_35 ?_
              refine lv_iload hx hb dX0_tally_36 (lv_at hl 5 rfl) ?_
              refine lv_icmp_ne (tgt := 44) hx hb dX0_tally_38 (by decide) (fun c_3 => ?_) (fun c_3 => ?_)
              · refine lv_iinc (k := 8) (v := nI (col + 1)) (lv' := [(8, .int (nI (col + 1))), (0, .ref a), (1, .int (nI x)), (2, .int (nI y)), (3, .int (nI w)), (4, .int (nI h)), (5, .int v), (6, .int (nI k2)), (7, .int (nI row))]) hx hb dX0_tally_44 hl rfl (nI_add col 1) (by decide) rfl (fun ls hl => ?_)
                refine lv_goto (tgt := 18) hx hb dX0_tally_47 (by decide) ?_
                exact ih18 (c2 + 1) k2 (col + 1) _ _ _ (by omega) (by omega) (by omega) (by rw [g3]; exact (ct_no (pl_row (by omega)) (by rw [show 12 * y + x + (r * 12 + c2) = 12 * row + col by omega]; exact c_3)).symm) (by omega) hP hS (lv_sub hl [1, 2, 3, 4, 5, 6, 7, 8, 0] rfl)
              · refine lv_iinc (k := 6) (v := nI (k2 + 1)) (lv' := [(6, .int (nI (k2 + 1))), (0, .ref a), (1, .int (nI x)), (2, .int (nI y)), (3, .int (nI w)), (4, .int (nI h)), (5, .int v), (7, .int (nI row)), (8, .int (nI col))]) hx hb dX0_tally_41 hl rfl (nI_add k2 1) (by decide) rfl (fun ls hl => ?_)
                refine lv_iinc (k := 8) (v := nI (col + 1)) (lv' := [(8, .int (nI (col + 1))), (6, .int (nI (k2 + 1))), (0, .ref a), (1, .int (nI x)), (2, .int (nI y)), (3, .int (nI w)), (4, .int (nI h)), (5, .int v), (7, .int (nI row))]) hx hb dX0_tally_44 hl rfl (nI_add col 1) (by decide) rfl (fun ls hl => ?_)
                refine lv_goto (tgt := 18) hx hb dX0_tally_47 (by decide) ?_
                exact ih18 (c2 + 1) (k2 + 1) (col + 1) _ _ _ (by omega) (by omega) (by omega) (by rw [g3]; exact (ct_yes (pl_row (by omega)) (by rw [show 12 * y + x + (r * 12 + c2) = 12 * row + col by omega]; exact c_3)).symm) (by omega) hP hS (lv_sub hl [2, 3, 4, 5, 6, 7, 1, 8, 0] rfl)
        exact L18 _ 0 k x _ _ _ (Nat.lt_succ_self _) (by omega) rfl h3 (by omega) hP hS (lv_sub hl [1, 2, 3, 4, 5, 6, 7, 8, 0] rfl)
  exact L6 _ 0 0 y _ _ _ (Nat.lt_succ_self _) (by omega) rfl rfl (by omega) hP hS (lv_sub hl [2, 3, 4, 5, 6, 7, 1, 0] rfl)
set_option maxHeartbeats 4000000 in
set_option maxRecDepth 100000 in
/-- paint: a part holds v from now on -/
theorem c_X0_paint (l : Launch) (D : va_G) (cI : ClassId) (a n : Nat) (f : Nat → Int32) (x y w h : Nat) (v : Int32) (hw : x + w ≤ 12) (hh : 12 * (y + h) ≤ n) (hn : n ≤ 960) : Met l yX0_paint wsX0_paint ({ frames := 0, cells := 0, slots := 0, locals := 0 } : Room) (va_Pc [.ref a, .int (nI x), .int (nI y), .int (nI w), .int (nI h), .int v] (Pr D [(cI, .int)] [(a, .inl (cI, n, .inl f))] V0)) (va_Qv (S := Unit) (fun _ => True) (fun (_ : Unit) (t : State) => va_P D vwCl [(a, .inl (cI, n, .inl (fl f (12 * y + x) w v (w * h))))] t.heap) (fun q => q = a)) 0 0 (fun q => q = a) := by
  refine Met.ofW (cc := cX0_paint) (maxL := 8) (ret := none) (by decide) rfl ?_
  intro p e s m args below meth c s₁ B hml hv
  obtain ⟨hargs, hP, hK, hV⟩ := hv
  have hx := B.exec
  have hb := B.bytes
  have hr := B.returns
  have hts := atoms_spec (ws := wsX0_paint) B.pre
  have hown : s.vm.findClass RX0 = some m.cls := findClass_of_methodNamed B.named
  have hlocks := B.notSynchronized
  have hS : va_S (fun _ => False) s.heap s.heap [] := va_S.rf
  have hRf : 0 ≤ (headSpec wsX0_paint ({ frames := 0, cells := 0, slots := 0, locals := 0 } : Room)).room.frames := Nat.le_refl _
  have hRl : 0 ≤ (headSpec wsX0_paint ({ frames := 0, cells := 0, slots := 0, locals := 0 } : Room)).room.locals := Nat.le_refl _
  have hRc : 0 ≤ (headSpec wsX0_paint ({ frames := 0, cells := 0, slots := 0, locals := 0 } : Room)).room.cells := Nat.le_refl _
  have hRs : 0 ≤ (headSpec wsX0_paint ({ frames := 0, cells := 0, slots := 0, locals := 0 } : Room)).room.slots := Nat.le_refl _
  generalize (headSpec wsX0_paint ({ frames := 0, cells := 0, slots := 0, locals := 0 } : Room)).room = R at hRf hRl hRc hRs ⊢
  have hl := lv_entry [.ref a, .int (nI x), .int (nI y), .int (nI w), .int (nI h), .int v] (n := 8) (Nat.le_of_ble_eq_true rfl)
  refine W.eq (show entryFrame m args 8 = _ from by rw [hargs, lg_entry_eq]) ?_
  generalize (lg_sl [.ref a, .int (nI x), .int (nI y), .int (nI w), .int (nI h), .int v] ++ List.replicate (8 - (lg_sl [.ref a, .int (nI x), .int (nI y), .int (nI w), .int (nI h), .int v]).length) Slot.unset).toArray = ls at hl ⊢
  have hl : lv_has ls 8 [(0, .ref a), (1, .int (nI x)), (2, .int (nI y)), (3, .int (nI w)), (4, .int (nI h)), (5, .int v)] := hl
  have hD : va_D (fun q => q = a) [(a, .inl (cI, n, .inl f))] := a_D
  generalize hQ : MQ _ _ _ _ _ _ _ = Q
  refine lv_iload_n hx hb dX0_paint_0 rfl (lv_at hl 2 rfl) ?_
  refine lv_istore (lv' := [(6, .int (nI y)), (0, .ref a), (1, .int (nI x)), (2, .int (nI y)), (3, .int (nI w)), (4, .int (nI h)), (5, .int v)]) hx hb dX0_paint_1 hl (by decide) rfl (fun ls hl => ?_)
  have hS : va_S (fun q => q = a) s.heap _ _ := S_mono hS
  have L3 : ∀ (fu : Nat) (r : Nat) (row : Nat) (g : Nat → Int32) (H : Heap) (locs : List Loc) (ls : Array Slot), h - r < fu → (r ≤ h) → (row = y + r) → (g = fl f (12 * y + x) w v (w * r)) → va_P D vwCl [(a, .inl (cI, n, .inl g))] H → va_D (fun q => q = a) [(a, .inl (cI, n, .inl g))] → va_S (fun q => q = a) s.heap H locs → lv_has ls 8 [(0, .ref a), (1, .int (nI x)), (2, .int (nI y)), (3, .int (nI w)), (4, .int (nI h)), (5, .int v), (6, .int (nI row))] → W p l e R s m args below meth c H locs 0 0 Q (F0 m 3 ls []) := by
    intro fu
    induction fu with
    | zero => intro _ _ _ _ _ _ h; exact absurd h (Nat.not_lt_zero _)
    | succ fu ih3 =>
      intro r row g H locs ls hm3 h1 h2 h3 hP hD hS hl
      refine lv_iload hx hb dX0_paint_3 (lv_at hl 6 rfl) ?_
      refine lv_iload_n hx hb dX0_paint_5 rfl (lv_at hl 2 rfl) ?_
      refine lv_iload hx hb dX0_paint_6 (lv_at hl 4 rfl) ?_
      refine nv_iadd hx hb dX0_paint_8 ?_
      refine nv_icmp_ge (tgt := 47) hx hb (by omega) (by omega) dX0_paint_9 (by decide) (fun c_1 => ?_) (fun c_1 => ?_)
      · rw [← hQ]
        exact W.vret hx hb hr (fun t ht hW => ⟨⟨(), rfl, trivial, (by show va_P D vwCl [(a, .inl (cI, n, .inl (fl f (12 * y + x) w v (w * h))))] t.heap; rw [ht, ← show w * r = w * h by rw [show r = h by omega], ← h3]; exact hP)⟩, hS.F ht⟩) hS.2.2 dX0_paint_47
      · refine lv_iload_n hx hb dX0_paint_12 rfl (lv_at hl 1 rfl) ?_
        refine lv_istore (lv' := [(7, .int (nI x)), (0, .ref a), (1, .int (nI x)), (2, .int (nI y)), (3, .int (nI w)), (4, .int (nI h)), (5, .int v), (6, .int (nI row))]) hx hb dX0_paint_13 hl (by decide) rfl (fun ls hl => ?_)
        have L15 : ∀ (fu : Nat) (c2 : Nat) (col : Nat) (g2 : Nat → Int32) (H : Heap) (locs : List Loc) (ls : Array Slot), w - c2 < fu → (c2 ≤ w) → (col = x + c2) → (g2 = fl f (12 * y + x) w v (w * r + c2)) → va_P D vwCl [(a, .inl (cI, n, .inl g2))] H → va_D (fun q => q = a) [(a, .inl (cI, n, .inl g2))] → va_S (fun q => q = a) s.heap H locs → lv_has ls 8 [(0, .ref a), (1, .int (nI x)), (2, .int (nI y)), (3, .int (nI w)), (4, .int (nI h)), (5, .int v), (6, .int (nI row)), (7, .int (nI col))] → W p l e R s m args below meth c H locs 0 0 Q (F0 m 15 ls []) := by
          intro fu
          induction fu with
          | zero => intro _ _ _ _ _ _ h; exact absurd h (Nat.not_lt_zero _)
          | succ fu ih15 =>
            intro c2 col g2 H locs ls hm15 g1 gc g3 hP hD hS hl
            refine lv_iload hx hb dX0_paint_15 (lv_at hl 7 rfl) ?_
            refine lv_iload_n hx hb dX0_paint_17 rfl (lv_at hl 1 rfl) ?_
            refine lv_iload_n hx hb dX0_paint_18 rfl (lv_at hl 3 rfl) ?_
            refine nv_iadd hx hb dX0_paint_19 ?_
            refine nv_icmp_ge (tgt := 41) hx hb (by omega) (by omega) dX0_paint_20 (by decide) (fun c_2 => ?_) (fun c_2 => ?_)
            · refine lv_iinc (k := 6) (v := nI (row + 1)) (lv' := [(6, .int (nI (row + 1))), (0, .ref a), (1, .int (nI x)), (2, .int (nI y)), (3, .int (nI w)), (4, .int (nI h)), (5, .int v), (7, .int (nI col))]) hx hb dX0_paint_41 hl rfl (nI_add row 1) (by decide) rfl (fun ls hl => ?_)
              refine lv_goto (tgt := 3) hx hb dX0_paint_44 (by decide) ?_
              exact ih3 (r + 1) (row + 1) g2 _ _ _ (by omega) (by omega) (by omega) (by rw [g3, show c2 = w by omega]; rfl) hP hD hS (lv_sub hl [1, 2, 3, 4, 5, 6, 0] rfl)
            · refine lv_aload_n hx hb dX0_paint_23 rfl (lv_at hl 0 rfl) ?_
              refine lv_bipush (v := nI 12) hx hb dX0_paint_24 (by decide) ?_
              refine lv_iload hx hb dX0_paint_26 (lv_at hl 6 rfl) ?_
              refine nv_imul hx hb dX0_paint_28 ?_
              refine lv_iload hx hb dX0_paint_29 (lv_at hl 7 rfl) ?_
              refine nv_iadd hx hb dX0_paint_31 ?_
              refine lv_iload hx hb dX0_paint_32 (lv_at hl 5 rfl) ?_
              refine nv_iast hx hb hK hP hD hS 0 0 rfl rfl (by omega) (by omega) dX0_paint_34 (fun H locs hP hD hS => ?_)
              obtain ⟨f_3, ef_3⟩ : ∃ z, z = upd g2 ((12 * row) + col) v := ⟨_, rfl⟩
              rw [← ef_3] at hP hD
              have hP : va_P D vwCl [(a, .inl (cI, n, .inl f_3))] H := hP
              have hD : va_D (fun q => q = a) [(a, .inl (cI, n, .inl f_3))] := hD
              refine lv_iinc (k := 7) (v := nI (col + 1)) (lv' := [(7, .int (nI (col + 1))), (0, .ref a), (1, .int (nI x)), (2, .int (nI y)), (3, .int (nI w)), (4, .int (nI h)), (5, .int v), (6, .int (nI row))]) hx hb dX0_paint_35 hl rfl (nI_add col 1) (by decide) rfl (fun ls hl => ?_)
              refine lv_goto (tgt := 15) hx hb dX0_paint_38 (by decide) ?_
              exact ih15 (c2 + 1) (col + 1) f_3 _ _ _ (by omega) (by omega) (by omega) (by rw [ef_3, g3, show 12 * row + col = pl (12 * y + x) w (w * r + c2) by rw [pl_row (by omega)]; omega]; rfl) hP hD hS (lv_sub hl [1, 2, 3, 4, 5, 6, 7, 0] rfl)
        exact L15 _ 0 x g _ _ _ (Nat.lt_succ_self _) (by omega) rfl h3 hP hD hS (lv_sub hl [1, 2, 3, 4, 5, 6, 7, 0] rfl)
  exact L3 _ 0 y f _ _ _ (Nat.lt_succ_self _) (by omega) rfl rfl hP hD hS (lv_sub hl [1, 2, 3, 4, 5, 6, 0] rfl)
set_option maxHeartbeats 4000000 in
set_option maxRecDepth 100000 in
/-- needSkin: returns just if there is such a skin -/
theorem c_X0_needSkin (l : Launch) (hst : l.stackTraces = false) (D : va_G) (cI cZ cO : ClassId) (ad : Nat → Nat) (n np nq : Nat) (F : Nat → Nat → Int32) (x : Int32) (hn : n ≤ 10) : vx_Met l yX0_needSkin wsX0_needSkin ({ frames := 6, cells := 1, slots := 6, locals := 82 } : Room) (va_Pc [.ref (ad 0), .int x] (Pr D (gT cI cZ cO) (wG cI cZ cO ad n np nq F) (EnvG (fun _ => False)))) (va_Qv (S := Unit) (fun _ => inR x n = true) (fun _ _ => True) (fun _ => False)) (vx_X (S := Unit) (fun _ => True) (fun E (_ : Unit) (_ : State) => E = nX ∧ inR x n = false) (fun _ => False)) 1 6 (fun _ => False) := by
  refine vx_ofW (cc := cX0_needSkin) (maxL := 2) (ret := none) (by decide) rfl ?_
  intro p e s m args below meth c s₁ B hml htab hv
  obtain ⟨hargs, hP, hK, hV⟩ := hv
  have hx := B.exec
  have hb := B.bytes
  have hr := B.returns
  have hts := atoms_spec (ws := wsX0_needSkin) B.pre
  have hown : s.vm.findClass RX0 = some m.cls := findClass_of_methodNamed B.named
  have hlocks := B.notSynchronized
  have hS : va_S (fun _ => False) s.heap s.heap [] := va_S.rf
  have hV0 : EnvG (fun _ => False) s := EnvG.nar hV sub_no
  have hiw : ∀ w ∈ wsX00, w ∈ wsX0_needSkin := (fun _ h => List.mem_cons_of_mem _ (List.mem_append_left _ (List.mem_append_right _ h)))
  have hRf : 6 ≤ (headSpec wsX0_needSkin ({ frames := 6, cells := 1, slots := 6, locals := 82 } : Room)).room.frames := Nat.le_refl _
  have hRl : 82 ≤ (headSpec wsX0_needSkin ({ frames := 6, cells := 1, slots := 6, locals := 82 } : Room)).room.locals := Nat.le_refl _
  have hRc : 1 ≤ (headSpec wsX0_needSkin ({ frames := 6, cells := 1, slots := 6, locals := 82 } : Room)).room.cells := Nat.le_refl _
  have hRs : 6 ≤ (headSpec wsX0_needSkin ({ frames := 6, cells := 1, slots := 6, locals := 82 } : Room)).room.slots := Nat.le_refl _
  generalize (headSpec wsX0_needSkin ({ frames := 6, cells := 1, slots := 6, locals := 82 } : Room)).room = R at hRf hRl hRc hRs ⊢
  have hl := lv_entry [.ref (ad 0), .int x] (n := 2) (Nat.le_of_ble_eq_true rfl)
  refine W.eq (show entryFrame m args 2 = _ from by rw [hargs, lg_entry_eq]) ?_
  generalize (lg_sl [.ref (ad 0), .int x] ++ List.replicate (2 - (lg_sl [.ref (ad 0), .int x]).length) Slot.unset).toArray = ls at hl ⊢
  have hl : lv_has ls 2 [(0, .ref (ad 0)), (1, .int x)] := hl
  generalize hQ : vx_MQ _ _ _ _ _ _ _ _ = Q
  refine lv_iload_n hx hb dX0_needSkin_0 rfl (lv_at hl 1 rfl) ?_
  refine lv_if_lt (tgt := 12) hx hb dX0_needSkin_1 (by decide) (fun c_1 => ?_) (fun c_1 => ?_)
  · obtain ⟨sa9, hsa9⟩ := hV0.2.2.2.2.2.1.2.2.1
    rw [← hQ]
    exact vx_throwS (names := ["java/lang/RuntimeException", "java/lang/Exception"]) hx hb hst hown (by decide +kernel) (by decide +kernel) (hts (.classLink RX0 123 "java/lang/IndexOutOfBoundsException") (by decide +kernel)) (hts (.initialized "java/lang/IndexOutOfBoundsException") (by decide +kernel)) hsa9 (at_X (fun w h9 => hts w ((fun _ h => List.mem_cons_of_mem _ (List.mem_append_right _ h)) w h9)) hV0.2.2.2.2.2.2) gd_X hV0.2.2.2.2.1.1 hV0.2.2.2.2.1.2 hS (hl.1.trans hml.symm) dX0_needSkin_12 dX0_needSkin_15 dX0_needSkin_16 dX0_needSkin_18 dX0_needSkin_21 (fun x hx9 => (htab x hx9).elim) (Nat.lt_of_lt_of_le (Nat.le_of_ble_eq_true rfl) hRf) (Nat.le_trans (Nat.le_of_ble_eq_true rfl) hRl) (Nat.le_trans (Nat.le_of_ble_eq_true rfl) hRc) (Nat.le_trans (Nat.le_of_ble_eq_true rfl) hRs) hlocks (fun t9 _ hs9 hq9 => x_thr hS trivial ⟨rfl, inR_lo c_1⟩ hs9 hq9) (fun z hz => (hS.2.2 z hz).elim) (by omega) (by omega)
  · refine lv_iload_n hx hb dX0_needSkin_4 rfl (lv_at hl 1 rfl) ?_
    refine lv_aload_n hx hb dX0_needSkin_5 rfl (lv_at hl 0 rfl) ?_
    refine va_get (D := D) (ci := 0) (v := .int (nI n)) (C := RX0) (T := TX0) (N := 16) hx hb hts hiw hown hK hP 0 g_at0 rfl 0 (by decide) (hts (.fieldLink RX0 56 "GloveCutters" "skins" "I") (by decide +kernel)) (fun _ h9 => h9) rfl dX0_needSkin_6 ?_
    refine lv_icmp_lt (tgt := 22) hx hb dX0_needSkin_9 (by decide) (fun c_2 => ?_) (fun c_2 => ?_)
    · rw [← hQ]
      refine vx_ret ?_
      refine W.widen (k := 1) (n := 6) (by omega) (by omega) ?_
      exact W.vret hx hb hr (fun t ht hW => ⟨⟨(), rfl, (inR_y c_1 c_2), trivial⟩, hS.F ht⟩) hS.2.2 dX0_needSkin_22
    · obtain ⟨sa9, hsa9⟩ := hV0.2.2.2.2.2.1.2.2.1
      rw [← hQ]
      exact vx_throwS (names := ["java/lang/RuntimeException", "java/lang/Exception"]) hx hb hst hown (by decide +kernel) (by decide +kernel) (hts (.classLink RX0 123 "java/lang/IndexOutOfBoundsException") (by decide +kernel)) (hts (.initialized "java/lang/IndexOutOfBoundsException") (by decide +kernel)) hsa9 (at_X (fun w h9 => hts w ((fun _ h => List.mem_cons_of_mem _ (List.mem_append_right _ h)) w h9)) hV0.2.2.2.2.2.2) gd_X hV0.2.2.2.2.1.1 hV0.2.2.2.2.1.2 hS (hl.1.trans hml.symm) dX0_needSkin_12 dX0_needSkin_15 dX0_needSkin_16 dX0_needSkin_18 dX0_needSkin_21 (fun x hx9 => (htab x hx9).elim) (Nat.lt_of_lt_of_le (Nat.le_of_ble_eq_true rfl) hRf) (Nat.le_trans (Nat.le_of_ble_eq_true rfl) hRl) (Nat.le_trans (Nat.le_of_ble_eq_true rfl) hRc) (Nat.le_trans (Nat.le_of_ble_eq_true rfl) hRs) hlocks (fun t9 _ hs9 hq9 => x_thr hS trivial ⟨rfl, inR_hi c_2⟩ hs9 hq9) (fun z hz => (hS.2.2 z hz).elim) (by omega) (by omega)
set_option maxHeartbeats 4000000 in
set_option maxRecDepth 100000 in
/-- needPair -/
theorem c_X0_needPair (l : Launch) (hst : l.stackTraces = false) (D : va_G) (cI cZ cO : ClassId) (ad : Nat → Nat) (n np nq : Nat) (F : Nat → Nat → Int32) (x : Int32) (hn : nq ≤ 20) : vx_Met l yX0_needPair wsX0_needPair ({ frames := 6, cells := 1, slots := 6, locals := 82 } : Room) (va_Pc [.ref (ad 0), .int x] (Pr D (gT cI cZ cO) (wG cI cZ cO ad n np nq F) (EnvG (fun _ => False)))) (va_Qv (S := Unit) (fun _ => inR x nq = true) (fun _ _ => True) (fun _ => False)) (vx_X (S := Unit) (fun _ => True) (fun E (_ : Unit) (_ : State) => E = nX ∧ inR x nq = false) (fun _ => False)) 1 6 (fun _ => False) := by
  refine vx_ofW (cc := cX0_needPair) (maxL := 2) (ret := none) (by decide) rfl ?_
  intro p e s m args below meth c s₁ B hml htab hv
  obtain ⟨hargs, hP, hK, hV⟩ := hv
  have hx := B.exec
  have hb := B.bytes
  have hr := B.returns
  have hts := atoms_spec (ws := wsX0_needPair) B.pre
  have hown : s.vm.findClass RX0 = some m.cls := findClass_of_methodNamed B.named
  have hlocks := B.notSynchronized
  have hS : va_S (fun _ => False) s.heap s.heap [] := va_S.rf
  have hV0 : EnvG (fun _ => False) s := EnvG.nar hV sub_no
  have hiw : ∀ w ∈ wsX00, w ∈ wsX0_needPair := (fun _ h => List.mem_cons_of_mem _ (List.mem_append_left _ (List.mem_append_right _ h)))
  have hRf : 6 ≤ (headSpec wsX0_needPair ({ frames := 6, cells := 1, slots := 6, locals := 82 } : Room)).room.frames := Nat.le_refl _
  have hRl : 82 ≤ (headSpec wsX0_needPair ({ frames := 6, cells := 1, slots := 6, locals := 82 } : Room)).room.locals := Nat.le_refl _
  have hRc : 1 ≤ (headSpec wsX0_needPair ({ frames := 6, cells := 1, slots := 6, locals := 82 } : Room)).room.cells := Nat.le_refl _
  have hRs : 6 ≤ (headSpec wsX0_needPair ({ frames := 6, cells := 1, slots := 6, locals := 82 } : Room)).room.slots := Nat.le_refl _
  generalize (headSpec wsX0_needPair ({ frames := 6, cells := 1, slots := 6, locals := 82 } : Room)).room = R at hRf hRl hRc hRs ⊢
  have hl := lv_entry [.ref (ad 0), .int x] (n := 2) (Nat.le_of_ble_eq_true rfl)
  refine W.eq (show entryFrame m args 2 = _ from by rw [hargs, lg_entry_eq]) ?_
  generalize (lg_sl [.ref (ad 0), .int x] ++ List.replicate (2 - (lg_sl [.ref (ad 0), .int x]).length) Slot.unset).toArray = ls at hl ⊢
  have hl : lv_has ls 2 [(0, .ref (ad 0)), (1, .int x)] := hl
  generalize hQ : vx_MQ _ _ _ _ _ _ _ _ = Q
  refine lv_iload_n hx hb dX0_needPair_0 rfl (lv_at hl 1 rfl) ?_
  refine lv_if_lt (tgt := 12) hx hb dX0_needPair_1 (by decide) (fun c_1 => ?_) (fun c_1 => ?_)
  · obtain ⟨sa9, hsa9⟩ := hV0.2.2.2.2.2.1.2.2.2.2.2.2.2.2.2.2.2.2.2.2.1
    rw [← hQ]
    exact vx_throwS (names := ["java/lang/RuntimeException", "java/lang/Exception"]) hx hb hst hown (by decide +kernel) (by decide +kernel) (hts (.classLink RX0 123 "java/lang/IndexOutOfBoundsException") (by decide +kernel)) (hts (.initialized "java/lang/IndexOutOfBoundsException") (by decide +kernel)) hsa9 (at_X (fun w h9 => hts w ((fun _ h => List.mem_cons_of_mem _ (List.mem_append_right _ h)) w h9)) hV0.2.2.2.2.2.2) gd_X hV0.2.2.2.2.1.1 hV0.2.2.2.2.1.2 hS (hl.1.trans hml.symm) dX0_needPair_12 dX0_needPair_15 dX0_needPair_16 dX0_needPair_18 dX0_needPair_21 (fun x hx9 => (htab x hx9).elim) (Nat.lt_of_lt_of_le (Nat.le_of_ble_eq_true rfl) hRf) (Nat.le_trans (Nat.le_of_ble_eq_true rfl) hRl) (Nat.le_trans (Nat.le_of_ble_eq_true rfl) hRc) (Nat.le_trans (Nat.le_of_ble_eq_true rfl) hRs) hlocks (fun t9 _ hs9 hq9 => x_thr hS trivial ⟨rfl, inR_lo c_1⟩ hs9 hq9) (fun z hz => (hS.2.2 z hz).elim) (by omega) (by omega)
  · refine lv_iload_n hx hb dX0_needPair_4 rfl (lv_at hl 1 rfl) ?_
    refine lv_aload_n hx hb dX0_needPair_5 rfl (lv_at hl 0 rfl) ?_
    refine va_get (D := D) (ci := 0) (v := .int (nI nq)) (C := RX0) (T := TX0) (N := 16) hx hb hts hiw hown hK hP 0 g_at0 rfl 9 (by decide) (hts (.fieldLink RX0 136 "GloveCutters" "sewn" "I") (by decide +kernel)) (fun _ h9 => h9) rfl dX0_needPair_6 ?_
    refine lv_icmp_lt (tgt := 22) hx hb dX0_needPair_9 (by decide) (fun c_2 => ?_) (fun c_2 => ?_)
    · rw [← hQ]
      refine vx_ret ?_
      refine W.widen (k := 1) (n := 6) (by omega) (by omega) ?_
      exact W.vret hx hb hr (fun t ht hW => ⟨⟨(), rfl, (inR_y c_1 c_2), trivial⟩, hS.F ht⟩) hS.2.2 dX0_needPair_22
    · obtain ⟨sa9, hsa9⟩ := hV0.2.2.2.2.2.1.2.2.2.2.2.2.2.2.2.2.2.2.2.2.1
      rw [← hQ]
      exact vx_throwS (names := ["java/lang/RuntimeException", "java/lang/Exception"]) hx hb hst hown (by decide +kernel) (by decide +kernel) (hts (.classLink RX0 123 "java/lang/IndexOutOfBoundsException") (by decide +kernel)) (hts (.initialized "java/lang/IndexOutOfBoundsException") (by decide +kernel)) hsa9 (at_X (fun w h9 => hts w ((fun _ h => List.mem_cons_of_mem _ (List.mem_append_right _ h)) w h9)) hV0.2.2.2.2.2.2) gd_X hV0.2.2.2.2.1.1 hV0.2.2.2.2.1.2 hS (hl.1.trans hml.symm) dX0_needPair_12 dX0_needPair_15 dX0_needPair_16 dX0_needPair_18 dX0_needPair_21 (fun x hx9 => (htab x hx9).elim) (Nat.lt_of_lt_of_le (Nat.le_of_ble_eq_true rfl) hRf) (Nat.le_trans (Nat.le_of_ble_eq_true rfl) hRl) (Nat.le_trans (Nat.le_of_ble_eq_true rfl) hRc) (Nat.le_trans (Nat.le_of_ble_eq_true rfl) hRs) hlocks (fun t9 _ hs9 hq9 => x_thr hS trivial ⟨rfl, inR_hi c_2⟩ hs9 hq9) (fun z hz => (hS.2.2 z hz).elim) (by omega) (by omega)
set_option maxHeartbeats 4000000 in
set_option maxRecDepth 100000 in
/-- needCell -/
theorem c_X0_needCell (l : Launch) (hst : l.stackTraces = false) (D : va_G) (x y : Int32)  : vx_Met l yX0_needCell wsX0_needCell ({ frames := 6, cells := 1, slots := 6, locals := 82 } : Room) (va_Pc [.int x, .int y] (Pr D [] [] (EnvG (fun _ => False)))) (va_Qv (S := Unit) (fun _ => inR x 12 = true ∧ inR y 8 = true) (fun _ _ => True) (fun _ => False)) (vx_X (S := Unit) (fun _ => True) (fun E (_ : Unit) (_ : State) => E = nX ∧ (inR x 12 && inR y 8) = false) (fun _ => False)) 1 6 (fun _ => False) := by
  refine vx_ofW (cc := cX0_needCell) (maxL := 2) (ret := none) (by decide) rfl ?_
  intro p e s m args below meth c s₁ B hml htab hv
  obtain ⟨hargs, hP, hK, hV⟩ := hv
  have hx := B.exec
  have hb := B.bytes
  have hr := B.returns
  have hts := atoms_spec (ws := wsX0_needCell) B.pre
  have hown : s.vm.findClass RX0 = some m.cls := findClass_of_methodNamed B.named
  have hlocks := B.notSynchronized
  have hS : va_S (fun _ => False) s.heap s.heap [] := va_S.rf
  have hV0 : EnvG (fun _ => False) s := EnvG.nar hV sub_no
  have hRf : 6 ≤ (headSpec wsX0_needCell ({ frames := 6, cells := 1, slots := 6, locals := 82 } : Room)).room.frames := Nat.le_refl _
  have hRl : 82 ≤ (headSpec wsX0_needCell ({ frames := 6, cells := 1, slots := 6, locals := 82 } : Room)).room.locals := Nat.le_refl _
  have hRc : 1 ≤ (headSpec wsX0_needCell ({ frames := 6, cells := 1, slots := 6, locals := 82 } : Room)).room.cells := Nat.le_refl _
  have hRs : 6 ≤ (headSpec wsX0_needCell ({ frames := 6, cells := 1, slots := 6, locals := 82 } : Room)).room.slots := Nat.le_refl _
  generalize (headSpec wsX0_needCell ({ frames := 6, cells := 1, slots := 6, locals := 82 } : Room)).room = R at hRf hRl hRc hRs ⊢
  have hl := lv_entry [.int x, .int y] (n := 2) (Nat.le_of_ble_eq_true rfl)
  refine W.eq (show entryFrame m args 2 = _ from by rw [hargs, lg_entry_eq]) ?_
  generalize (lg_sl [.int x, .int y] ++ List.replicate (2 - (lg_sl [.int x, .int y]).length) Slot.unset).toArray = ls at hl ⊢
  have hl : lv_has ls 2 [(0, .int x), (1, .int y)] := hl
  generalize hQ : vx_MQ _ _ _ _ _ _ _ _ = Q
  refine lv_iload_n hx hb dX0_needCell_0 rfl (lv_at hl 0 rfl) ?_
  refine lv_if_lt (tgt := 20) hx hb dX0_needCell_1 (by decide) (fun c_1 => ?_) (fun c_1 => ?_)
  · obtain ⟨sa9, hsa9⟩ := hV0.2.2.2.2.2.1.2.2.2.1
    rw [← hQ]
    exact vx_throwS (names := ["java/lang/RuntimeException", "java/lang/Exception"]) hx hb hst hown (by decide +kernel) (by decide +kernel) (hts (.classLink RX0 123 "java/lang/IndexOutOfBoundsException") (by decide +kernel)) (hts (.initialized "java/lang/IndexOutOfBoundsException") (by decide +kernel)) hsa9 (at_X (fun w h9 => hts w ((fun _ h => List.mem_cons_of_mem _ (List.mem_append_right _ h)) w h9)) hV0.2.2.2.2.2.2) gd_X hV0.2.2.2.2.1.1 hV0.2.2.2.2.1.2 hS (hl.1.trans hml.symm) dX0_needCell_20 dX0_needCell_23 dX0_needCell_24 dX0_needCell_26 dX0_needCell_29 (fun x hx9 => (htab x hx9).elim) (Nat.lt_of_lt_of_le (Nat.le_of_ble_eq_true rfl) hRf) (Nat.le_trans (Nat.le_of_ble_eq_true rfl) hRl) (Nat.le_trans (Nat.le_of_ble_eq_true rfl) hRc) (Nat.le_trans (Nat.le_of_ble_eq_true rfl) hRs) hlocks (fun t9 _ hs9 hq9 => x_thr hS trivial ⟨rfl, by rw [inR_lo c_1]; rfl⟩ hs9 hq9) (fun z hz => (hS.2.2 z hz).elim) (by omega) (by omega)
  · refine lv_iload_n hx hb dX0_needCell_4 rfl (lv_at hl 0 rfl) ?_
    refine lv_bipush (v := nI 12) hx hb dX0_needCell_5 (by decide) ?_
    refine lv_icmp_ge (tgt := 20) hx hb dX0_needCell_7 (by decide) (fun c_2 => ?_) (fun c_2 => ?_)
    · obtain ⟨sa9, hsa9⟩ := hV0.2.2.2.2.2.1.2.2.2.1
      rw [← hQ]
      exact vx_throwS (names := ["java/lang/RuntimeException", "java/lang/Exception"]) hx hb hst hown (by decide +kernel) (by decide +kernel) (hts (.classLink RX0 123 "java/lang/IndexOutOfBoundsException") (by decide +kernel)) (hts (.initialized "java/lang/IndexOutOfBoundsException") (by decide +kernel)) hsa9 (at_X (fun w h9 => hts w ((fun _ h => List.mem_cons_of_mem _ (List.mem_append_right _ h)) w h9)) hV0.2.2.2.2.2.2) gd_X hV0.2.2.2.2.1.1 hV0.2.2.2.2.1.2 hS (hl.1.trans hml.symm) dX0_needCell_20 dX0_needCell_23 dX0_needCell_24 dX0_needCell_26 dX0_needCell_29 (fun x hx9 => (htab x hx9).elim) (Nat.lt_of_lt_of_le (Nat.le_of_ble_eq_true rfl) hRf) (Nat.le_trans (Nat.le_of_ble_eq_true rfl) hRl) (Nat.le_trans (Nat.le_of_ble_eq_true rfl) hRc) (Nat.le_trans (Nat.le_of_ble_eq_true rfl) hRs) hlocks (fun t9 _ hs9 hq9 => x_thr hS trivial ⟨rfl, by rw [inR_hi (Int32.not_lt.mpr c_2)]; rfl⟩ hs9 hq9) (fun z hz => (hS.2.2 z hz).elim) (by omega) (by omega)
    · refine lv_iload_n hx hb dX0_needCell_10 rfl (lv_at hl 1 rfl) ?_
      refine lv_if_lt (tgt := 20) hx hb dX0_needCell_11 (by decide) (fun c_3 => ?_) (fun c_3 => ?_)
      · obtain ⟨sa9, hsa9⟩ := hV0.2.2.2.2.2.1.2.2.2.1
        rw [← hQ]
        exact vx_throwS (names := ["java/lang/RuntimeException", "java/lang/Exception"]) hx hb hst hown (by decide +kernel) (by decide +kernel) (hts (.classLink RX0 123 "java/lang/IndexOutOfBoundsException") (by decide +kernel)) (hts (.initialized "java/lang/IndexOutOfBoundsException") (by decide +kernel)) hsa9 (at_X (fun w h9 => hts w ((fun _ h => List.mem_cons_of_mem _ (List.mem_append_right _ h)) w h9)) hV0.2.2.2.2.2.2) gd_X hV0.2.2.2.2.1.1 hV0.2.2.2.2.1.2 hS (hl.1.trans hml.symm) dX0_needCell_20 dX0_needCell_23 dX0_needCell_24 dX0_needCell_26 dX0_needCell_29 (fun x hx9 => (htab x hx9).elim) (Nat.lt_of_lt_of_le (Nat.le_of_ble_eq_true rfl) hRf) (Nat.le_trans (Nat.le_of_ble_eq_true rfl) hRl) (Nat.le_trans (Nat.le_of_ble_eq_true rfl) hRc) (Nat.le_trans (Nat.le_of_ble_eq_true rfl) hRs) hlocks (fun t9 _ hs9 hq9 => x_thr hS trivial ⟨rfl, by rw [inR_lo c_3, Bool.and_false]⟩ hs9 hq9) (fun z hz => (hS.2.2 z hz).elim) (by omega) (by omega)
      · refine lv_iload_n hx hb dX0_needCell_14 rfl (lv_at hl 1 rfl) ?_
        refine lv_bipush (v := nI 8) hx hb dX0_needCell_15 (by decide) ?_
        refine lv_icmp_lt (tgt := 30) hx hb dX0_needCell_17 (by decide) (fun c_4 => ?_) (fun c_4 => ?_)
        · rw [← hQ]
          refine vx_ret ?_
          refine W.widen (k := 1) (n := 6) (by omega) (by omega) ?_
          exact W.vret hx hb hr (fun t ht hW => ⟨⟨(), rfl, ⟨inR_y c_1 (Int32.not_le.mp c_2), inR_y c_3 c_4⟩, trivial⟩, hS.F ht⟩) hS.2.2 dX0_needCell_30
        · obtain ⟨sa9, hsa9⟩ := hV0.2.2.2.2.2.1.2.2.2.1
          rw [← hQ]
          exact vx_throwS (names := ["java/lang/RuntimeException", "java/lang/Exception"]) hx hb hst hown (by decide +kernel) (by decide +kernel) (hts (.classLink RX0 123 "java/lang/IndexOutOfBoundsException") (by decide +kernel)) (hts (.initialized "java/lang/IndexOutOfBoundsException") (by decide +kernel)) hsa9 (at_X (fun w h9 => hts w ((fun _ h => List.mem_cons_of_mem _ (List.mem_append_right _ h)) w h9)) hV0.2.2.2.2.2.2) gd_X hV0.2.2.2.2.1.1 hV0.2.2.2.2.1.2 hS (hl.1.trans hml.symm) dX0_needCell_20 dX0_needCell_23 dX0_needCell_24 dX0_needCell_26 dX0_needCell_29 (fun x hx9 => (htab x hx9).elim) (Nat.lt_of_lt_of_le (Nat.le_of_ble_eq_true rfl) hRf) (Nat.le_trans (Nat.le_of_ble_eq_true rfl) hRl) (Nat.le_trans (Nat.le_of_ble_eq_true rfl) hRc) (Nat.le_trans (Nat.le_of_ble_eq_true rfl) hRs) hlocks (fun t9 _ hs9 hq9 => x_thr hS trivial ⟨rfl, by rw [inR_hi c_4, Bool.and_false]⟩ hs9 hq9) (fun z hz => (hS.2.2 z hz).elim) (by omega) (by omega)
set_option maxHeartbeats 4000000 in
set_option maxRecDepth 100000 in
/-- needWhat -/
theorem c_X0_needWhat (l : Launch) (hst : l.stackTraces = false) (D : va_G) (x : Int32) (k : Nat)  : vx_Met l yX0_needWhat wsX0_needWhat ({ frames := 6, cells := 1, slots := 6, locals := 82 } : Room) (va_Pc [.int x, .int (nI k)] (Pr D [] [] (EnvG (fun _ => False)))) (va_Qv (S := Unit) (fun _ => inR x k = true) (fun _ _ => True) (fun _ => False)) (vx_X (S := Unit) (fun _ => True) (fun E (_ : Unit) (_ : State) => E = nX ∧ inR x k = false) (fun _ => False)) 1 6 (fun _ => False) := by
  refine vx_ofW (cc := cX0_needWhat) (maxL := 2) (ret := none) (by decide) rfl ?_
  intro p e s m args below meth c s₁ B hml htab hv
  obtain ⟨hargs, hP, hK, hV⟩ := hv
  have hx := B.exec
  have hb := B.bytes
  have hr := B.returns
  have hts := atoms_spec (ws := wsX0_needWhat) B.pre
  have hown : s.vm.findClass RX0 = some m.cls := findClass_of_methodNamed B.named
  have hlocks := B.notSynchronized
  have hS : va_S (fun _ => False) s.heap s.heap [] := va_S.rf
  have hV0 : EnvG (fun _ => False) s := EnvG.nar hV sub_no
  have hRf : 6 ≤ (headSpec wsX0_needWhat ({ frames := 6, cells := 1, slots := 6, locals := 82 } : Room)).room.frames := Nat.le_refl _
  have hRl : 82 ≤ (headSpec wsX0_needWhat ({ frames := 6, cells := 1, slots := 6, locals := 82 } : Room)).room.locals := Nat.le_refl _
  have hRc : 1 ≤ (headSpec wsX0_needWhat ({ frames := 6, cells := 1, slots := 6, locals := 82 } : Room)).room.cells := Nat.le_refl _
  have hRs : 6 ≤ (headSpec wsX0_needWhat ({ frames := 6, cells := 1, slots := 6, locals := 82 } : Room)).room.slots := Nat.le_refl _
  generalize (headSpec wsX0_needWhat ({ frames := 6, cells := 1, slots := 6, locals := 82 } : Room)).room = R at hRf hRl hRc hRs ⊢
  have hl := lv_entry [.int x, .int (nI k)] (n := 2) (Nat.le_of_ble_eq_true rfl)
  refine W.eq (show entryFrame m args 2 = _ from by rw [hargs, lg_entry_eq]) ?_
  generalize (lg_sl [.int x, .int (nI k)] ++ List.replicate (2 - (lg_sl [.int x, .int (nI k)]).length) Slot.unset).toArray = ls at hl ⊢
  have hl : lv_has ls 2 [(0, .int x), (1, .int (nI k))] := hl
  generalize hQ : vx_MQ _ _ _ _ _ _ _ _ = Q
  refine lv_iload_n hx hb dX0_needWhat_0 rfl (lv_at hl 0 rfl) ?_
  refine lv_if_lt (tgt := 9) hx hb dX0_needWhat_1 (by decide) (fun c_1 => ?_) (fun c_1 => ?_)
  · obtain ⟨sa9, hsa9⟩ := hV0.2.2.2.2.2.1.2.2.2.2.2.2.2.1
    rw [← hQ]
    exact vx_throwS (names := ["java/lang/RuntimeException", "java/lang/Exception"]) hx hb hst hown (by decide +kernel) (by decide +kernel) (hts (.classLink RX0 123 "java/lang/IndexOutOfBoundsException") (by decide +kernel)) (hts (.initialized "java/lang/IndexOutOfBoundsException") (by decide +kernel)) hsa9 (at_X (fun w h9 => hts w ((fun _ h => List.mem_cons_of_mem _ (List.mem_append_right _ h)) w h9)) hV0.2.2.2.2.2.2) gd_X hV0.2.2.2.2.1.1 hV0.2.2.2.2.1.2 hS (hl.1.trans hml.symm) dX0_needWhat_9 dX0_needWhat_12 dX0_needWhat_13 dX0_needWhat_15 dX0_needWhat_18 (fun x hx9 => (htab x hx9).elim) (Nat.lt_of_lt_of_le (Nat.le_of_ble_eq_true rfl) hRf) (Nat.le_trans (Nat.le_of_ble_eq_true rfl) hRl) (Nat.le_trans (Nat.le_of_ble_eq_true rfl) hRc) (Nat.le_trans (Nat.le_of_ble_eq_true rfl) hRs) hlocks (fun t9 _ hs9 hq9 => x_thr hS trivial ⟨rfl, inR_lo c_1⟩ hs9 hq9) (fun z hz => (hS.2.2 z hz).elim) (by omega) (by omega)
  · refine lv_iload_n hx hb dX0_needWhat_4 rfl (lv_at hl 0 rfl) ?_
    refine lv_iload_n hx hb dX0_needWhat_5 rfl (lv_at hl 1 rfl) ?_
    refine lv_icmp_lt (tgt := 19) hx hb dX0_needWhat_6 (by decide) (fun c_2 => ?_) (fun c_2 => ?_)
    · rw [← hQ]
      refine vx_ret ?_
      refine W.widen (k := 1) (n := 6) (by omega) (by omega) ?_
      exact W.vret hx hb hr (fun t ht hW => ⟨⟨(), rfl, (inR_y c_1 c_2), trivial⟩, hS.F ht⟩) hS.2.2 dX0_needWhat_19
    · obtain ⟨sa9, hsa9⟩ := hV0.2.2.2.2.2.1.2.2.2.2.2.2.2.1
      rw [← hQ]
      exact vx_throwS (names := ["java/lang/RuntimeException", "java/lang/Exception"]) hx hb hst hown (by decide +kernel) (by decide +kernel) (hts (.classLink RX0 123 "java/lang/IndexOutOfBoundsException") (by decide +kernel)) (hts (.initialized "java/lang/IndexOutOfBoundsException") (by decide +kernel)) hsa9 (at_X (fun w h9 => hts w ((fun _ h => List.mem_cons_of_mem _ (List.mem_append_right _ h)) w h9)) hV0.2.2.2.2.2.2) gd_X hV0.2.2.2.2.1.1 hV0.2.2.2.2.1.2 hS (hl.1.trans hml.symm) dX0_needWhat_9 dX0_needWhat_12 dX0_needWhat_13 dX0_needWhat_15 dX0_needWhat_18 (fun x hx9 => (htab x hx9).elim) (Nat.lt_of_lt_of_le (Nat.le_of_ble_eq_true rfl) hRf) (Nat.le_trans (Nat.le_of_ble_eq_true rfl) hRl) (Nat.le_trans (Nat.le_of_ble_eq_true rfl) hRc) (Nat.le_trans (Nat.le_of_ble_eq_true rfl) hRs) hlocks (fun t9 _ hs9 hq9 => x_thr hS trivial ⟨rfl, inR_hi c_2⟩ hs9 hq9) (fun z hz => (hS.2.2 z hz).elim) (by omega) (by omega)
set_option maxHeartbeats 4000000 in
set_option maxRecDepth 100000 in
/-- needColour -/
theorem c_X0_needColour (l : Launch) (hst : l.stackTraces = false) (D : va_G) (x : Int32)  : vx_Met l yX0_needColour wsX0_needColour ({ frames := 6, cells := 1, slots := 6, locals := 82 } : Room) (va_Pc [.int x] (Pr D [] [] (EnvG (fun _ => False)))) (va_Qv (S := Unit) (fun _ => inR x 6 = true) (fun _ _ => True) (fun _ => False)) (vx_X (S := Unit) (fun _ => True) (fun E (_ : Unit) (_ : State) => E = nA ∧ inR x 6 = false) (fun _ => False)) 1 6 (fun _ => False) := by
  refine vx_ofW (cc := cX0_needColour) (maxL := 1) (ret := none) (by decide) rfl ?_
  intro p e s m args below meth c s₁ B hml htab hv
  obtain ⟨hargs, hP, hK, hV⟩ := hv
  have hx := B.exec
  have hb := B.bytes
  have hr := B.returns
  have hts := atoms_spec (ws := wsX0_needColour) B.pre
  have hown : s.vm.findClass RX0 = some m.cls := findClass_of_methodNamed B.named
  have hlocks := B.notSynchronized
  have hS : va_S (fun _ => False) s.heap s.heap [] := va_S.rf
  have hV0 : EnvG (fun _ => False) s := EnvG.nar hV sub_no
  have hRf : 6 ≤ (headSpec wsX0_needColour ({ frames := 6, cells := 1, slots := 6, locals := 82 } : Room)).room.frames := Nat.le_refl _
  have hRl : 82 ≤ (headSpec wsX0_needColour ({ frames := 6, cells := 1, slots := 6, locals := 82 } : Room)).room.locals := Nat.le_refl _
  have hRc : 1 ≤ (headSpec wsX0_needColour ({ frames := 6, cells := 1, slots := 6, locals := 82 } : Room)).room.cells := Nat.le_refl _
  have hRs : 6 ≤ (headSpec wsX0_needColour ({ frames := 6, cells := 1, slots := 6, locals := 82 } : Room)).room.slots := Nat.le_refl _
  generalize (headSpec wsX0_needColour ({ frames := 6, cells := 1, slots := 6, locals := 82 } : Room)).room = R at hRf hRl hRc hRs ⊢
  have hl := lv_entry [.int x] (n := 1) (Nat.le_of_ble_eq_true rfl)
  refine W.eq (show entryFrame m args 1 = _ from by rw [hargs, lg_entry_eq]) ?_
  generalize (lg_sl [.int x] ++ List.replicate (1 - (lg_sl [.int x]).length) Slot.unset).toArray = ls at hl ⊢
  have hl : lv_has ls 1 [(0, .int x)] := hl
  generalize hQ : vx_MQ _ _ _ _ _ _ _ _ = Q
  refine lv_iload_n hx hb dX0_needColour_0 rfl (lv_at hl 0 rfl) ?_
  refine lv_if_lt (tgt := 10) hx hb dX0_needColour_1 (by decide) (fun c_1 => ?_) (fun c_1 => ?_)
  · obtain ⟨sa9, hsa9⟩ := hV0.2.2.2.2.2.1.1
    rw [← hQ]
    exact vx_throwS (names := ["java/lang/RuntimeException", "java/lang/Exception"]) hx hb hst hown (by decide +kernel) (by decide +kernel) (hts (.classLink RX0 74 "java/lang/IllegalArgumentException") (by decide +kernel)) (hts (.initialized "java/lang/IllegalArgumentException") (by decide +kernel)) hsa9 (at_A (fun w h9 => hts w ((fun _ h => List.mem_cons_of_mem _ (List.mem_append_right _ h)) w h9)) hV0.2.2.2.2.2.2) gd_A hV0.2.2.2.2.1.1 hV0.2.2.2.2.1.2 hS (hl.1.trans hml.symm) dX0_needColour_10 dX0_needColour_13 dX0_needColour_14 dX0_needColour_16 dX0_needColour_19 (fun x hx9 => (htab x hx9).elim) (Nat.lt_of_lt_of_le (Nat.le_of_ble_eq_true rfl) hRf) (Nat.le_trans (Nat.le_of_ble_eq_true rfl) hRl) (Nat.le_trans (Nat.le_of_ble_eq_true rfl) hRc) (Nat.le_trans (Nat.le_of_ble_eq_true rfl) hRs) hlocks (fun t9 _ hs9 hq9 => x_thr hS trivial ⟨rfl, inR_lo c_1⟩ hs9 hq9) (fun z hz => (hS.2.2 z hz).elim) (by omega) (by omega)
  · refine lv_iload_n hx hb dX0_needColour_4 rfl (lv_at hl 0 rfl) ?_
    refine lv_bipush (v := nI 6) hx hb dX0_needColour_5 (by decide) ?_
    refine lv_icmp_lt (tgt := 20) hx hb dX0_needColour_7 (by decide) (fun c_2 => ?_) (fun c_2 => ?_)
    · rw [← hQ]
      refine vx_ret ?_
      refine W.widen (k := 1) (n := 6) (by omega) (by omega) ?_
      exact W.vret hx hb hr (fun t ht hW => ⟨⟨(), rfl, (inR_y c_1 c_2), trivial⟩, hS.F ht⟩) hS.2.2 dX0_needColour_20
    · obtain ⟨sa9, hsa9⟩ := hV0.2.2.2.2.2.1.1
      rw [← hQ]
      exact vx_throwS (names := ["java/lang/RuntimeException", "java/lang/Exception"]) hx hb hst hown (by decide +kernel) (by decide +kernel) (hts (.classLink RX0 74 "java/lang/IllegalArgumentException") (by decide +kernel)) (hts (.initialized "java/lang/IllegalArgumentException") (by decide +kernel)) hsa9 (at_A (fun w h9 => hts w ((fun _ h => List.mem_cons_of_mem _ (List.mem_append_right _ h)) w h9)) hV0.2.2.2.2.2.2) gd_A hV0.2.2.2.2.1.1 hV0.2.2.2.2.1.2 hS (hl.1.trans hml.symm) dX0_needColour_10 dX0_needColour_13 dX0_needColour_14 dX0_needColour_16 dX0_needColour_19 (fun x hx9 => (htab x hx9).elim) (Nat.lt_of_lt_of_le (Nat.le_of_ble_eq_true rfl) hRf) (Nat.le_trans (Nat.le_of_ble_eq_true rfl) hRl) (Nat.le_trans (Nat.le_of_ble_eq_true rfl) hRc) (Nat.le_trans (Nat.le_of_ble_eq_true rfl) hRs) hlocks (fun t9 _ hs9 hq9 => x_thr hS trivial ⟨rfl, inR_hi c_2⟩ hs9 hq9) (fun z hz => (hS.2.2 z hz).elim) (by omega) (by omega)
set_option maxHeartbeats 4000000 in
set_option maxRecDepth 100000 in
/-- needKind -/
theorem c_X0_needKind (l : Launch) (hst : l.stackTraces = false) (D : va_G) (x : Int32)  : vx_Met l yX0_needKind wsX0_needKind ({ frames := 6, cells := 1, slots := 6, locals := 82 } : Room) (va_Pc [.int x] (Pr D [] [] (EnvG (fun _ => False)))) (va_Qv (S := Unit) (fun _ => inR x 4 = true) (fun _ _ => True) (fun _ => False)) (vx_X (S := Unit) (fun _ => True) (fun E (_ : Unit) (_ : State) => E = nA ∧ inR x 4 = false) (fun _ => False)) 1 6 (fun _ => False) := by
  refine vx_ofW (cc := cX0_needKind) (maxL := 1) (ret := none) (by decide) rfl ?_
  intro p e s m args below meth c s₁ B hml htab hv
  obtain ⟨hargs, hP, hK, hV⟩ := hv
  have hx := B.exec
  have hb := B.bytes
  have hr := B.returns
  have hts := atoms_spec (ws := wsX0_needKind) B.pre
  have hown : s.vm.findClass RX0 = some m.cls := findClass_of_methodNamed B.named
  have hlocks := B.notSynchronized
  have hS : va_S (fun _ => False) s.heap s.heap [] := va_S.rf
  have hV0 : EnvG (fun _ => False) s := EnvG.nar hV sub_no
  have hRf : 6 ≤ (headSpec wsX0_needKind ({ frames := 6, cells := 1, slots := 6, locals := 82 } : Room)).room.frames := Nat.le_refl _
  have hRl : 82 ≤ (headSpec wsX0_needKind ({ frames := 6, cells := 1, slots := 6, locals := 82 } : Room)).room.locals := Nat.le_refl _
  have hRc : 1 ≤ (headSpec wsX0_needKind ({ frames := 6, cells := 1, slots := 6, locals := 82 } : Room)).room.cells := Nat.le_refl _
  have hRs : 6 ≤ (headSpec wsX0_needKind ({ frames := 6, cells := 1, slots := 6, locals := 82 } : Room)).room.slots := Nat.le_refl _
  generalize (headSpec wsX0_needKind ({ frames := 6, cells := 1, slots := 6, locals := 82 } : Room)).room = R at hRf hRl hRc hRs ⊢
  have hl := lv_entry [.int x] (n := 1) (Nat.le_of_ble_eq_true rfl)
  refine W.eq (show entryFrame m args 1 = _ from by rw [hargs, lg_entry_eq]) ?_
  generalize (lg_sl [.int x] ++ List.replicate (1 - (lg_sl [.int x]).length) Slot.unset).toArray = ls at hl ⊢
  have hl : lv_has ls 1 [(0, .int x)] := hl
  generalize hQ : vx_MQ _ _ _ _ _ _ _ _ = Q
  refine lv_iload_n hx hb dX0_needKind_0 rfl (lv_at hl 0 rfl) ?_
  refine lv_if_lt (tgt := 9) hx hb dX0_needKind_1 (by decide) (fun c_1 => ?_) (fun c_1 => ?_)
  · obtain ⟨sa9, hsa9⟩ := hV0.2.2.2.2.2.1.2.2.2.2.2.2.2.2.1
    rw [← hQ]
    exact vx_throwS (names := ["java/lang/RuntimeException", "java/lang/Exception"]) hx hb hst hown (by decide +kernel) (by decide +kernel) (hts (.classLink RX0 74 "java/lang/IllegalArgumentException") (by decide +kernel)) (hts (.initialized "java/lang/IllegalArgumentException") (by decide +kernel)) hsa9 (at_A (fun w h9 => hts w ((fun _ h => List.mem_cons_of_mem _ (List.mem_append_right _ h)) w h9)) hV0.2.2.2.2.2.2) gd_A hV0.2.2.2.2.1.1 hV0.2.2.2.2.1.2 hS (hl.1.trans hml.symm) dX0_needKind_9 dX0_needKind_12 dX0_needKind_13 dX0_needKind_15 dX0_needKind_18 (fun x hx9 => (htab x hx9).elim) (Nat.lt_of_lt_of_le (Nat.le_of_ble_eq_true rfl) hRf) (Nat.le_trans (Nat.le_of_ble_eq_true rfl) hRl) (Nat.le_trans (Nat.le_of_ble_eq_true rfl) hRc) (Nat.le_trans (Nat.le_of_ble_eq_true rfl) hRs) hlocks (fun t9 _ hs9 hq9 => x_thr hS trivial ⟨rfl, inR_lo c_1⟩ hs9 hq9) (fun z hz => (hS.2.2 z hz).elim) (by omega) (by omega)
  · refine lv_iload_n hx hb dX0_needKind_4 rfl (lv_at hl 0 rfl) ?_
    refine lv_iconst (v := nI 4) hx hb dX0_needKind_5 (by decide) ?_
    refine lv_icmp_lt (tgt := 19) hx hb dX0_needKind_6 (by decide) (fun c_2 => ?_) (fun c_2 => ?_)
    · rw [← hQ]
      refine vx_ret ?_
      refine W.widen (k := 1) (n := 6) (by omega) (by omega) ?_
      exact W.vret hx hb hr (fun t ht hW => ⟨⟨(), rfl, (inR_y c_1 c_2), trivial⟩, hS.F ht⟩) hS.2.2 dX0_needKind_19
    · obtain ⟨sa9, hsa9⟩ := hV0.2.2.2.2.2.1.2.2.2.2.2.2.2.2.1
      rw [← hQ]
      exact vx_throwS (names := ["java/lang/RuntimeException", "java/lang/Exception"]) hx hb hst hown (by decide +kernel) (by decide +kernel) (hts (.classLink RX0 74 "java/lang/IllegalArgumentException") (by decide +kernel)) (hts (.initialized "java/lang/IllegalArgumentException") (by decide +kernel)) hsa9 (at_A (fun w h9 => hts w ((fun _ h => List.mem_cons_of_mem _ (List.mem_append_right _ h)) w h9)) hV0.2.2.2.2.2.2) gd_A hV0.2.2.2.2.1.1 hV0.2.2.2.2.1.2 hS (hl.1.trans hml.symm) dX0_needKind_9 dX0_needKind_12 dX0_needKind_13 dX0_needKind_15 dX0_needKind_18 (fun x hx9 => (htab x hx9).elim) (Nat.lt_of_lt_of_le (Nat.le_of_ble_eq_true rfl) hRf) (Nat.le_trans (Nat.le_of_ble_eq_true rfl) hRl) (Nat.le_trans (Nat.le_of_ble_eq_true rfl) hRc) (Nat.le_trans (Nat.le_of_ble_eq_true rfl) hRs) hlocks (fun t9 _ hs9 hq9 => x_thr hS trivial ⟨rfl, inR_hi c_2⟩ hs9 hq9) (fun z hz => (hS.2.2 z hz).elim) (by omega) (by omega)
