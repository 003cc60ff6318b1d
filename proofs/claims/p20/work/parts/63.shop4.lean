theorem AOA_moved {u U : State} (hvm : u.vm.Alike U.vm) (h : va_AOA .int u) : va_AOA .int U := arrayOver_alikeB hvm h
set_option maxHeartbeats 4000000 in
set_option maxRecDepth 100000 in
/-- the law's workshop: a class in a state that keeps the invariant -/
theorem c_L_shop (l : Launch) (hst : l.stackTraces = false) (D : va_G) (cI cZ cO : ClassId) (b L : Nat) (xs : Nat → Int32) (sz : Nat) (hL : L < 2 ^ 20) : Met l yL_shop wsL_shop ({ frames := 9, cells := 3000, slots := 30000, locals := 200 } : Room) (va_Pc [.ref b] (fun U => va_K D vwCl (gT cI cZ cO) U ∧ VX b L xs U ∧ EnvL (fun q => sz ≤ q) U ∧ va_AOA .int U ∧ U.heap.size = sz)) (va_Qr (S := (Nat → Nat) × Nat × Nat × Nat × (Nat → Nat → Int32)) (fun u => inj u.1 23 ∧ (∀ i, i ≤ 23 → sz ≤ u.1 i) ∧ 1 ≤ u.2.1 ∧ J u.2.1 u.2.2.1 u.2.2.2.1 u.2.2.2.2) (fun u ra t => ra = u.1 0 ∧ GW D cI cZ cO u.1 u.2.1 u.2.2.1 u.2.2.2.1 u.2.2.2.2 t.heap) (fun q => sz ≤ q)) 3000 30000 (fun q => sz ≤ q) := by
  refine Met.ofW (cc := cL_shop) (maxL := 11) (ret := (some (.object "GloveCutters"))) (by decide) rfl ?_
  intro p e s m args below meth c s₁ B hml hv
  obtain ⟨hargs, hK, ⟨hX, hbl⟩, hE, hAO, hsz⟩ := hv
  subst hsz
  have hx := B.exec
  have hb := B.bytes
  have hr := B.returns
  have hts := atoms_spec (ws := wsL_shop) B.pre
  have hown : s.vm.findClass RL = some m.cls := findClass_of_methodNamed B.named
  have hlocks := B.notSynchronized
  have hin : ∀ w ∈ wsX00, w ∈ wsL_shop := (fun _ h => List.mem_cons_of_mem _ (List.mem_append_left _ (List.mem_append_left _ (List.mem_append_left _ (List.mem_append_right _ h)))))
  have hS : va_S (LA s) s.heap s.heap [] := va_S.rf
  have hA : ∀ q, s.heap.size ≤ q → LA s q := fun _ h => h
  have hP : va_P D vwCl [] s.heap := P_nil
  have hD : va_D (LA s) [] := ⟨fun i j p q h => by simp at h, fun k q h => by simp at h⟩
  have hRf : 9 ≤ (headSpec wsL_shop ({ frames := 9, cells := 3000, slots := 30000, locals := 200 } : Room)).room.frames := Nat.le_refl _
  have hRl : 200 ≤ (headSpec wsL_shop ({ frames := 9, cells := 3000, slots := 30000, locals := 200 } : Room)).room.locals := Nat.le_refl _
  have hRc : 3000 ≤ (headSpec wsL_shop ({ frames := 9, cells := 3000, slots := 30000, locals := 200 } : Room)).room.cells := Nat.le_refl _
  have hRs : 30000 ≤ (headSpec wsL_shop ({ frames := 9, cells := 3000, slots := 30000, locals := 200 } : Room)).room.slots := Nat.le_refl _
  generalize (headSpec wsL_shop ({ frames := 9, cells := 3000, slots := 30000, locals := 200 } : Room)).room = R at hRf hRl hRc hRs ⊢
  have hl := lv_entry [.ref b] (n := 11) (Nat.le_of_ble_eq_true rfl)
  refine W.eq (show entryFrame m args 11 = _ from by rw [hargs, lg_entry_eq]) ?_
  generalize (lg_sl [.ref b] ++ List.replicate (11 - (lg_sl [.ref b]).length) Slot.unset).toArray = ls at hl ⊢
  have hl : lv_has ls 11 [(0, .ref b)] := hl
  generalize hQ : MQ _ _ _ _ _ _ _ = Q
  have hCx : LC cL_shop 11 wsL_shop p s m c args R D cI cZ cO b L xs := ⟨hx, hb, hml, hown, hts, hK, hX, hbl, hL, hAO, hE, hRf, hRl⟩
  refine va_new (ci := 0) (fs := [.int 0, .null, .null, .null, .int 0, .null, .null, .null, .null, .int 0, .null, .null, .null, .null, .null, .null]) (C := RX0) (T := TX0) (N := 16) hx hb hts hin tyX0 tyX0_ok hown (hts (Cond.classLink RL 9 RX0) (by decide +kernel)) (hts (Cond.instantiable RX0 16) (by decide +kernel)) (hts (Cond.initialized RX0) (by decide +kernel)) hK hP hD hS hA rfl (fun j hj => by rcases (show j = 0 ∨ j = 1 ∨ j = 2 ∨ j = 3 ∨ j = 4 ∨ j = 5 ∨ j = 6 ∨ j = 7 ∨ j = 8 ∨ j = 9 ∨ j = 10 ∨ j = 11 ∨ j = 12 ∨ j = 13 ∨ j = 14 ∨ j = 15 by omega) with rfl | rfl | rfl | rfl | rfl | rfl | rfl | rfl | rfl | rfl | rfl | rfl | rfl | rfl | rfl | rfl <;> rfl) (by omega) (by omega) dL_shop_0 (fun q0 H hP hD hS => ?_)
  have hP : va_P D vwCl [(q0, .inr (0, [.int 0, .null, .null, .null, .int 0, .null, .null, .null, .null, .int 0, .null, .null, .null, .null, .null, .null]))] H := hP
  have hL0 : LA s q0 := hD.2 0 _ rfl
  refine lv_dup hx hb dL_shop_3 rfl ?_
  refine va_callv (va_runI (As := []) (rest := [.ref q0]) ⟨hx, hb, hml, hown, hts⟩ (c_X0_init l D cI cZ cO q0 H.size) (cwI 0 hts gL_shop_X0_init rfl rfl rfl (hts (Cond.initialized RX0) (by decide +kernel)) (hts (Cond.methodLink RL 11 yX0_init) (by decide +kernel)) (hts (Cond.instanceMethod yX0_init) (by decide +kernel)) rfl (by decide +kernel) ⟨Nat.le_trans (Nat.le_of_ble_eq_true rfl) hRf, Nat.le_trans (Nat.le_of_ble_eq_true rfl) hRl⟩) (pr_S hP hK [0, 1, 2] rfl (fun U hU hW => ⟨by rw [hU], AOA_moved (u := s) hW.alike hAO⟩) (fun U g mk a h => ⟨h.1, AOA_moved (u := U) (U := U.calling g mk a) (Vm.Alike.refl U.vm) h.2⟩)) rfl rfl hl.1 rfl (lv_room (Nat.le_of_ble_eq_true rfl)) dL_shop_4 ⟨by omega, by omega⟩) hS (fun q _ h => h.elim (fun e => e ▸ hL0) (fun h2 => Nat.le_trans hS.1 h2)) (fun q h => h.elim (fun e => e ▸ hL0) (fun h2 => Nat.le_trans hS.1 h2)) (fun aG t H1 locs ht hvm hw hB hz hk hS1 => ?_)
  obtain ⟨e0, hiG, hnG⟩ := hw
  rw [ht] at hB
  have hLG : ∀ i, i ≤ 23 → s.heap.size ≤ aG i := fun i hi => by
    by_cases h : i = 0
    · subst h; rw [e0]; exact hL0
    · exact Nat.le_trans hS.1 (hnG i (by omega) hi)
  rw [← e0]
  have hG := GW.of hB
  refine lv_astore_n (lv' := [(1, .ref (aG 0)), (0, .ref b)]) hx hb dL_shop_7 rfl hl (by decide) rfl (fun ls hl => ?_)
  refine hs_1 hst hCx ⟨hiG, hLG⟩ K1_0 _ _ _ _ _ (by omega) (by omega) hG hS1 (lv_sub hl [1, 0] rfl) (fun n co F c1 s1 H1 locs ls hc1 hs1 h1 h2 h3 hJ hG hS hl => ?_)
  refine hs_6 hst hCx ⟨hiG, hLG⟩ n co F h1 h2 h3 (J_K1 hJ) _ _ _ _ _ (by omega) (by omega) hG hS (lv_sub hl [0, 1, 2, 3] rfl) (fun np2 nq2 F2 c2 s2 H1 locs ls hc2 hs2 hJ hG hS hl => ?_)
  refine lv_aload_n hx hb dL_shop_436 rfl (lv_at hl 1 rfl) ?_
  rw [← hQ]
  refine W.widen (k := 3000) (n := 30000) (by omega) (by omega) ?_
  exact W.aret (v := .ref (aG 0)) hx hb hr (Or.inl ⟨_, rfl⟩) (Or.inr ⟨_, rfl⟩) (fun t ht hW => ⟨⟨(aG, n, np2, nq2, F2), aG 0, rfl, ⟨hiG, hLG, h1, hJ⟩, rfl, by subst ht; exact hG⟩, hS.F ht⟩) hS.2.2 dL_shop_437
