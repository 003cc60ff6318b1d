theorem r1_in {w : Cond} (h : w ∈ wsL_law0_r1) : w ∈ wsL_law := List.mem_append_left _ (List.mem_append_left _ (List.mem_append_left _ (by unfold wsL_law0; exact List.mem_append_left _ (List.mem_append_left _ (List.mem_append_left _ (List.mem_append_left _ h))))))
theorem D_last {A : Nat → Prop} {ws : va_W} {x : Nat × va_E} (hD : va_D A (ws ++ [x])) {k : Nat} {q : Nat × va_E} (hq : ws[k]? = some q) : ¬ x.1 = q.1 := fun e => by
  have hk := (List.getElem?_eq_some_iff.mp hq).1
  have h1 : (ws ++ [x])[k]? = some q := by rw [List.getElem?_append_left hk]; exact hq
  have h2 : (ws ++ [x])[ws.length]? = some x := by simp
  have h3 := hD.1 _ _ _ _ h2 h1 e
  omega
theorem wG_get {cI cZ cO : ClassId} {ad : Nat → Nat} {n np nq : Nat} {F : Nat → Nat → Int32} {i : Nat} (hi : i ≤ 23) : ∃ e : va_E, (wG cI cZ cO ad n np nq F)[i]? = some (ad i, e) := by
  match i, hi with
  | 0, _ => exact ⟨_, g_at0⟩
  | i + 1, hi => exact ⟨_, AW_get (by omega) hi⟩
theorem wM_get {cI : ClassId} {ad : Nat → Nat} {th : Int32} {n np nq : Nat} {F : Nat → Nat → Int32} {T : Nat → Int32} {i : Nat} (hi : i ≤ 8) : ∃ e : va_E, (wM cI ad th n np nq F T)[i]? = some (ad i, e) := by
  match i, hi with
  | 0, _ => exact ⟨_, m_at0⟩
  | i + 1, hi => exact ⟨_, AW_get (by omega) hi⟩
-- ===== YOUR PART BEGINS =====
set_option maxHeartbeats 4000000 in
set_option maxRecDepth 100000 in
/-- THE LAW, from its entry -/
theorem whole_start {p : Program} {e : Env} {s : State} {m : MethodId} {below : List Frame} {meth : Method} {c : Code} (l : Launch) (hflags : l.flags = flags0) {b L : Nat} {xs : Nat → Int32} (hL : L ≤ 3584) (C0 : lw_At p s m meth c b L xs) : W p l e room_1 s m #[Value.ref b] below meth c s.heap [] 0 0 (lw_Z below #[Value.ref b] s) (entryFrame m ([Value.ref b] : List Value).toArray 9) := by
  have hst : l.stackTraces = false := by rw [Launch.stackTraces, hflags]; decide +kernel
  obtain ⟨hEL, hEM⟩ := env_L C0
  obtain ⟨hao, cI, cZ, cO, cL, hTy⟩ := env_arr C0
  obtain ⟨hx, hb, hr, hml, hown, hts0, hX, hbl, hlocks, hgv⟩ := id C0
  have hts : ∀ w ∈ wsL_law, w.before #[Value.ref b] s = true := fun w h => hts0 w (wsL_law_in w h)
  obtain ⟨c0, iS0, hKn0⟩ := u_known (C := RX0) (T := TX0) (N := 16) (n := 16) hts inlX0 (hts (Cond.instantiable RX0 16) (r1_in (by decide +kernel)))
  obtain ⟨c1, iS1, hKn1⟩ := u_known (C := RX1) (T := TX1) (N := 12) (n := 12) hts inlX1 (hts (Cond.instantiable RX1 12) (r1_in (by decide +kernel)))
  obtain ⟨D, hKc⟩ : ∃ D : va_G, ∀ (k : Nat) (q : vw_C), vwCl[k]? = some q → u_Kn s q.1 q.2.1 q.2.2 (D.1 k) (D.2 k) := by
    refine ⟨(fun k => if k = 0 then c0 else c1, fun k => if k = 0 then iS0 else iS1), ?_⟩
    intro k q hq
    match k, hq with
    | 0, hq => cases hq; exact hKn0
    | 1, hq => cases hq; exact hKn1
    | k + 2, hq => simp [vwCl] at hq
  have hK0 : va_K D vwCl (gT cI cZ cO ++ [(cL, FieldType.long)]) s := ⟨hKc, hTy⟩
  have hd0 := Drawn.sameBut.refl s.drawn lw_cs
  refine W.base ?_
  have hts := dr_words hts s.drawn
  have hK : va_K D vwCl (gT cI cZ cO ++ [(cL, FieldType.long)]) (s.setDrawn s.drawn) := hK0
  have hb : c.code = cL_law := hb
  have hown : s.vm.findClass RL = some m.cls := hown
  have hA : ∀ q, s.heap.size ≤ q → LA s q := fun _ h => h
  have hS : va_S (LA s) s.heap s.heap [] := va_S.rf
  have hP : va_P D vwCl [] s.heap := P_nil
  have hD : va_D (LA s) [] := ⟨fun i j p q h => by simp at h, fun k q h => by simp at h⟩
  have hl := lv_entry ([.ref b]) (n := 9) (Nat.le_of_ble_eq_true rfl)
  rw [lg_entry_eq]
  generalize (lg_sl ([.ref b]) ++ List.replicate (9 - (lg_sl ([.ref b])).length) Slot.unset).toArray = ls at hl ⊢
  have hl : lv_has ls 9 [(0, .ref b)] := hl
  refine va_new (ci := 0) (fs := [.int 0, .null, .null, .null, .int 0, .null, .null, .null, .null, .int 0, .null, .null, .null, .null, .null, .null]) (C := RX0) (T := TX0) (N := 16) hx hb hts inlX0 tyX0 tyX0_ok hown (hts (Cond.classLink RL 8 RX0) (r1_in (by decide +kernel))) (hts (Cond.instantiable RX0 16) (r1_in (by decide +kernel))) (hts (Cond.initialized RX0) (r1_in (by decide +kernel))) hK hP hD hS hA rfl (fun j hj => by rcases (show j = 0 ∨ j = 1 ∨ j = 2 ∨ j = 3 ∨ j = 4 ∨ j = 5 ∨ j = 6 ∨ j = 7 ∨ j = 8 ∨ j = 9 ∨ j = 10 ∨ j = 11 ∨ j = 12 ∨ j = 13 ∨ j = 14 ∨ j = 15 by omega) with rfl | rfl | rfl | rfl | rfl | rfl | rfl | rfl | rfl | rfl | rfl | rfl | rfl | rfl | rfl | rfl <;> rfl) (Nat.le_of_ble_eq_true rfl) (Nat.le_of_ble_eq_true rfl) dL_law_0 (fun q0 H hP hD hS => ?_)
  have hP : va_P D vwCl [(q0, .inr (0, [.int 0, .null, .null, .null, .int 0, .null, .null, .null, .null, .int 0, .null, .null, .null, .null, .null, .null]))] H := hP
  have hL0 : LA s q0 := hD.2 0 _ rfl
  refine lv_dup hx hb dL_law_3 rfl ?_
  refine va_callv (va_runI (As := []) (rest := [.ref q0]) ⟨hx, hb, hml, hown, hts⟩ (c_X0_init l D cI cZ cO q0 H.size) (cwI 0 hts gL_law_X0_init rfl rfl rfl (hts (Cond.initialized RX0) (r1_in (by decide +kernel))) (hts (Cond.methodLink RL 67 yX0_init) (r1_in (by decide +kernel))) (hts (Cond.instanceMethod yX0_init) (r1_in (by decide +kernel))) rfl (by decide +kernel) ⟨Nat.le_of_ble_eq_true rfl, Nat.le_of_ble_eq_true rfl⟩) (pr_S hP hK [0, 1, 2] rfl (fun U hU hW => ⟨by rw [hU], AOA_moved (u := s) hW.alike hao⟩) (fun U g mk a h => ⟨h.1, AOA_moved (u := U) (U := U.calling g mk a) (Vm.Alike.refl U.vm) h.2⟩)) rfl rfl hl.1 rfl (lv_room (Nat.le_of_ble_eq_true rfl)) dL_law_4 ⟨Nat.le_of_ble_eq_true rfl, Nat.le_of_ble_eq_true rfl⟩) hS (fun q _ h => h.elim (fun e => e ▸ hL0) (fun h2 => Nat.le_trans hS.1 h2)) (fun q h => h.elim (fun e => e ▸ hL0) (fun h2 => Nat.le_trans hS.1 h2)) (fun aG t H1 locs ht hvm hw hB hz hk hS1 => ?_)
  obtain ⟨e0, hiG, hnG⟩ := hw
  rw [ht] at hB
  have hLG : ∀ i, i ≤ 23 → LA s (aG i) := fun i hi => by
    by_cases h : i = 0
    · subst h; rw [e0]; exact hL0
    · exact Nat.le_trans hS.1 (hnG i (by omega) hi)
  rw [← e0]
  have hS := hS1
  have hP : va_P D vwCl (wG cI cZ cO aG 0 0 0 (fun _ _ => 0)) H1 := hB
  have hD : va_D (LA s) (wG cI cZ cO aG 0 0 0 (fun _ _ => 0)) := (g_D hiG).weaken (fun _ _ _ ⟨i, hi, e⟩ => e ▸ hLG i hi)
  refine lv_astore_n (lv' := [(1, .ref (aG 0)), (0, .ref b)]) hx hb dL_law_7 rfl hl (by decide) rfl (fun ls hl => ?_)
  refine va_new (ci := 1) (fs := [.int 0, .int 0, .null, .null, .int 0, .null, .null, .null, .null, .int 0, .null, .null]) (C := RX1) (T := TX1) (N := 12) hx hb hts inlX1 tyX1 tyX1_ok hown (hts (Cond.classLink RL 68 RX1) (r1_in (by decide +kernel))) (hts (Cond.instantiable RX1 12) (r1_in (by decide +kernel))) (hts (Cond.initialized RX1) (r1_in (by decide +kernel))) hK hP hD hS hA rfl (fun j hj => by rcases (show j = 0 ∨ j = 1 ∨ j = 2 ∨ j = 3 ∨ j = 4 ∨ j = 5 ∨ j = 6 ∨ j = 7 ∨ j = 8 ∨ j = 9 ∨ j = 10 ∨ j = 11 by omega) with rfl | rfl | rfl | rfl | rfl | rfl | rfl | rfl | rfl | rfl | rfl | rfl <;> rfl) (Nat.le_of_ble_eq_true rfl) (Nat.le_of_ble_eq_true rfl) dL_law_8 (fun q1 H2 hP2 hD2 hS => ?_)
  have hG := P_drop hP2
  have hP : va_P D vwCl [(q1, .inr (1, [.int 0, .int 0, .null, .null, .int 0, .null, .null, .null, .null, .int 0, .null, .null]))] H2 := P_last hP2
  have hL1 : LA s q1 := hD2.2 24 _ rfl
  have hq1 : ∀ i, i ≤ 23 → ¬ q1 = aG i := fun i hi => by
    obtain ⟨e, he⟩ := wG_get (cI := cI) (cZ := cZ) (cO := cO) (ad := aG) (n := 0) (np := 0) (nq := 0) (F := fun _ _ => 0) hi
    exact D_last hD2 he
  refine lv_dup hx hb dL_law_11 rfl ?_
  refine va_callv (va_runI (As := []) (rest := [.ref q1]) ⟨hx, hb, hml, hown, hts⟩ (c_X1_init l D cI q1 H2.size) (cwI 0 hts gL_law_X1_init rfl rfl rfl (hts (Cond.initialized RX1) (r1_in (by decide +kernel))) (hts (Cond.methodLink RL 70 yX1_init) (by decide +kernel)) (hts (Cond.instanceMethod yX1_init) (by decide +kernel)) rfl (by decide +kernel) ⟨Nat.le_of_ble_eq_true rfl, Nat.le_of_ble_eq_true rfl⟩) (pr_S hP hK [0] rfl (fun U hU hW => by show U.heap.size = H2.size; rw [hU]) (fun U g mk a h => h)) rfl rfl hl.1 rfl (lv_room (Nat.le_of_ble_eq_true rfl)) dL_law_12 ⟨Nat.le_of_ble_eq_true rfl, Nat.le_of_ble_eq_true rfl⟩) hS (fun q _ h => h.elim (fun e => e ▸ hL1) (fun h2 => Nat.le_trans hS.1 h2)) (fun q h => h.elim (fun e => e ▸ hL1) (fun h2 => Nat.le_trans hS.1 h2)) (fun aM t2 H3 locs2 ht2 hvm2 hw2 hB2 hz2 hk2 hS2 => ?_)
  obtain ⟨e1, hiM, hnM⟩ := hw2
  rw [ht2] at hB2
  have hM : va_P D vwCl (wM cI aM 0 0 0 0 (fun _ _ => 0) (fun _ => 0)) H3 := hB2
  have hLM : ∀ i, i ≤ 8 → LA s (aM i) := fun i hi => by
    by_cases h : i = 0
    · subst h; rw [e1]; exact hL1
    · exact Nat.le_trans hS.1 (hnM i (by omega) hi)
  have hlt : ∀ i, i ≤ 23 → aG i < H2.size := fun i hi => g_lt hG ⟨i, hi, rfl⟩
  have hGM : ∀ i, i ≤ 23 → ∀ j, j ≤ 8 → ¬ aG i = aM j := fun i hi j hj e => by
    by_cases h : j = 0
    · subst h; exact hq1 i hi (e1.symm.trans e.symm)
    · exact absurd (hnM j (by omega) hj) (by rw [← e]; exact Nat.not_le.mpr (hlt i hi))
  have hG := G_apart hG hiG (fun q => q = q1 ∨ H2.size ≤ q) (fun i hi h => h.elim (fun e => hq1 i hi e.symm) (fun h2 => absurd h2 (Nat.not_le.mpr (hlt i hi)))) hk2
  rw [← e1]
  have hS := hS2
  have hP := hG.app hM
  have hD : va_D (LA s) (wG cI cZ cO aG 0 0 0 (fun _ _ => 0) ++ wM cI aM 0 0 0 0 (fun _ _ => 0) (fun _ => 0)) := va_D.app ((g_D hiG).weaken (fun _ _ _ ⟨i, hi, e⟩ => e ▸ hLG i hi)) ((m_D hiM).weaken (fun _ _ _ ⟨i, hi, e⟩ => e ▸ hLM i hi)) (fun i j p q hp hq hx => by
    obtain ⟨i2, h2, e2⟩ := (g_D hiG).2 _ _ hp
    obtain ⟨i3, h3, e3⟩ := (m_D hiM).2 _ _ hq
    exact hGM i2 h2 i3 h3 (e2.symm.trans (hx.trans e3)))
  refine lv_astore_n (lv' := [(2, .ref (aM 0)), (1, .ref (aG 0)), (0, .ref b)]) hx hb dL_law_15 rfl hl (by decide) rfl (fun ls hl => ?_)
  refine lv_iconst (v := nI 1) hx hb dL_law_16 (by decide) ?_
  refine nv_newa (atype := .long) (a0 := (1, .inr (.inl (fun _ => 0)))) hx hb (hts (Cond.arrayClass .long) (r1_in (by decide +kernel))) rfl hK 3 rfl (fun _ h => h) hP hD hS hA (fun _ => rfl) (by decide) (by decide) (Nat.le_of_ble_eq_true rfl) (Nat.le_of_ble_eq_true rfl) dL_law_17 (fun o H4 hP4 hD4 hS => ?_)
  have hGM4 := P_drop hP4
  have hG := P_drop hGM4
  have hM : va_P D vwCl (wM cI aM 0 0 0 0 (fun _ _ => 0) (fun _ => 0)) H4 := fun k q hq => hGM4 (24 + k) q (by rw [List.getElem?_append_right (by show 24 ≤ 24 + k; omega)]; show (wM cI aM 0 0 0 0 (fun _ _ => 0) (fun _ => 0))[24 + k - 24]? = some q; rw [Nat.add_sub_cancel_left]; exact hq)
  have hO : va_P D vwCl [(o, .inl (cL, 1, .inr (.inl (fun _ => 0))))] H4 := P_last hP4
  have hoG : ∀ i, i ≤ 23 → ¬ o = aG i := fun i hi => by
    obtain ⟨e, he⟩ := wG_get (cI := cI) (cZ := cZ) (cO := cO) (ad := aG) (n := 0) (np := 0) (nq := 0) (F := fun _ _ => 0) hi
    exact D_last hD4 (ap_l he)
  have hoM : ∀ j, j ≤ 8 → ¬ o = aM j := fun j hj => by
    obtain ⟨e, he⟩ := wM_get (cI := cI) (ad := aM) (th := 0) (n := 0) (np := 0) (nq := 0) (F := fun _ _ => 0) (T := fun _ => 0) hj
    exact D_last (k := 24 + j) hD4 (by rw [List.getElem?_append_right (by show 24 ≤ 24 + j; omega)]; show (wM cI aM 0 0 0 0 (fun _ _ => 0) (fun _ => 0))[24 + j - 24]? = _; rw [Nat.add_sub_cancel_left]; exact he)
  have hLo : LA s o := hD4.2 33 _ rfl
  refine lv_astore_n (lv' := [(3, .ref o), (2, .ref (aM 0)), (1, .ref (aG 0)), (0, .ref b)]) hx hb dL_law_19 rfl hl (by decide) rfl (fun ls hl => ?_)
  refine lv_iconst (v := nI 0) hx hb dL_law_20 (by decide) ?_
  refine lv_istore (lv' := [(4, .int (nI 0)), (3, .ref o), (2, .ref (aM 0)), (1, .ref (aG 0)), (0, .ref b)]) hx hb dL_law_21 hl (by decide) rfl (fun ls hl => ?_)
  refine W.widen (k := 34) (n := 10000) (by decide) (by decide) ?_
  exact lw_loop hst hL C0 ⟨hK0, hiG, hiM, hGM, hoG, hoM, hLG, hLM, hLo, hEL, hEM⟩ 513 0 34 10000 (by omega) (by omega) (by decide) (by decide) 0 0 0 (fun _ _ => 0) 0 (fun _ => 0) (fun _ => 0) _ _ _ s.drawn hd0 ⟨Inv_0, hG, hM, hO, hS⟩ (lv_sub hl [4, 3, 2, 1, 0] rfl)
-- ===== YOUR PART ENDS =====
set_option maxHeartbeats 4000000 in
theorem lw_walk (l : Launch) (hflags : l.flags = flags0) (b : Addr) (xs : List Int32) : MetFree l x (headSpec (Jvm.Cond.code x code maxLocals ret :: tables_1) room_1) (lw_P b xs) (fun _ _ _ _ _ => True) lw_Q := by
  refine MetFree.of_bodyS (code := code) (maxLocals := maxLocals) (ret := ret) (by decide) ?_ ?_
  · intro args s m h hn
    obtain ⟨meth, c, h1, h2, h3, h4, h5, h6, -, -⟩ := Cond.code_spec hn (atoms_spec (ws := Jvm.Cond.code x code maxLocals ret :: tables_1) h _ List.mem_cons_self)
    exact ⟨meth, c, h1, h2, h3, h4, h5, h6⟩
  · intro p e s m args below meth c s₁ B hml0 hP _
    obtain ⟨rfl, hx, hbd, hgv⟩ := hP
    obtain ⟨scr, harrAt, hlist, hof, hsmall⟩ := hx
    obtain ⟨hcb, hkn, -, -⟩ := State.arrayAt?_spec harrAt
    have hown : s.vm.findClass R_law = some m.cls := findClass_of_methodNamed B.named
    have hts0 : ∀ c ∈ (Jvm.Cond.code x code maxLocals ret :: tables_1), c.before #[Value.ref b] s = true := atoms_spec (ws := Jvm.Cond.code x code maxLocals ret :: tables_1) B.pre
    have hts : ∀ w ∈ lw_tbl, w.before #[Value.ref b] s = true := k2_hts_sels lw_privs (fun w hw => hts0 w (List.mem_cons_of_mem _ hw)) lw_privs_ok
    have hml : c.maxLocals = 9 := B.maxLocals_eq (hts0 _ List.mem_cons_self)
    have X₀ : Stand p l e room_1 s m #[Value.ref b] below meth c s₁ [] 0 0 := Stand.of_body B
    have hh0 : s₁.heap = s.heap := by rw [B.state]; rfl
    have hsz : scr.slots.size = xs.length := by rw [← Array.length_toList, hlist, List.length_map]
    have hval : ∀ j : Nat, j < xs.length → scr.slots[j]? = some (.int (xs.getD j 0)) := fun j hj => by
      rw [← Array.getElem?_toList, hlist]
      simp [hj]
    have hbl : b < s.heap.size := (Array.getElem?_eq_some_iff.mp hcb).1
    have hX : va_X b xs.length (fun j => xs.getD j 0) s s.heap := ⟨scr, hcb, hof, hkn, hsz, hval⟩
    have K : W p l e room_1 s m #[Value.ref b] below meth c s₁.heap [] 0 0 (lw_Z below #[Value.ref b] s) (entryFrame m ([Value.ref b] : List Value).toArray 9) := by
      rw [hh0]
      exact whole_start l hflags hbd ⟨B.exec, B.bytes, B.returns, hml, hown, hts, hX, hbl, B.notSynchronized, hgv⟩
    obtain ⟨t, a1, o, b1, b2, b3⟩ := K s₁ rfl X₀
    exact ⟨t, o, a1, b1, b2, b3⟩
theorem lw_pre_spec {args : Array Value} {s : State} (h : (Jvm.Cond.and given_1 narrow_1).before args s = true) (hr : rest_1_c.before args s = true) : ∃ (b : Addr) (xs : List Int32), lw_P b xs args s := by
  have hs := flat_of_before _ h
  have hq := flat_of_before _ hr
  have hc : (Cond.count 1).before args s = true := hs _ (by decide +kernel)
  have harr : (Cond.arrayOf (.arg 0) .int).before args s = true := hs _ (by decide +kernel)
  have hle : (Cond.le (.length (.arg 0)) (.int 3584)).before args s = true := hs _ (by decide +kernel)
  have hlen : (Cond.isInt (.length (.arg 0))).before args s = true := hq _ (by decide +kernel)
  have hall : (Cond.all (.arg 0) (.isInt (.elem (.arg 0) (.index 0)))).before args s = true := hq _ (by decide +kernel)
  obtain ⟨b, xs, hb, hx⟩ := State.ints_of_pre rfl harr hlen hall
  have hsm : xs.length < 2 ^ 31 := hx.choose_spec.2.2.2
  have hev : (Term.length (.arg 0)).eval args s none [] s = some (.int xs.length.toInt32) := hx.length_eval hb
  have hv := Cond.le_ints hev (show (Term.int 3584).eval args s none [] s = some (.int 3584) from rfl)
  have hd : xs.length.toInt32 ≤ 3584 := by
    simpa [Cond.before, Cond.holds, hv] using hle
  have hN : xs.length ≤ 3584 := (Int32.ofNat_le_ofNat hsm (by decide)).mp (show Int32.ofNat xs.length ≤ Int32.ofNat 3584 from hd)
  exact ⟨b, xs, Cond.one_arg hc (show args[0]? = some (.ref b) from hb), hx, hN, h⟩
theorem lw_comes (l : Launch) (hflags : l.flags = flags0) : Comes l x (Jvm.Cond.code x code maxLocals ret :: tables_1) room_1 (fun tb e args s => Calls_1 tb e args s ∧ rest_1 tb e args s ∧ Pre_1 tb e args s)
    (fun _ _ args s o t => lw_Q args s o t) := by
  intro p e ha hc hk s m args below hf hfit hheap happ hpre
  obtain ⟨b, xs, hP⟩ := lw_pre_spec hpre.2.2 hpre.2.1
  obtain ⟨k, o, h1, h2, h3, hQ⟩ := lw_walk l hflags b xs p e ha hc hk s m args below hf ((Spec.applies_iff_loose hf).mp happ).1 hP trivial
  exact ⟨k, o, h1, h2, h3, hQ⟩
theorem lw_frame {s t : State} {o : Outcome} {args : Array Value} (h : State.butDraws s t lw_cs (fun t1 => Framed s o t1 [] 653633 7135204)) :
    State.butDraws s t [Jvm.Choice.named "NaN.bits"] (fun t1 => Framed s o t1 (fieldLocs frame_1_writes args s ++ arrayLocs frame_1_arrays args s ++ staticLocs frame_1_statics s) 653633 7135204) := h
theorem lw_limb (L : Cond) (hL : ∀ (args : Array Value) (s t : State), L.after args s (.returned (some (.int 1))) t = true) :
    ArmFor flags0 classFile x code maxLocals ret World_1 tables_1 room_1 Calls_1 rest_1 Pre_1
      (fun tb e a s o t => postC L tb e a s o t ∧ State.butDraws s t [Jvm.Choice.named "NaN.bits"] (fun t1 => Framed s o t1 (fieldLocs frame_1_writes a s ++ arrayLocs frame_1_arrays a s ++ staticLocs frame_1_statics s) 653633 7135204)) := by
  intro l hflags _ _ p e ha hc hk s m args below hf hfit hheap happ hpre
  obtain ⟨k, o, h1, h2, h3, rfl, hF⟩ := lw_comes l hflags p e ha hc hk s m args below hf hfit hheap happ hpre
  exact ⟨k, _, h1, h2, h3, hL args s _, lw_frame hF⟩
theorem i_vc : Claimed_1_1 ∧ Claimed_1_2 := ⟨lw_limb limb_1_1 (fun args s t => by simp [limb_1_1, Cond.after, Cond.holds, Cond.value]), lw_limb limb_1_2 (fun args s t => Cond.after_iff.mpr (by
  first | (rw [show limb_1_2 = Cond.eq .result (.int 1) from rfl, Cond.eq_ints (x := 1) (y := 1) rfl rfl]; simp; done) | (simp [limb_1_2, Cond.value, Term.eval]; done)))⟩
