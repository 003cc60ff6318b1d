/-! rows for single arrays, each a fact of its own: what is written, what stays -/
def LA (s : State) : Nat → Prop := fun q => s.heap.size ≤ q
def ar (cA : ClassId) (a n : Nat) (f : Nat → Int32) (H : Heap) : Prop := H[a]? = some (vp_cell cA (n, .inl f))
def ao (cA : ClassId) (a n : Nat) (H : Heap) : Prop := H[a]? = some (vp_cell cA (n, .inr (.inr (.inr (.inr (fun i => if i < n then some (a + 1 + i) else none))))))
theorem ar.lt {cA : ClassId} {a n : Nat} {f : Nat → Int32} {H : Heap} (h : ar cA a n f H) : a < H.size := (Array.getElem?_eq_some_iff.mp h).1
theorem ao.lt {cA : ClassId} {a n : Nat} {H : Heap} (h : ao cA a n H) : a < H.size := (Array.getElem?_eq_some_iff.mp h).1
theorem ar.kept {cA : ClassId} {a n : Nat} {f : Nat → Int32} {H H1 : Heap} (h : ar cA a n f H) (k : H1[a]? = H[a]?) : ar cA a n f H1 := k.trans h
theorem ao.kept {cA : ClassId} {a n : Nat} {H H1 : Heap} (h : ao cA a n H) (k : H1[a]? = H[a]?) : ao cA a n H1 := k.trans h
theorem ar.P {D : va_G} {cl : List vw_C} {cA : ClassId} {a n : Nat} {f : Nat → Int32} {H : Heap} (h : ar cA a n f H) : va_P D cl [(a, .inl (cA, n, .inl f))] H := fun k q hk => by
  match k, hk with
  | 0, hk => cases hk; exact h
  | k + 1, hk => simp at hk
theorem ao.P {D : va_G} {cl : List vw_C} {cA : ClassId} {a n : Nat} {H : Heap} (h : ao cA a n H) : va_P D cl [(a, .inl (cA, n, .inr (.inr (.inr (.inr (fun i => if i < n then some (a + 1 + i) else none))))))] H := fun k q hk => by
  match k, hk with
  | 0, hk => cases hk; exact h
  | k + 1, hk => simp at hk
theorem nin {ad : Nat → Nat} {z x : Nat} (h : ∀ i, i ≤ 23 → ad i < z) (hx : z ≤ x) : ¬ inA ad 23 x := fun ⟨i, hi, e⟩ => by
  have := h i hi
  omega
section WR
variable {p : Program} {l : Launch} {e : Env} {R : Room} {s : State} {m : MethodId} {args : Array Value} {below : List Frame} {meth : Method} {c : Code} {H : Heap} {locs : List Loc} {cells slots : Nat} {Q : State → Prop}
variable {cc : ByteArray} {pc : Nat} {ls : Array Slot} {rest : List Value} {D : va_G} {cl : List vw_C} {A : Nat → Prop} {a : Nat} {tys : List (ClassId × FieldType)} {ws : va_W} {H0 : Heap}
theorem w_iald (hx : p.tables.exec = Jvm.exec) (hb : c.code = cc) (hK : va_K D cl tys s) (t0 : Nat) {cA : ClassId} {n : Nat} {f : Nat → Int32} (ha : ar cA a n f H) (ht : tys[t0]? = some (cA, .int)) {i : Nat} (hi : i < n) (hn : n < 2 ^ 31) (hdg : decode cc pc = .ok (.iaload, 1)) (kk : W p l e R s m args below meth c H locs cells slots Q (F0 m (pc + 1) ls (.int (f i) :: rest))) : W p l e R s m args below meth c H locs cells slots Q (F0 m pc ls (.int (nI i) :: .ref a :: rest)) := nv_iald hx hb hK (ar.P ha) 0 t0 rfl ht hi hn hdg kk
theorem w_aald (hx : p.tables.exec = Jvm.exec) (hb : c.code = cc) (hK : va_K D cl tys s) (t0 : Nat) {cA : ClassId} {n : Nat} (ha : ao cA a n H) (ht : tys[t0]? = some (cA, .array .int)) {i : Nat} (hi : i < n) (hn : n < 2 ^ 31) (hdg : decode cc pc = .ok (.aaload, 1)) (kk : W p l e R s m args below meth c H locs cells slots Q (F0 m (pc + 1) ls (.ref (a + 1 + i) :: rest))) : W p l e R s m args below meth c H locs cells slots Q (F0 m pc ls (.int (nI i) :: .ref a :: rest)) := nv_aald hx hb hK (ao.P ha) 0 t0 rfl ht hi hn (if_pos hi) hdg kk
theorem w_iast (hx : p.tables.exec = Jvm.exec) (hb : c.code = cc) (hK : va_K D cl tys s) (t0 : Nat) {cA : ClassId} {n : Nat} {f : Nat → Int32} (ha : ar cA a n f H) (ht : tys[t0]? = some (cA, .int)) (hAa : A a) (hS : va_S A H0 H locs) {i : Nat} {x : Int32} (hi : i < n) (hn : n < 2 ^ 31) (hdg : decode cc pc = .ok (.iastore, 1))
    (kk : ∀ (H1 : Heap) (locs1 : List Loc), ar cA a n (upd f i x) H1 → H1.size = H.size → (∀ q : Nat, q ≠ a → H1[q]? = H[q]?) → va_S A H0 H1 locs1 → W p l e R s m args below meth c H1 locs1 cells slots Q (F0 m (pc + 1) ls rest)) : W p l e R s m args below meth c H locs cells slots Q (F0 m pc ls (.int x :: .int (nI i) :: .ref a :: rest)) := by
  refine W.iast hx hb (show H[a]? = some (vp_cell _ _) from ha) ((hK.2 t0 _ ht).1 n (fun j => .int (f j))) (fun q => by cases q) (by show ¬ ((nI i) < 0 ∨ (arrV _ _ _).slots.size ≤ _); rw [arrV_size]; exact vp_in_nI hi hn) rfl rfl hdg fun H1 e z oq => ?_
  refine kk H1 _ ?_ z oq (hS.put z oq hAa)
  show H1[a]? = some (vp_cell _ _)
  rw [e]
  rw [vp_cell_i, vp_cell_i, arrV_store]
  congr 2
  funext q
  rw [nI_clamp (Nat.lt_trans hi hn)]
  by_cases hq : q = i
  · subst hq
    simp [updV, upd]
  · simp [updV, upd, hq]
theorem w_newa (hx : p.tables.exec = Jvm.exec) (hb : c.code = cc) (harr : (Cond.arrayClass .int).before args s = true) (hK : va_K D cl tys s) (t0 : Nat) {cA : ClassId} (ht : tys[t0]? = some (cA, .int)) (hS : va_S A H0 H locs) {N : Nat} (hN : N < 2 ^ 31) (hbytes : N * 4 ≤ 536870912) (hcells : cells + 1 ≤ R.cells) (hslots : slots + N ≤ R.slots) (hdg : decode cc pc = .ok (.newarray .int, 2))
    (kk : ∀ (H1 : Heap), ar cA H.size N (fun _ => 0) H1 → H1.size = H.size + 1 → (∀ q : Nat, q < H.size → H1[q]? = H[q]?) → va_S A H0 H1 locs → W p l e R s m args below meth c H1 locs (cells + 1) (slots + N) Q (F0 m (pc + 2) ls (.ref H.size :: rest))) : W p l e R s m args below meth c H locs cells slots Q (F0 m pc ls (.int (nI N) :: rest)) := by
  refine va_newaK (atype := .int) hx hb harr (g := F0 m pc ls (.int (nI N) :: rest)) rfl hdg rfl (nI_pos hN) (nI_clamp hN) hbytes hcells hslots rfl fun H1 c2 e1 z1 o1 hAr hNm => ?_
  have h2 : s.vm.findClass _ = some cA := (hK.2 t0 _ ht).2
  have e : c2 = cA := Option.some.inj (hNm.symm.trans h2)
  subst e
  exact kk H1 e1 z1 o1 ⟨Nat.le_trans hS.1 (by omega), fun x h1 h2 => (o1 x (Nat.lt_of_lt_of_le h1 hS.1)).trans (hS.2.1 x h1 h2), hS.2.2⟩
theorem w_mna (hx : p.tables.exec = Jvm.exec) (hb : c.code = cc) {own : String} {index : Nat} (hown : s.vm.findClass own = some m.cls) (hclink : (Cond.classLink own index "[[I").before args s = true) (hover : va_AOA .int s) (harr : (Cond.arrayClass .int).before args s = true) (hK : va_K D cl tys s) (t0 t1 : Nat) {cI cO : ClassId} (ht0 : tys[t0]? = some (cI, .int)) (ht1 : tys[t1]? = some (cO, .array .int)) (hS : va_S A H0 H locs) {N K : Nat} (hN : N < 2 ^ 20) (hK2 : K < 2 ^ 20)
    (hcells : cells + (1 + N) ≤ R.cells) (hslots : slots + (N + N * K) ≤ R.slots) (hdg : decode cc pc = .ok (.multianewarray index 2, 4))
    (kk : ∀ (H1 : Heap), ao cO H.size N H1 → (∀ i, i < N → ar cI (H.size + 1 + i) K (fun _ => 0) H1) → H1.size = H.size + 1 + N → (∀ q : Nat, q < H.size → H1[q]? = H[q]?) → va_S A H0 H1 locs → W p l e R s m args below meth c H1 locs (cells + 1 + N) (slots + N + N * K) Q (F0 m (pc + 4) ls (.ref H.size :: rest))) : W p l e R s m args below meth c H locs cells slots Q (F0 m pc ls (.int (nI K) :: .int (nI N) :: rest)) := by
  intro T hT Xs
  have hcy : s.vm.findClass (FieldType.array .int).toString = some cI := (hK.2 t0 _ ht0).2
  have eN : (nI N).toNatClampNeg = N := nI_clamp (by omega)
  have eK : (nI K).toNatClampNeg = K := nI_clamp (by omega)
  obtain ⟨vm₁, cA, comp, -, fA, fC, hO, -, X', step⟩ := Xs.multianewarray2F (ty := .int) hx hown hclink (va_AOA.use hover) harr (g := F0 m pc ls (.int (nI K) :: .int (nI N) :: rest)) rfl (by rw [hb]; exact hdg) rfl (nI_pos (by omega)) (nI_pos (by omega)) (by rw [eN]; omega) (by rw [eK]; show K * 4 ≤ _; omega) (by rw [eK]; omega) (by decide) (by decide) (by rw [eN]; exact hcells) (by rw [eN, eK]; exact hslots)
  have ec : some cI = some comp := hcy.symm.trans fC
  cases ec
  have h2 : s.vm.findClass _ = some cO := (hK.2 t1 _ ht1).2
  have e : cA = cO := Option.some.inj (fA.symm.trans h2)
  subst e
  rw [eN, eK] at X' step
  generalize hF : Jvm.Free.Multi.fill (T.setVm vm₁) cA cI N K (defaultValue .int) N = F at X' step
  have hTh : (T.setVm vm₁).heap = H := hT
  obtain ⟨f1, f2, -, -⟩ := Jvm.Free.Multi.fill_facts (T.setVm vm₁) cA cI N K (defaultValue .int) N
  rw [hF, hTh] at f1 f2
  have hold : ∀ x : Nat, x < H.size → F.heap[x]? = H[x]? := fun x hx => by
    have := Jvm.Free.Multi.fill_old (T.setVm vm₁) cA cI N K (defaultValue .int) (a := x) (by rw [hTh]; exact hx) N
    rw [hF, hTh] at this
    exact this
  have hrow : ∀ j : Nat, j < N → F.heap[H.size + 1 + j]? = some (vp_cell cI (K, .inl (fun _ => 0))) := fun j hj => by
    have := Jvm.Free.Multi.fill_inner (T.setVm vm₁) cA cI N K (defaultValue .int) N j hj
    rw [hF, hTh] at this
    rw [this]
    show some ({ cls := cI, slots := Array.replicate K (.int 0), vm := .none } : Cell) = _
    rw [vp_cell_i, arrV_new]
  have hout : Jvm.Free.Multi.outerC cA N H.size N = vp_cell cA (N, .inr (.inr (.inr (.inr (fun i => if i < N then some (H.size + 1 + i) else none))))) := by
    rw [vp_cell_q]
    exact vr_outer cA N H.size N
  rw [hout] at f2
  obtain ⟨t, a1, b1⟩ := kk F.heap f2 (fun i hi => hrow i hi) (by rw [f1]) hold ⟨by rw [f1]; have := hS.1; omega, fun x h1 h2 => (hold x (Nat.lt_of_lt_of_le h1 hS.1)).trans (hS.2.1 x h1 h2), hS.2.2⟩ F rfl X'
  refine ⟨t, step t ?_, b1⟩
  have e : T.heap.size = H.size := by rw [hT]
  rw [e]
  exact a1
theorem lv_lcmpS (hexec : p.tables.exec = Jvm.exec) (hb : c.code = cc) {x : Int64} (hdg : decode cc pc = .ok (.lcmp, 1)) (k : W p l e R s m args below meth c H locs cells slots Q (F0 m (pc + 1) ls (.int 0 :: rest))) : W p l e R s m args below meth c H locs cells slots Q (F0 m pc ls (.long x :: .long x :: rest)) := by
  intro T hT X
  obtain ⟨t, a, b⟩ := k T hT X
  refine ⟨t, ?_, b⟩
  jvm_step X.here [X.here.top, hexec, hb, hdg]
  simpa using a
end WR
theorem G_put {D : va_G} {cl : List vw_C} {H H1 : Heap} {cI cZ cO : ClassId} {ad : Nat → Nat} {n np nq : Nat} {F : Nat → Nat → Int32} (h : va_P D cl (wG cI cZ cO ad n np nq F) H) (hi : inj ad 23) {a z : Nat} (hz : ∀ i, i ≤ 23 → ad i < z) (ha : z ≤ a) (hk : ∀ q : Nat, q ≠ a → H1[q]? = H[q]?) : va_P D cl (wG cI cZ cO ad n np nq F) H1 := h.kept (fun k q hq => by
  obtain ⟨j, hj, e⟩ := (g_D hi).2 _ _ hq
  have := hz j hj
  exact hk q.1 (by omega))
theorem P_new {D : va_G} {cl : List vw_C} {ws : va_W} {H H1 : Heap} (h : va_P D cl ws H) (hk : ∀ q : Nat, q < H.size → H1[q]? = H[q]?) : va_P D cl ws H1 := h.kept (fun k q hq => hk q.1 (h k q hq).lt)
theorem vx_plain {l : Launch} {y : MethodName} {ws : List Cond} {rm : Room} {Pc : Array Value → State → Prop} {Qc : Array Value → State → Outcome → State → Prop} {XC : String → State → State → Prop} {mc ms : Nat} {free : Addr → Prop} (h : vx_Met l y ws rm Pc Qc XC mc ms free) (no : ∀ E st t, ¬ XC E st t) : Met l y ws rm Pc Qc mc ms free := by
  intro p e ha hc hk s m args below hf happ hP hK
  obtain ⟨n, o, h1, h2, h3, h4⟩ := h p e ha hc hk s m args below hf happ hP hK
  refine ⟨n, o, h1, h2, h3, ?_⟩
  rcases h4 with h | ⟨q, ho, E, ce, L, hx, -⟩
  · exact h
  · exact absurd hx (no _ _ _)
theorem met_weak {l : Launch} {y : MethodName} {ws : List Cond} {rm : Room} {Pc' : Array Value → State → Prop} {Qc' : Array Value → State → Outcome → State → Prop} {mc ms : Nat} {free : Addr → Prop} (h : ∀ a st, Pc' a st → ∃ P0 Q0, P0 a st ∧ Met l y ws rm P0 Q0 mc ms free ∧ ∀ o t, Q0 a st o t → Qc' a st o t) : Met l y ws rm Pc' Qc' mc ms free := by
  intro p e ha hc hk s m args below hf happ hP hK
  obtain ⟨P0, Q0, hp, hm, hq⟩ := h _ _ hP
  obtain ⟨n, o, h1, h2, h3, h4, h5⟩ := hm p e ha hc hk s m args below hf happ hp hK
  exact ⟨n, o, h1, h2, h3, hq _ _ h4, h5⟩
