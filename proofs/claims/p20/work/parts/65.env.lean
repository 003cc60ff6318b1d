/-! THE CLAIM OUT OF ONE WALK OF THE LAW'S BODY. Your part is whole_start (and what it stands on); all else here is the same for every law, but numbers. -/
def R_law : String := "GloveCuttersLaw"
def lw_P (b : Addr) (xs : List Int32) (args : Array Value) (s : State) : Prop := args = #[.ref b] ∧ s.IntsAt b xs ∧ xs.length ≤ 260 ∧ (Jvm.Cond.and given_1 narrow_1).before args s = true
/-- what a walk over the start with the record d0 says of its end, said of the start itself -/
theorem lw_closed {s t : State} {o : Outcome} {d0 : Drawn} {L : List Loc} {k n : Nat} (hd0 : s.drawn.sameBut d0 lw_cs) (hv : ∃ v, o = .returned v) (hW : (s.setDrawn d0).WarmedH t.vm) (hs : (s.setDrawn d0).sameButNew ({ t with vm := s.vm } : State) L k n) : State.butDraws s t lw_cs (fun t1 => Framed s o t1 L k n) := by
  have h2 : t.drawn = d0 := congrArg State.drawn hs.1
  refine ⟨⟨hv, hW, State.sameButNew.setDrawn hs s.drawn⟩, ?_, by decide⟩
  rw [h2]
  exact hd0
def lw_Q (_ : Array Value) (s : State) (o : Outcome) (t : State) : Prop := o = .returned (some (.int 1)) ∧ State.butDraws s t lw_cs (fun t1 => Framed s o t1 [] 600074 7301550)
def lw_Z (below : List Frame) (a : Array Value) (s : State) : State → Prop := fun t => ∃ o, t.status = .running ∧ Ended t below o ∧ lw_Q a s o t
/-- the law's own end, with 1 on the stack, nothing written that was there before, its room as the claim has it; d0: the record of draws at this point (at the entry s.drawn: begin with 'refine W.base ?_' and 'have hd0 := Drawn.sameBut.refl s.drawn lw_cs') -/
theorem lw_ret {p : Program} {l : Launch} {e : Env} {s : State} {m : MethodId} {below : List Frame} {meth : Method} {c : Code} {b : Nat} {d0 : Drawn} (hd0 : s.drawn.sameBut d0 lw_cs) (hx : p.tables.exec = Jvm.exec) (hb : c.code = code) (hr : meth.sig.returnType = ret) (hlocks : meth.locks = false) {pc : Nat} {H : Heap} {ls : Array Slot} (hdg : decode code pc = .ok (.ireturn, 1)) : W p l e room_1 (s.setDrawn d0) m #[Value.ref b] below meth c H [] 600074 7301550 (lw_Z below #[Value.ref b] s) (F0 m pc ls [.int 1]) := by
  intro T hT X
  obtain ⟨fs, hret, hrun, hended, hW, hframe⟩ := X.leave (v := some (.int 1)) (hlocks := hlocks) (fun h => by rw [hr] at h; cases h)
  have hmeth' : T.vm.method? m = some meth := X.method'
  refine ⟨T.setFrames fs, ?_, .returned (some (.int 1)), hrun, hended, rfl, lw_closed hd0 ⟨_, rfl⟩ hW hframe⟩
  jvm_step X.here [X.here.top, hx, hb, hdg, hmeth', hr, ret, narrow_b1]
  (try refine ⟨rfl, ?_⟩); (try refine ⟨rfl, ?_⟩)
  first | (intro acts; rw [hret _ acts rfl rfl rfl]) | rw [hret _ _ rfl rfl rfl]
  exact Steps.refl _
/-- what holds at the law's entry: the machine, the code, the tables' words (any of lw_tbl by 'hts w (by decide +kernel)'), the script of L ints xs at the cell b, what the Statement gives of the start (any of its parts by flat_of_before) -/
def lw_At (p : Program) (s : State) (m : MethodId) (meth : Method) (c : Code) (b L : Nat) (xs : Nat → Int32) : Prop :=
  p.tables.exec = Jvm.exec ∧ c.code = code ∧ meth.sig.returnType = ret ∧ c.maxLocals = 29 ∧ s.vm.findClass R_law = some m.cls ∧ (∀ w ∈ lw_tbl, w.before #[Value.ref b] s = true) ∧ va_X b L xs s s.heap ∧ b < s.heap.size ∧ meth.locks = false ∧ (Jvm.Cond.and given_1 narrow_1).before #[Value.ref b] s = true
theorem tb_at {i : Nat} {w : Cond} (h : tables_1[i]? = some w) : w ∈ lw_tbl := List.mem_append_right _ (List.mem_of_getElem? h)
theorem sr_of {args : Array Value} {s : State} {k : Nat} {tx : String} (h1 : (Cond.stringRef RX0 k tx).before args s = true) (h2 : (Cond.exactly (.string RX0 k) "java/lang/String").before args s = true) : SR k tx s := by
  obtain ⟨a, c, cell, kk, e, -⟩ := Cond.exactly_spec (args := args) (first := s) (o := none) (s := s) (idx := []) h2
  exact ⟨a, vk_R.of h1 e⟩
theorem tb_of {C nm : String} {g : Nat → Nat} {args : Array Value} {s : State} {A : Nat → Prop} (hA : ∀ a : Nat, a < s.heap.size → ¬ A a) (hl : (Cond.laysStatic C nm "[I").before args s = true) (hini : (Cond.initialized C).before args s = true) (harr : (Cond.arrayOf (.static C nm "[I") .int).before args s = true) (hlen : (Cond.eq (.length (.static C nm "[I")) (.int 4)).before args s = true) (h0 : (Cond.eq (.elem (.static C nm "[I") (.int 0)) (.int (nI (g 0)))).before args s = true) (h1 : (Cond.eq (.elem (.static C nm "[I") (.int 1)) (.int (nI (g 1)))).before args s = true) (h2 : (Cond.eq (.elem (.static C nm "[I") (.int 2)) (.int (nI (g 2)))).before args s = true) (h3 : (Cond.eq (.elem (.static C nm "[I") (.int 3)) (.int (nI (g 3)))).before args s = true) : TB C nm g A s := by
  obtain ⟨t, ht, hT⟩ := va_Tof (f := fun j => .int (nI (g j))) (N := 4) (by decide) harr (va_eqt hlen) (fun j hj => by
    rcases (show j = 0 ∨ j = 1 ∨ j = 2 ∨ j = 3 by omega) with rfl | rfl | rfl | rfl
    · exact va_eqt h0
    · exact va_eqt h1
    · exact va_eqt h2
    · exact va_eqt h3) hA
  exact ⟨t, va_Zref hl hini ht hA, hT⟩
set_option maxRecDepth 100000 in
theorem tb_KIND_WIDE {p : Program} {s : State} {m : MethodId} {meth : Method} {c : Code} {b L : Nat} {xs : Nat → Int32} (C0 : lw_At p s m meth c b L xs) : TB RX0 "KIND_WIDE" kW (LA s) s := by
  obtain ⟨hx, hb, hr, hml, hown, hts0, hX, hbl, hlocks, hgv⟩ := C0
  have hs := flat_of_before _ hgv
  have hA : ∀ a : Nat, a < s.heap.size → ¬ LA s a := fun a h => Nat.not_le.mpr h
  exact tb_of hA (hts0 _ (tb_at (i := 148) (by decide +kernel))) (hts0 _ (tb_at (i := 1) (by decide +kernel))) (hs _ (by decide +kernel)) (hs _ (by decide +kernel)) (show (Cond.eq (.elem (.static "GloveCutters" "KIND_WIDE" "[I") (.int 0)) (.int 4)).before _ s = true from hs _ (by decide +kernel)) (show (Cond.eq (.elem (.static "GloveCutters" "KIND_WIDE" "[I") (.int 1)) (.int 2)).before _ s = true from hs _ (by decide +kernel)) (show (Cond.eq (.elem (.static "GloveCutters" "KIND_WIDE" "[I") (.int 2)) (.int 1)).before _ s = true from hs _ (by decide +kernel)) (show (Cond.eq (.elem (.static "GloveCutters" "KIND_WIDE" "[I") (.int 3)) (.int 1)).before _ s = true from hs _ (by decide +kernel))
set_option maxRecDepth 100000 in
theorem tb_KIND_HIGH {p : Program} {s : State} {m : MethodId} {meth : Method} {c : Code} {b L : Nat} {xs : Nat → Int32} (C0 : lw_At p s m meth c b L xs) : TB RX0 "KIND_HIGH" kH (LA s) s := by
  obtain ⟨hx, hb, hr, hml, hown, hts0, hX, hbl, hlocks, hgv⟩ := C0
  have hs := flat_of_before _ hgv
  have hA : ∀ a : Nat, a < s.heap.size → ¬ LA s a := fun a h => Nat.not_le.mpr h
  exact tb_of hA (hts0 _ (tb_at (i := 146) (by decide +kernel))) (hts0 _ (tb_at (i := 1) (by decide +kernel))) (hs _ (by decide +kernel)) (hs _ (by decide +kernel)) (show (Cond.eq (.elem (.static "GloveCutters" "KIND_HIGH" "[I") (.int 0)) (.int 3)).before _ s = true from hs _ (by decide +kernel)) (show (Cond.eq (.elem (.static "GloveCutters" "KIND_HIGH" "[I") (.int 1)) (.int 2)).before _ s = true from hs _ (by decide +kernel)) (show (Cond.eq (.elem (.static "GloveCutters" "KIND_HIGH" "[I") (.int 2)) (.int 3)).before _ s = true from hs _ (by decide +kernel)) (show (Cond.eq (.elem (.static "GloveCutters" "KIND_HIGH" "[I") (.int 3)) (.int 1)).before _ s = true from hs _ (by decide +kernel))
set_option maxRecDepth 100000 in
theorem tb_KIND_MOST_THIN {p : Program} {s : State} {m : MethodId} {meth : Method} {c : Code} {b L : Nat} {xs : Nat → Int32} (C0 : lw_At p s m meth c b L xs) : TB RX0 "KIND_MOST_THIN" kT (LA s) s := by
  obtain ⟨hx, hb, hr, hml, hown, hts0, hX, hbl, hlocks, hgv⟩ := C0
  have hs := flat_of_before _ hgv
  have hA : ∀ a : Nat, a < s.heap.size → ¬ LA s a := fun a h => Nat.not_le.mpr h
  exact tb_of hA (hts0 _ (tb_at (i := 153) (by decide +kernel))) (hts0 _ (tb_at (i := 1) (by decide +kernel))) (hs _ (by decide +kernel)) (hs _ (by decide +kernel)) (show (Cond.eq (.elem (.static "GloveCutters" "KIND_MOST_THIN" "[I") (.int 0)) (.int 0)).before _ s = true from hs _ (by decide +kernel)) (show (Cond.eq (.elem (.static "GloveCutters" "KIND_MOST_THIN" "[I") (.int 1)) (.int 1)).before _ s = true from hs _ (by decide +kernel)) (show (Cond.eq (.elem (.static "GloveCutters" "KIND_MOST_THIN" "[I") (.int 2)) (.int 1)).before _ s = true from hs _ (by decide +kernel)) (show (Cond.eq (.elem (.static "GloveCutters" "KIND_MOST_THIN" "[I") (.int 3)) (.int 1)).before _ s = true from hs _ (by decide +kernel))
set_option maxRecDepth 100000 in
theorem tb_KIND_IN_PAIR {p : Program} {s : State} {m : MethodId} {meth : Method} {c : Code} {b L : Nat} {xs : Nat → Int32} (C0 : lw_At p s m meth c b L xs) : TB RX0 "KIND_IN_PAIR" kP (LA s) s := by
  obtain ⟨hx, hb, hr, hml, hown, hts0, hX, hbl, hlocks, hgv⟩ := C0
  have hs := flat_of_before _ hgv
  have hA : ∀ a : Nat, a < s.heap.size → ¬ LA s a := fun a h => Nat.not_le.mpr h
  exact tb_of hA (hts0 _ (tb_at (i := 242) (by decide +kernel))) (hts0 _ (tb_at (i := 1) (by decide +kernel))) (hs _ (by decide +kernel)) (hs _ (by decide +kernel)) (show (Cond.eq (.elem (.static "GloveCutters" "KIND_IN_PAIR" "[I") (.int 0)) (.int 2)).before _ s = true from hs _ (by decide +kernel)) (show (Cond.eq (.elem (.static "GloveCutters" "KIND_IN_PAIR" "[I") (.int 1)) (.int 2)).before _ s = true from hs _ (by decide +kernel)) (show (Cond.eq (.elem (.static "GloveCutters" "KIND_IN_PAIR" "[I") (.int 2)) (.int 6)).before _ s = true from hs _ (by decide +kernel)) (show (Cond.eq (.elem (.static "GloveCutters" "KIND_IN_PAIR" "[I") (.int 3)) (.int 4)).before _ s = true from hs _ (by decide +kernel))
set_option maxRecDepth 100000 in
theorem env_str {p : Program} {s : State} {m : MethodId} {meth : Method} {c : Code} {b L : Nat} {xs : Nat → Int32} (C0 : lw_At p s m meth c b L xs) : StrG s := by
  obtain ⟨hx, hb, hr, hml, hown, hts0, hX, hbl, hlocks, hgv⟩ := C0
  have hs := flat_of_before _ hgv
  have hA : ∀ a : Nat, a < s.heap.size → ¬ LA s a := fun a h => Nat.not_le.mpr h
  exact ⟨sr_of (hts0 _ (tb_at (i := 217) (by decide +kernel))) (hs _ (by decide +kernel)), sr_of (hts0 _ (tb_at (i := 353) (by decide +kernel))) (hs _ (by decide +kernel)), sr_of (hts0 _ (tb_at (i := 63) (by decide +kernel))) (hs _ (by decide +kernel)), sr_of (hts0 _ (tb_at (i := 93) (by decide +kernel))) (hs _ (by decide +kernel)), sr_of (hts0 _ (tb_at (i := 365) (by decide +kernel))) (hs _ (by decide +kernel)), sr_of (hts0 _ (tb_at (i := 366) (by decide +kernel))) (hs _ (by decide +kernel)), sr_of (hts0 _ (tb_at (i := 367) (by decide +kernel))) (hs _ (by decide +kernel)), sr_of (hts0 _ (tb_at (i := 101) (by decide +kernel))) (hs _ (by decide +kernel)), sr_of (hts0 _ (tb_at (i := 129) (by decide +kernel))) (hs _ (by decide +kernel)), sr_of (hts0 _ (tb_at (i := 376) (by decide +kernel))) (hs _ (by decide +kernel)), sr_of (hts0 _ (tb_at (i := 377) (by decide +kernel))) (hs _ (by decide +kernel)), sr_of (hts0 _ (tb_at (i := 158) (by decide +kernel))) (hs _ (by decide +kernel)), sr_of (hts0 _ (tb_at (i := 385) (by decide +kernel))) (hs _ (by decide +kernel)), sr_of (hts0 _ (tb_at (i := 386) (by decide +kernel))) (hs _ (by decide +kernel)), sr_of (hts0 _ (tb_at (i := 171) (by decide +kernel))) (hs _ (by decide +kernel)), sr_of (hts0 _ (tb_at (i := 410) (by decide +kernel))) (hs _ (by decide +kernel))⟩
set_option maxRecDepth 100000 in
theorem env_th {p : Program} {s : State} {m : MethodId} {meth : Method} {c : Code} {b L : Nat} {xs : Nat → Int32} (C0 : lw_At p s m meth c b L xs) : ThW s ∧ TE (LA s) s ∧ va_Nc nX nS s := by
  obtain ⟨hx, hb, hr, hml, hown, hts0, hX, hbl, hlocks, hgv⟩ := C0
  have hs := flat_of_before _ hgv
  have hA : ∀ a : Nat, a < s.heap.size → ¬ LA s a := fun a h => Nat.not_le.mpr h
  refine ⟨⟨va_any rfl (hts0 _ (tb_at (i := 24) (by decide +kernel))), va_any rfl (hts0 _ (tb_at (i := 26) (by decide +kernel))), va_any rfl (hts0 _ (tb_at (i := 28) (by decide +kernel))), va_any rfl (hts0 _ (tb_at (i := 22) (by decide +kernel))), va_any rfl (hts0 _ (tb_at (i := 122) (by decide +kernel))), va_any rfl (hts0 _ (tb_at (i := 346) (by decide +kernel)))⟩, ⟨?_, ?_⟩, ?_⟩
  · exact vx_Zqof (hts0 _ (tb_at (i := 49) (by decide +kernel))) (hts0 _ (tb_at (i := 2) (by decide +kernel))) (hs _ (by decide +kernel)) hA
  · exact vx_Zqof (hts0 _ (tb_at (i := 51) (by decide +kernel))) (hts0 _ (tb_at (i := 2) (by decide +kernel))) (hs _ (by decide +kernel)) hA
  · exact va_Nc.of (hs (.not (.castable nX nS)) (by decide +kernel))
set_option maxRecDepth 100000 in
theorem env_arr {p : Program} {s : State} {m : MethodId} {meth : Method} {c : Code} {b L : Nat} {xs : Nat → Int32} (C0 : lw_At p s m meth c b L xs) : va_AOA .int s ∧ ∃ cI cZ cO : ClassId, ∀ (k : Nat) (q : ClassId × FieldType), (gT cI cZ cO)[k]? = some q → ArrOfT s q.1 q.2 ∧ va_RA s q.1 q.2 := by
  obtain ⟨hx, hb, hr, hml, hown, hts0, hX, hbl, hlocks, hgv⟩ := C0
  have hs := flat_of_before _ hgv
  have hA : ∀ a : Nat, a < s.heap.size → ¬ LA s a := fun a h => Nat.not_le.mpr h
  have hO : (Cond.arrayOver (.array .int)).before #[Value.ref b] s = true := (hts0 _ (tb_at (i := 288) (by decide +kernel)))
  obtain ⟨cI, kI, mI, i1, i2, i3⟩ := Cond.arrayClass_spec (show (Cond.arrayClass .int).before #[Value.ref b] s = true from (hts0 _ (tb_at (i := 338) (by decide +kernel))))
  obtain ⟨cZ, kZ, mZ, z1, z2, z3⟩ := Cond.arrayClass_spec (show (Cond.arrayClass .boolean).before #[Value.ref b] s = true from (hts0 _ (tb_at (i := 339) (by decide +kernel))))
  obtain ⟨mO, cO, kO, o1, o2, o3, o4, o5⟩ := arrayOver_specB hO
  refine ⟨va_AOA.of hO, cI, cZ, cO, fun k q hq => ?_⟩
  match k, hq with
  | 0, hq => cases hq; exact ⟨fun N z => ⟨(fun k h => by cases h), kI, i2, mI, i3⟩, i1⟩
  | 1, hq => cases hq; exact ⟨fun N z => ⟨(fun k h => by cases h), kZ, z2, mZ, z3⟩, z1⟩
  | 2, hq => cases hq; exact ⟨fun N z => ⟨(fun k h => by cases h), kO, o3, mO, o4⟩, o5⟩
  | k + 3, hq => simp [gT] at hq
theorem env_L {p : Program} {s : State} {m : MethodId} {meth : Method} {c : Code} {b L : Nat} {xs : Nat → Int32} (C0 : lw_At p s m meth c b L xs) : EnvL (LA s) s := ⟨⟨tb_KIND_WIDE C0, tb_KIND_HIGH C0, tb_KIND_MOST_THIN C0, tb_KIND_IN_PAIR C0, (env_th C0).2.1, ⟨env_str C0, (env_th C0).1⟩⟩, (env_th C0).2.2⟩
