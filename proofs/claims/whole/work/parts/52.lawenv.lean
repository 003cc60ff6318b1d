theorem tb_at {i : Nat} {w : Cond} (h : tables_1[i]? = some w) : w ∈ lw_tbl := List.mem_append_right _ (List.mem_of_getElem? h)
theorem sr_of {args : Array Value} {s : State} {k : Nat} {tx : String} (h1 : (Cond.stringRef RX0 k tx).before args s = true) (h2 : (Cond.exactly (.string RX0 k) "java/lang/String").before args s = true) : SR k tx s := by
  obtain ⟨a, c, cell, kk, e, -⟩ := Cond.exactly_spec (args := args) (first := s) (o := none) (s := s) (idx := []) h2
  exact ⟨a, vk_R.of h1 e⟩
theorem tb_of {C nm : String} {g : Nat → Nat} {args : Array Value} {s : State} {A : Nat → Prop} (hA : ∀ a : Nat, a < s.heap.size → ¬ A a) (hl : (Cond.laysStatic C nm "[I").before args s = true) (hini : (Cond.initialized C).before args s = true) (harr : (Cond.arrayOf (.static C nm "[I") .int).before args s = true) (hlen : (Cond.eq (.length (.static C nm "[I")) (.int 4)).before args s = true) (h0 : (Cond.eq (.elem (.static C nm "[I") (.int 0)) (.int (nI (g 0)))).before args s = true) (h1 : (Cond.eq (.elem (.static C nm "[I") (.int 1)) (.int (nI (g 1)))).before args s = true) (h2 : (Cond.eq (.elem (.static C nm "[I") (.int 2)) (.int (nI (g 2)))).before args s = true) (h3 : (Cond.eq (.elem (.static C nm "[I") (.int 3)) (.int (nI (g 3)))).before args s = true) : TB C nm g A s := by
  obtain ⟨t, ht, hT⟩ := va_Tof (f := fun j => .int (nI (g j))) (N := 4) (by decide) harr (va_eqt hlen) (fun j hj => by
    rcases (show j = 0 ∨ j = 1 ∨ j = 2 ∨ j = 3 by omega) with rfl | rfl | rfl | rfl
    · exact va_eqt h0
    · exact va_eqt h1
    · exact va_eqt h2
    · exact va_eqt h3) hA
  exact ⟨t, va_Zref hl hini ht hA, hT⟩
theorem AOA_moved {u U : State} (hvm : u.vm.Alike U.vm) (h : va_AOA .int u) : va_AOA .int U := arrayOver_alikeB hvm h
set_option maxRecDepth 100000 in
theorem tb_KIND_WIDE {p : Program} {s : State} {m : MethodId} {meth : Method} {c : Code} {b L : Nat} {xs : Nat → Int32} (C0 : lw_At p s m meth c b L xs) : TB RX0 "KIND_WIDE" kW (LA s) s := by
  obtain ⟨hx, hb, hr, hml, hown, hts0, hX, hbl, hlocks, hgv⟩ := C0
  have hs := flat_of_before _ hgv
  have hA : ∀ a : Nat, a < s.heap.size → ¬ LA s a := fun a h => Nat.not_le.mpr h
  exact tb_of hA (hts0 _ (tb_at (i := 290) (by decide +kernel))) (hts0 _ (tb_at (i := 1) (by decide +kernel))) (hs _ (by decide +kernel)) (hs _ (by decide +kernel)) (show (Cond.eq (.elem (.static "GloveCutters" "KIND_WIDE" "[I") (.int 0)) (.int 4)).before _ s = true from hs _ (by decide +kernel)) (show (Cond.eq (.elem (.static "GloveCutters" "KIND_WIDE" "[I") (.int 1)) (.int 2)).before _ s = true from hs _ (by decide +kernel)) (show (Cond.eq (.elem (.static "GloveCutters" "KIND_WIDE" "[I") (.int 2)) (.int 1)).before _ s = true from hs _ (by decide +kernel)) (show (Cond.eq (.elem (.static "GloveCutters" "KIND_WIDE" "[I") (.int 3)) (.int 1)).before _ s = true from hs _ (by decide +kernel))
set_option maxRecDepth 100000 in
theorem tb_KIND_HIGH {p : Program} {s : State} {m : MethodId} {meth : Method} {c : Code} {b L : Nat} {xs : Nat → Int32} (C0 : lw_At p s m meth c b L xs) : TB RX0 "KIND_HIGH" kH (LA s) s := by
  obtain ⟨hx, hb, hr, hml, hown, hts0, hX, hbl, hlocks, hgv⟩ := C0
  have hs := flat_of_before _ hgv
  have hA : ∀ a : Nat, a < s.heap.size → ¬ LA s a := fun a h => Nat.not_le.mpr h
  exact tb_of hA (hts0 _ (tb_at (i := 288) (by decide +kernel))) (hts0 _ (tb_at (i := 1) (by decide +kernel))) (hs _ (by decide +kernel)) (hs _ (by decide +kernel)) (show (Cond.eq (.elem (.static "GloveCutters" "KIND_HIGH" "[I") (.int 0)) (.int 3)).before _ s = true from hs _ (by decide +kernel)) (show (Cond.eq (.elem (.static "GloveCutters" "KIND_HIGH" "[I") (.int 1)) (.int 2)).before _ s = true from hs _ (by decide +kernel)) (show (Cond.eq (.elem (.static "GloveCutters" "KIND_HIGH" "[I") (.int 2)) (.int 3)).before _ s = true from hs _ (by decide +kernel)) (show (Cond.eq (.elem (.static "GloveCutters" "KIND_HIGH" "[I") (.int 3)) (.int 1)).before _ s = true from hs _ (by decide +kernel))
set_option maxRecDepth 100000 in
theorem tb_KIND_MOST_THIN {p : Program} {s : State} {m : MethodId} {meth : Method} {c : Code} {b L : Nat} {xs : Nat → Int32} (C0 : lw_At p s m meth c b L xs) : TB RX0 "KIND_MOST_THIN" kT (LA s) s := by
  obtain ⟨hx, hb, hr, hml, hown, hts0, hX, hbl, hlocks, hgv⟩ := C0
  have hs := flat_of_before _ hgv
  have hA : ∀ a : Nat, a < s.heap.size → ¬ LA s a := fun a h => Nat.not_le.mpr h
  exact tb_of hA (hts0 _ (tb_at (i := 295) (by decide +kernel))) (hts0 _ (tb_at (i := 1) (by decide +kernel))) (hs _ (by decide +kernel)) (hs _ (by decide +kernel)) (show (Cond.eq (.elem (.static "GloveCutters" "KIND_MOST_THIN" "[I") (.int 0)) (.int 0)).before _ s = true from hs _ (by decide +kernel)) (show (Cond.eq (.elem (.static "GloveCutters" "KIND_MOST_THIN" "[I") (.int 1)) (.int 1)).before _ s = true from hs _ (by decide +kernel)) (show (Cond.eq (.elem (.static "GloveCutters" "KIND_MOST_THIN" "[I") (.int 2)) (.int 1)).before _ s = true from hs _ (by decide +kernel)) (show (Cond.eq (.elem (.static "GloveCutters" "KIND_MOST_THIN" "[I") (.int 3)) (.int 1)).before _ s = true from hs _ (by decide +kernel))
set_option maxRecDepth 100000 in
theorem tb_KIND_IN_PAIR {p : Program} {s : State} {m : MethodId} {meth : Method} {c : Code} {b L : Nat} {xs : Nat → Int32} (C0 : lw_At p s m meth c b L xs) : TB RX0 "KIND_IN_PAIR" kP (LA s) s := by
  obtain ⟨hx, hb, hr, hml, hown, hts0, hX, hbl, hlocks, hgv⟩ := C0
  have hs := flat_of_before _ hgv
  have hA : ∀ a : Nat, a < s.heap.size → ¬ LA s a := fun a h => Nat.not_le.mpr h
  exact tb_of hA (hts0 _ (tb_at (i := 347) (by decide +kernel))) (hts0 _ (tb_at (i := 1) (by decide +kernel))) (hs _ (by decide +kernel)) (hs _ (by decide +kernel)) (show (Cond.eq (.elem (.static "GloveCutters" "KIND_IN_PAIR" "[I") (.int 0)) (.int 2)).before _ s = true from hs _ (by decide +kernel)) (show (Cond.eq (.elem (.static "GloveCutters" "KIND_IN_PAIR" "[I") (.int 1)) (.int 2)).before _ s = true from hs _ (by decide +kernel)) (show (Cond.eq (.elem (.static "GloveCutters" "KIND_IN_PAIR" "[I") (.int 2)) (.int 6)).before _ s = true from hs _ (by decide +kernel)) (show (Cond.eq (.elem (.static "GloveCutters" "KIND_IN_PAIR" "[I") (.int 3)) (.int 4)).before _ s = true from hs _ (by decide +kernel))
set_option maxRecDepth 100000 in
theorem tb_ACROSS {p : Program} {s : State} {m : MethodId} {meth : Method} {c : Code} {b L : Nat} {xs : Nat → Int32} (C0 : lw_At p s m meth c b L xs) : TB RX1 "ACROSS" kW (LA s) s := by
  obtain ⟨hx, hb, hr, hml, hown, hts0, hX, hbl, hlocks, hgv⟩ := C0
  have hs := flat_of_before _ hgv
  have hA : ∀ a : Nat, a < s.heap.size → ¬ LA s a := fun a h => Nat.not_le.mpr h
  exact tb_of hA (hts0 _ (tb_at (i := 547) (by decide +kernel))) (hts0 _ (tb_at (i := 2) (by decide +kernel))) (hs _ (by decide +kernel)) (hs _ (by decide +kernel)) (show (Cond.eq (.elem (.static "GloveCuttersModel" "ACROSS" "[I") (.int 0)) (.int 4)).before _ s = true from hs _ (by decide +kernel)) (show (Cond.eq (.elem (.static "GloveCuttersModel" "ACROSS" "[I") (.int 1)) (.int 2)).before _ s = true from hs _ (by decide +kernel)) (show (Cond.eq (.elem (.static "GloveCuttersModel" "ACROSS" "[I") (.int 2)) (.int 1)).before _ s = true from hs _ (by decide +kernel)) (show (Cond.eq (.elem (.static "GloveCuttersModel" "ACROSS" "[I") (.int 3)) (.int 1)).before _ s = true from hs _ (by decide +kernel))
set_option maxRecDepth 100000 in
theorem tb_DOWN {p : Program} {s : State} {m : MethodId} {meth : Method} {c : Code} {b L : Nat} {xs : Nat → Int32} (C0 : lw_At p s m meth c b L xs) : TB RX1 "DOWN" kH (LA s) s := by
  obtain ⟨hx, hb, hr, hml, hown, hts0, hX, hbl, hlocks, hgv⟩ := C0
  have hs := flat_of_before _ hgv
  have hA : ∀ a : Nat, a < s.heap.size → ¬ LA s a := fun a h => Nat.not_le.mpr h
  exact tb_of hA (hts0 _ (tb_at (i := 545) (by decide +kernel))) (hts0 _ (tb_at (i := 2) (by decide +kernel))) (hs _ (by decide +kernel)) (hs _ (by decide +kernel)) (show (Cond.eq (.elem (.static "GloveCuttersModel" "DOWN" "[I") (.int 0)) (.int 3)).before _ s = true from hs _ (by decide +kernel)) (show (Cond.eq (.elem (.static "GloveCuttersModel" "DOWN" "[I") (.int 1)) (.int 2)).before _ s = true from hs _ (by decide +kernel)) (show (Cond.eq (.elem (.static "GloveCuttersModel" "DOWN" "[I") (.int 2)) (.int 3)).before _ s = true from hs _ (by decide +kernel)) (show (Cond.eq (.elem (.static "GloveCuttersModel" "DOWN" "[I") (.int 3)) (.int 1)).before _ s = true from hs _ (by decide +kernel))
set_option maxRecDepth 100000 in
theorem tb_NEEDS {p : Program} {s : State} {m : MethodId} {meth : Method} {c : Code} {b L : Nat} {xs : Nat → Int32} (C0 : lw_At p s m meth c b L xs) : TB RX1 "NEEDS" kP (LA s) s := by
  obtain ⟨hx, hb, hr, hml, hown, hts0, hX, hbl, hlocks, hgv⟩ := C0
  have hs := flat_of_before _ hgv
  have hA : ∀ a : Nat, a < s.heap.size → ¬ LA s a := fun a h => Nat.not_le.mpr h
  exact tb_of hA (hts0 _ (tb_at (i := 591) (by decide +kernel))) (hts0 _ (tb_at (i := 2) (by decide +kernel))) (hs _ (by decide +kernel)) (hs _ (by decide +kernel)) (show (Cond.eq (.elem (.static "GloveCuttersModel" "NEEDS" "[I") (.int 0)) (.int 2)).before _ s = true from hs _ (by decide +kernel)) (show (Cond.eq (.elem (.static "GloveCuttersModel" "NEEDS" "[I") (.int 1)) (.int 2)).before _ s = true from hs _ (by decide +kernel)) (show (Cond.eq (.elem (.static "GloveCuttersModel" "NEEDS" "[I") (.int 2)) (.int 6)).before _ s = true from hs _ (by decide +kernel)) (show (Cond.eq (.elem (.static "GloveCuttersModel" "NEEDS" "[I") (.int 3)) (.int 4)).before _ s = true from hs _ (by decide +kernel))
set_option maxRecDepth 100000 in
theorem env_str {p : Program} {s : State} {m : MethodId} {meth : Method} {c : Code} {b L : Nat} {xs : Nat → Int32} (C0 : lw_At p s m meth c b L xs) : StrG s := by
  obtain ⟨hx, hb, hr, hml, hown, hts0, hX, hbl, hlocks, hgv⟩ := C0
  have hs := flat_of_before _ hgv
  have hA : ∀ a : Nat, a < s.heap.size → ¬ LA s a := fun a h => Nat.not_le.mpr h
  exact ⟨sr_of (hts0 _ (tb_at (i := 171) (by decide +kernel))) (hs _ (by decide +kernel)), sr_of (hts0 _ (tb_at (i := 207) (by decide +kernel))) (hs _ (by decide +kernel)), sr_of (hts0 _ (tb_at (i := 235) (by decide +kernel))) (hs _ (by decide +kernel)), sr_of (hts0 _ (tb_at (i := 245) (by decide +kernel))) (hs _ (by decide +kernel)), sr_of (hts0 _ (tb_at (i := 246) (by decide +kernel))) (hs _ (by decide +kernel)), sr_of (hts0 _ (tb_at (i := 247) (by decide +kernel))) (hs _ (by decide +kernel)), sr_of (hts0 _ (tb_at (i := 248) (by decide +kernel))) (hs _ (by decide +kernel)), sr_of (hts0 _ (tb_at (i := 269) (by decide +kernel))) (hs _ (by decide +kernel)), sr_of (hts0 _ (tb_at (i := 280) (by decide +kernel))) (hs _ (by decide +kernel)), sr_of (hts0 _ (tb_at (i := 296) (by decide +kernel))) (hs _ (by decide +kernel)), sr_of (hts0 _ (tb_at (i := 297) (by decide +kernel))) (hs _ (by decide +kernel)), sr_of (hts0 _ (tb_at (i := 315) (by decide +kernel))) (hs _ (by decide +kernel)), sr_of (hts0 _ (tb_at (i := 348) (by decide +kernel))) (hs _ (by decide +kernel)), sr_of (hts0 _ (tb_at (i := 349) (by decide +kernel))) (hs _ (by decide +kernel)), sr_of (hts0 _ (tb_at (i := 375) (by decide +kernel))) (hs _ (by decide +kernel)), sr_of (hts0 _ (tb_at (i := 376) (by decide +kernel))) (hs _ (by decide +kernel))⟩
set_option maxRecDepth 100000 in
theorem env_th {p : Program} {s : State} {m : MethodId} {meth : Method} {c : Code} {b L : Nat} {xs : Nat → Int32} (C0 : lw_At p s m meth c b L xs) : ThW s ∧ TE (LA s) s ∧ NcW s := by
  obtain ⟨hx, hb, hr, hml, hown, hts0, hX, hbl, hlocks, hgv⟩ := C0
  have hs := flat_of_before _ hgv
  have hA : ∀ a : Nat, a < s.heap.size → ¬ LA s a := fun a h => Nat.not_le.mpr h
  refine ⟨⟨va_any rfl (hts0 _ (tb_at (i := 134) (by decide +kernel))), va_any rfl (hts0 _ (tb_at (i := 136) (by decide +kernel))), va_any rfl (hts0 _ (tb_at (i := 138) (by decide +kernel))), va_any rfl (hts0 _ (tb_at (i := 228) (by decide +kernel))), va_any rfl (hts0 _ (tb_at (i := 132) (by decide +kernel))), va_any rfl (hts0 _ (tb_at (i := 200) (by decide +kernel)))⟩, ⟨?_, ?_⟩, ?_, ?_, ?_⟩
  · exact vx_Zqof (hts0 _ (tb_at (i := 157) (by decide +kernel))) (hts0 _ (tb_at (i := 3) (by decide +kernel))) (hs _ (by decide +kernel)) hA
  · exact vx_Zqof (hts0 _ (tb_at (i := 159) (by decide +kernel))) (hts0 _ (tb_at (i := 3) (by decide +kernel))) (hs _ (by decide +kernel)) hA
  · exact va_Nc.of (hs (.not (.castable nA nX)) (by decide +kernel))
  · exact va_Nc.of (hs (.not (.castable nS nX)) (by decide +kernel))
  · exact va_Nc.of (hs (.not (.castable nS nA)) (by decide +kernel))
set_option maxRecDepth 100000 in
theorem env_arr {p : Program} {s : State} {m : MethodId} {meth : Method} {c : Code} {b L : Nat} {xs : Nat → Int32} (C0 : lw_At p s m meth c b L xs) : va_AOA .int s ∧ ∃ cI cZ cO cL : ClassId, ∀ (k : Nat) (q : ClassId × FieldType), (gT cI cZ cO ++ [(cL, FieldType.long)])[k]? = some q → ArrOfT s q.1 q.2 ∧ va_RA s q.1 q.2 := by
  obtain ⟨hx, hb, hr, hml, hown, hts0, hX, hbl, hlocks, hgv⟩ := C0
  have hs := flat_of_before _ hgv
  have hA : ∀ a : Nat, a < s.heap.size → ¬ LA s a := fun a h => Nat.not_le.mpr h
  have hO : (Cond.arrayOver (.array .int)).before #[Value.ref b] s = true := (hts0 _ (tb_at (i := 21) (by decide +kernel)))
  obtain ⟨cI, kI, mI, i1, i2, i3⟩ := Cond.arrayClass_spec (show (Cond.arrayClass .int).before #[Value.ref b] s = true from (hts0 _ (tb_at (i := 71) (by decide +kernel))))
  obtain ⟨cZ, kZ, mZ, z1, z2, z3⟩ := Cond.arrayClass_spec (show (Cond.arrayClass .boolean).before #[Value.ref b] s = true from (hts0 _ (tb_at (i := 72) (by decide +kernel))))
  obtain ⟨cL, kL, mL, l1, l2, l3⟩ := Cond.arrayClass_spec (show (Cond.arrayClass .long).before #[Value.ref b] s = true from (hts0 _ (tb_at (i := 646) (by decide +kernel))))
  obtain ⟨mO, cO, kO, o1, o2, o3, o4, o5⟩ := arrayOver_specB hO
  refine ⟨va_AOA.of hO, cI, cZ, cO, cL, fun k q hq => ?_⟩
  match k, hq with
  | 0, hq => cases hq; exact ⟨fun N z => ⟨(fun k h => by cases h), kI, i2, mI, i3⟩, i1⟩
  | 1, hq => cases hq; exact ⟨fun N z => ⟨(fun k h => by cases h), kZ, z2, mZ, z3⟩, z1⟩
  | 2, hq => cases hq; exact ⟨fun N z => ⟨(fun k h => by cases h), kO, o3, mO, o4⟩, o5⟩
  | 3, hq => cases hq; exact ⟨fun N z => ⟨(fun k h => by cases h), kL, l2, mL, l3⟩, l1⟩
  | k + 4, hq => simp [gT] at hq
theorem env_L {p : Program} {s : State} {m : MethodId} {meth : Method} {c : Code} {b L : Nat} {xs : Nat → Int32} (C0 : lw_At p s m meth c b L xs) : EnvL (LA s) s ∧ EnvM (LA s) s := ⟨⟨⟨tb_KIND_WIDE C0, tb_KIND_HIGH C0, tb_KIND_MOST_THIN C0, tb_KIND_IN_PAIR C0, (env_th C0).2.1, ⟨env_str C0, (env_th C0).1⟩⟩, (env_th C0).2.2⟩, ⟨tb_ACROSS C0, tb_DOWN C0, tb_NEEDS C0⟩⟩
