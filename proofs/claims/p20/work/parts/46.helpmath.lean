/-! the law's helpers: the class's call, its exceptions caught -/
theorem met_ofWH {l : Launch} {y : MethodName} {ws ws' : List Cond} {rm : Room} {Pc : Array Value → State → Prop} {Qc : Array Value → State → Outcome → State → Prop} {mc ms : Nat} {free : Addr → Prop} {cc : ByteArray} {maxL : Nat} {ret : Option FieldType} {hh : List (Nat × Nat × Nat × Nat)}
    (hy : plainName y.cls = true) (hw : ws = Cond.codeWith y cc maxL ret hh :: ws')
    (body : ∀ p e s m args below meth c s₁, BodyLoose p l y (headSpec ws rm) cc maxL ret e s m args below meth c s₁ → c.maxLocals = maxL → Pc args s →
      W p l e (headSpec ws rm).room s m args below meth c s.heap [] 0 0 (MQ below Qc args s mc ms free) (entryFrame m args maxL)) : Met l y ws rm Pc Qc mc ms free := by
  refine MetFree.of_bodyS (code := cc) (maxLocals := maxL) (ret := ret) hy ?_ ?_
  · intro args s m h hn
    obtain ⟨m9, meth, c, hn9, h1, h2, h3, h4, -, h5, h6, -⟩ := Cond.codeWith_spec (atoms_spec (ws := ws) h _ (by rw [hw]; exact List.mem_cons_self))
    cases hn.symm.trans hn9
    exact ⟨meth, c, h1, h2, h3, h4, h5, h6⟩
  · intro p e s m args below meth c s₁ B hml hP _
    have hh0 : s₁.heap = s.heap := by rw [B.state]; rfl
    obtain ⟨t, a1, o, b1, b2, b3⟩ := body p e s m args below meth c s₁ B hml hP s₁ hh0 (Stand.of_body B)
    exact ⟨t, o, a1, b1, b2, ⟨b3.1, b3.2⟩⟩
def EnvL (A : Nat → Prop) (U : State) : Prop := EnvG A U ∧ va_Nc nX nS U
theorem EnvL.at {A A1 B : Nat → Prop} {s : State} {H : Heap} {locs : List Loc} (h : EnvL A s) (hS : va_S A1 s.heap H locs) (h1 : ∀ q, A1 q → A q) (h2 : ∀ q, B q → A q) : ∀ U : State, U.heap = H → s.WarmedH U.vm → EnvL B U := fun U hU hW => ⟨h.1.at hS h1 h2 U hU hW, h.2.moved hW.alike⟩
theorem EnvL_c {A : Nat → Prop} : ∀ (U : State) (g : JFrame) (mk : MethodId) (a : Array Value), EnvL A U → EnvL A (U.calling g mk a) := fun U g mk a h => ⟨EnvG_c U g mk a h.1, h.2.moved (U := U.calling g mk a) (Vm.Alike.refl U.vm)⟩
def VX (b L : Nat) (xs : Nat → Int32) (U : State) : Prop := va_X b L xs U U.heap ∧ b < U.heap.size
theorem VX.at {b L : Nat} {xs : Nat → Int32} {A : Nat → Prop} {s : State} {H : Heap} {locs : List Loc} (h : va_X b L xs s s.heap) (hbl : b < s.heap.size) (hS : va_S A s.heap H locs) (hbA : ¬ A b) : ∀ U : State, U.heap = H → s.WarmedH U.vm → VX b L xs U := fun U hU hW => ⟨by rw [hU]; exact (va_X.kept h (hS.2.1 b hbl hbA)).moved hW.alike, by rw [hU]; exact Nat.lt_of_lt_of_le hbl hS.1⟩
theorem VX_c {b L : Nat} {xs : Nat → Int32} : ∀ (U : State) (g : JFrame) (mk : MethodId) (a : Array Value), VX b L xs U → VX b L xs (U.calling g mk a) := fun U g mk a h => ⟨va_X.moved (U := U.calling g mk a) (Vm.Alike.refl U.vm) h.1, h.2⟩
def okCut (F : Nat → Nat → Int32) (np s k : Nat) (tb : Bool) (a : Nat) : Bool := fitA (F (14 + s)) k tb a && decide (np < 150)
def okSew (F : Nat → Nat → Int32) (n np nq c : Nat) : Bool := canS F n np (nI c) && decide (nq < 20)
def okRip (F : Nat → Nat → Int32) (nq q : Nat) : Bool := decide (q < nq) && F 12 q == 0
theorem canS_T (F : Nat → Nat → Int32) (u : Nat → Int32) (n np : Nat) (c : Int32) : canS (va_up F 13 u) n np c = canS F n np c := by
  unfold canS
  rw [lkN_T, lkN_T, lkN_T, lkN_T]
