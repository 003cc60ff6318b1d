/-! the law's helpers: the class's call, its exceptions caught, its answer in a row of one long -/
theorem met_ofWH {l : Launch} {y : MethodName} {ws ws' : List Cond} {rm : Room} {Pc : Array Value → State → Prop} {Qc : Array Value → State → Outcome → State → Prop} {mc ms : Nat} {free : Addr → Prop} {cc : ByteArray} {maxL : Nat} {ret : Option FieldType} {hh : List (Nat × Nat × Nat × Nat)}
    (hy : plainName y.cls = true) (hw : ws = Cond.codeWith y cc maxL ret hh :: ws')
    (body : ∀ p e s m args below meth c s₁, BodyLoose p l y (headSpec ws rm) cc maxL ret e s m args below meth c s₁ → c.maxLocals = maxL → Pc args s →
      W p l e (headSpec ws rm).room s m args below meth c s.heap [] 0 0 (MQ below Qc args s mc ms free) (entryFrame m args maxL)) : Met l y ws rm Pc Qc mc ms free := by
  refine MetFree.of_bodyS (code := cc) (maxLocals := maxL) (ret := ret) hy ?_ ?_
  · intro args s m h hn
    obtain ⟨m9, meth, c, hn9, h1, h2, h3, h4, -, h5, h6, -⟩ := Cond.codeWith_spec (atoms_spec (ws := ws) h _ (by rw [hw]; exact List.mem_cons_self))
    cases hn.symm.trans hn9
    exact ⟨meth, c, h1, h2, h3, h4, h5, h6⟩
  · intro p e s m args below meth c s₁ B hml hP _
    have hh0 : s₁.heap = s.heap := by rw [B.state]; rfl
    obtain ⟨t, a1, o, b1, b2, b3⟩ := body p e s m args below meth c s₁ B hml hP s₁ hh0 (Stand.of_body B)
    exact ⟨t, o, a1, b1, b2, ⟨b3.1, b3.2⟩⟩
def NcW (U : State) : Prop := va_Nc nA nX U ∧ va_Nc nS nX U ∧ va_Nc nS nA U
theorem NcW.moved {u U : State} (hvm : u.vm.Alike U.vm) (h : NcW u) : NcW U := ⟨h.1.moved hvm, h.2.1.moved hvm, h.2.2.moved hvm⟩
def EnvL (A : Nat → Prop) (U : State) : Prop := EnvG A U ∧ NcW U
theorem EnvL.at {A A1 B : Nat → Prop} {s : State} {H : Heap} {locs : List Loc} (h : EnvL A s) (hS : va_S A1 s.heap H locs) (h1 : ∀ q, A1 q → A q) (h2 : ∀ q, B q → A q) : ∀ U : State, U.heap = H → s.WarmedH U.vm → EnvL B U := fun U hU hW => ⟨h.1.at hS h1 h2 U hU hW, h.2.moved hW.alike⟩
theorem EnvL_c {A : Nat → Prop} : ∀ (U : State) (g : JFrame) (mk : MethodId) (a : Array Value), EnvL A U → EnvL A (U.calling g mk a) := fun U g mk a h => ⟨EnvG_c U g mk a h.1, h.2.moved (U := U.calling g mk a) (Vm.Alike.refl U.vm)⟩
def inO (ad : Nat → Nat) (o : Nat) : Nat → Prop := fun q => inA ad 23 q ∨ q = o
section GL
variable {cI cZ cO : ClassId} {ad : Nat → Nat} {n np nq : Nat} {F : Nat → Nat → Int32} {o : Nat} {e e' : va_E}
theorem gl_at : (wG cI cZ cO ad n np nq F ++ [(o, e)])[24]? = some (o, e) := rfl
theorem gl_set : (wG cI cZ cO ad n np nq F ++ [(o, e)]).set 24 (o, e') = wG cI cZ cO ad n np nq F ++ [(o, e')] := rfl
theorem gl_D (hi : inj ad 23) (ho : ∀ i, i ≤ 23 → ¬ o = ad i) : va_D (inO ad o) (wG cI cZ cO ad n np nq F ++ [(o, e)]) :=
  va_D.app ((g_D hi).weaken (fun _ _ _ h => Or.inl h)) (a_D.weaken (fun _ _ _ h => Or.inr h)) (fun i j p q hp hq hx => by
    obtain ⟨k, hk, e1⟩ := (g_D hi).2 _ _ hp
    have e2 : q.1 = o := (a_D (a := o) (e := e)).2 _ _ hq
    exact ho k hk (e2.symm.trans (hx.symm.trans e1)))
theorem O_kept {D : va_G} {cl : List vw_C} {H H1 : Heap} (h : va_P D cl [(o, e)] H) (ho : ∀ i, i ≤ 23 → ¬ o = ad i) (hk : ∀ q : Nat, q < H.size → ¬ inA ad 23 q → H1[q]? = H[q]?) : va_P D cl [(o, e)] H1 := h.kept (fun k q hq => by
  have e2 : q.1 = o := (a_D (a := o) (e := e)).2 _ _ hq
  exact hk q.1 (h k q hq).lt (fun ⟨i, hi, e1⟩ => ho i hi (e2.symm.trans e1)))
end GL
theorem P_last {D : va_G} {cl : List vw_C} {ws : va_W} {x : Nat × va_E} {H : Heap} (h : va_P D cl (ws ++ [x]) H) : va_P D cl [x] H := fun k q hk => by
  match k, hk with
  | 0, hk => cases hk; exact h ws.length _ (by rw [List.getElem?_append_right (Nat.le_refl _), Nat.sub_self]; rfl)
  | k + 1, hk => simp at hk
def outG (g : Nat → Int64) (sp : Nat × Int32) : Nat → Int64 := if sp.1 = 0 then vp_updL g 0 sp.2.toInt64 else g
