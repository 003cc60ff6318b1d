/-! the tables of both classes, what a throw needs, and small rows more -/
def kW (k : Nat) : Nat := if k = 0 then 4 else if k = 1 then 2 else 1
def kH (k : Nat) : Nat := if k = 0 then 3 else if k = 1 then 2 else if k = 2 then 3 else 1
def kT (k : Nat) : Nat := if k = 0 then 0 else 1
def kP (k : Nat) : Nat := if k = 0 then 2 else if k = 1 then 2 else if k = 2 then 6 else 4
theorem kW_le (k : Nat) : kW k ≤ 4 ∧ 1 ≤ kW k := by unfold kW; split; omega; split <;> omega
theorem kH_le (k : Nat) : kH k ≤ 3 ∧ 1 ≤ kH k := by unfold kH; split; omega; split; omega; split <;> omega
theorem kT_le (k : Nat) : kT k ≤ 1 := by unfold kT; split <;> omega
theorem kP_le (k : Nat) : kP k ≤ 6 ∧ 2 ≤ kP k := by unfold kP; split; omega; split; omega; split <;> omega
def TB (C nm : String) (g : Nat → Nat) (A : Nat → Prop) (U : State) : Prop := ∃ t : Nat, va_Z C nm "[I" (.ref t) A U U.heap ∧ va_T .int t 4 (fun j => .int (nI (g j))) A U U.heap
def TE (A : Nat → Prop) (U : State) : Prop := vx_Zq Bundle.tN "UNASSIGNED_STACK" Bundle.steD A U U.heap ∧ vx_Zq Bundle.tN "SUPPRESSED_SENTINEL" Bundle.listD A U U.heap
theorem TB.at {C nm : String} {g : Nat → Nat} {A A1 B : Nat → Prop} {s : State} {H : Heap} {locs : List Loc} (h : TB C nm g A s) (hS : va_S A1 s.heap H locs) (h1 : ∀ q, A1 q → A q) (h2 : ∀ q, B q → A q) {U : State} (hU : U.heap = H) (hW : s.WarmedH U.vm) : TB C nm g B U := by
  obtain ⟨t, hz, ht⟩ := h
  have hk : ∀ a : Nat, a < s.heap.size → ¬ A a → U.heap[a]? = s.heap[a]? := fun a ha hn => by rw [hU]; exact hS.2.1 a ha (fun q => hn (h1 a q))
  exact ⟨t, va_Z.narrow (va_Z.kept (va_Z.moved hW.alike hz) hk) h2, va_T.narrow (va_T.kept (va_T.moved hW.alike ht) hk) h2⟩
theorem TB.c {C nm : String} {g : Nat → Nat} {A : Nat → Prop} {U : State} (gf : JFrame) (mk : MethodId) (a : Array Value) (h : TB C nm g A U) : TB C nm g A (U.calling gf mk a) := by
  obtain ⟨t, hz, ht⟩ := h
  exact ⟨t, va_Z.moved (U := U.calling gf mk a) (Vm.Alike.refl U.vm) hz, va_T.moved (U := U.calling gf mk a) (Vm.Alike.refl U.vm) ht⟩
theorem TE.at {A A1 B : Nat → Prop} {s : State} {H : Heap} {locs : List Loc} (h : TE A s) (hS : va_S A1 s.heap H locs) (h1 : ∀ q, A1 q → A q) (h2 : ∀ q, B q → A q) {U : State} (hU : U.heap = H) (hW : s.WarmedH U.vm) : TE B U := by
  have hk : ∀ a : Nat, a < s.heap.size → ¬ A a → U.heap[a]? = s.heap[a]? := fun a ha hn => by rw [hU]; exact hS.2.1 a ha (fun q => hn (h1 a q))
  exact ⟨vx_Zq.narrow (vx_Zq.kept (vx_Zq.moved hW.alike h.1) hk) h2, vx_Zq.narrow (vx_Zq.kept (vx_Zq.moved hW.alike h.2) hk) h2⟩
theorem TE.c {A : Nat → Prop} {U : State} (gf : JFrame) (mk : MethodId) (a : Array Value) (h : TE A U) : TE A (U.calling gf mk a) := ⟨vx_Zq.moved (U := U.calling gf mk a) (Vm.Alike.refl U.vm) h.1, vx_Zq.moved (U := U.calling gf mk a) (Vm.Alike.refl U.vm) h.2⟩
def SR (k : Nat) (tx : String) (U : State) : Prop := ∃ a : Nat, vk_R RX0 k tx a U
theorem SR.at {k : Nat} {tx : String} {s U : State} (h : SR k tx s) (hW : s.WarmedH U.vm) : SR k tx U := by
  obtain ⟨a, h⟩ := h
  exact ⟨a, vk_R.warm hW h⟩
theorem SR.c {k : Nat} {tx : String} {U : State} (gf : JFrame) (mk : MethodId) (a : Array Value) (h : SR k tx U) : SR k tx (U.calling gf mk a) := by
  obtain ⟨q, h⟩ := h
  exact ⟨q, vk_R.same (u := U) (U := U.calling gf mk a) rfl h⟩
def StrG (U : State) : Prop := SR 193 "colour is not 0 to 5" U ∧ SR 62 "there are 10 skins" U ∧ SR 185 "no such skin" U ∧ SR 189 "no such cell" U ∧ SR 76 "the part is empty or not on the skin" U ∧ SR 79 "how is not 0 to 2" U ∧ SR 85 "a cell of it is cut" U ∧ SR 191 "nothing is told by this number" U ∧ SR 195 "kind is not 0 to 3" U ∧ SR 105 "it cannot be cut there" U ∧ SR 110 "150 pieces were cut" U ∧ SR 125 "no such piece" U ∧ SR 134 "pieces are lacking" U ∧ SR 139 "20 pairs were sewn" U ∧ SR 187 "no such pair" U ∧ SR 147 "it is ripped up" U
theorem StrG.at {s U : State} (h : StrG s) (hW : s.WarmedH U.vm) : StrG U := ⟨SR.at (h.1) hW, SR.at (h.2.1) hW, SR.at (h.2.2.1) hW, SR.at (h.2.2.2.1) hW, SR.at (h.2.2.2.2.1) hW, SR.at (h.2.2.2.2.2.1) hW, SR.at (h.2.2.2.2.2.2.1) hW, SR.at (h.2.2.2.2.2.2.2.1) hW, SR.at (h.2.2.2.2.2.2.2.2.1) hW, SR.at (h.2.2.2.2.2.2.2.2.2.1) hW, SR.at (h.2.2.2.2.2.2.2.2.2.2.1) hW, SR.at (h.2.2.2.2.2.2.2.2.2.2.2.1) hW, SR.at (h.2.2.2.2.2.2.2.2.2.2.2.2.1) hW, SR.at (h.2.2.2.2.2.2.2.2.2.2.2.2.2.1) hW, SR.at (h.2.2.2.2.2.2.2.2.2.2.2.2.2.2.1) hW, SR.at (h.2.2.2.2.2.2.2.2.2.2.2.2.2.2.2) hW⟩
theorem StrG.c {U : State} (gf : JFrame) (mk : MethodId) (a : Array Value) (h : StrG U) : StrG (U.calling gf mk a) := ⟨SR.c gf mk a (h.1), SR.c gf mk a (h.2.1), SR.c gf mk a (h.2.2.1), SR.c gf mk a (h.2.2.2.1), SR.c gf mk a (h.2.2.2.2.1), SR.c gf mk a (h.2.2.2.2.2.1), SR.c gf mk a (h.2.2.2.2.2.2.1), SR.c gf mk a (h.2.2.2.2.2.2.2.1), SR.c gf mk a (h.2.2.2.2.2.2.2.2.1), SR.c gf mk a (h.2.2.2.2.2.2.2.2.2.1), SR.c gf mk a (h.2.2.2.2.2.2.2.2.2.2.1), SR.c gf mk a (h.2.2.2.2.2.2.2.2.2.2.2.1), SR.c gf mk a (h.2.2.2.2.2.2.2.2.2.2.2.2.1), SR.c gf mk a (h.2.2.2.2.2.2.2.2.2.2.2.2.2.1), SR.c gf mk a (h.2.2.2.2.2.2.2.2.2.2.2.2.2.2.1), SR.c gf mk a (h.2.2.2.2.2.2.2.2.2.2.2.2.2.2.2)⟩
def TW (w : Cond) (U : State) : Prop := w.before #[] U = true
theorem TW.tr {c : Cond} (hc : c.onTables = true) {u U : State} (h : c.before #[] (u.setVm U.vm) = true) : TW c U := by
  have e := Cond.onTables_vm (A := #[]) (A' := #[]) (U := u) (U' := U) U.vm c hc
  have hU : U.setVm U.vm = U := rfl
  rw [hU] at e
  show c.before #[] U = true
  rw [← e]
  exact h
theorem TW.dec {x : MethodName} {u U : State} (hvm : u.vm.Alike U.vm) (h : TW (.declares x) u) : TW (.declares x) U := TW.tr rfl (by rw [Cond.declares_setVm hvm]; exact h)
theorem TW.cast {C T : String} {u U : State} (hvm : u.vm.Alike U.vm) (h : TW (.castable C T) u) : TW (.castable C T) U := TW.tr rfl (by rw [Cond.castable_setVm hvm]; exact h)
/-- what a throw asks of the tables beside its method's own words -/
def ThW (U : State) : Prop := TW (.declares (Bundle.initS "java/lang/RuntimeException")) U ∧ TW (.declares (Bundle.initS "java/lang/Exception")) U ∧ TW (.declares (Bundle.initS Bundle.tN)) U ∧ TW (.castable "java/lang/IndexOutOfBoundsException" "java/lang/IndexOutOfBoundsException") U ∧ TW (.castable "java/lang/IllegalArgumentException" "java/lang/IllegalArgumentException") U ∧ TW (.castable "java/lang/IllegalStateException" "java/lang/IllegalStateException") U
theorem ThW.moved {u U : State} (hvm : u.vm.Alike U.vm) (h : ThW u) : ThW U := ⟨h.1.dec hvm, h.2.1.dec hvm, h.2.2.1.dec hvm, h.2.2.2.1.cast hvm, h.2.2.2.2.1.cast hvm, h.2.2.2.2.2.cast hvm⟩
def StrT (U : State) : Prop := StrG U ∧ ThW U
def EnvG (A : Nat → Prop) (U : State) : Prop := TB RX0 "KIND_WIDE" kW A U ∧ TB RX0 "KIND_HIGH" kH A U ∧ TB RX0 "KIND_MOST_THIN" kT A U ∧ TB RX0 "KIND_IN_PAIR" kP A U ∧ TE A U ∧ StrT U
theorem EnvG.at {A A1 B : Nat → Prop} {s : State} {H : Heap} {locs : List Loc} (h : EnvG A s) (hS : va_S A1 s.heap H locs) (h1 : ∀ q, A1 q → A q) (h2 : ∀ q, B q → A q) : ∀ U : State, U.heap = H → s.WarmedH U.vm → EnvG B U := fun _ hU hW => ⟨h.1.at hS h1 h2 hU hW, h.2.1.at hS h1 h2 hU hW, h.2.2.1.at hS h1 h2 hU hW, h.2.2.2.1.at hS h1 h2 hU hW, h.2.2.2.2.1.at hS h1 h2 hU hW, ⟨h.2.2.2.2.2.1.at hW, h.2.2.2.2.2.2.moved hW.alike⟩⟩
theorem EnvG_c {A : Nat → Prop} : ∀ (U : State) (g : JFrame) (mk : MethodId) (a : Array Value), EnvG A U → EnvG A (U.calling g mk a) := fun U g mk a h => ⟨h.1.c g mk a, h.2.1.c g mk a, h.2.2.1.c g mk a, h.2.2.2.1.c g mk a, h.2.2.2.2.1.c g mk a, ⟨h.2.2.2.2.2.1.c g mk a, h.2.2.2.2.2.2.moved (U := U.calling g mk a) (Vm.Alike.refl U.vm)⟩⟩
theorem TB.nar {C nm : String} {g : Nat → Nat} {A B : Nat → Prop} {U : State} (h : TB C nm g A U) (h2 : ∀ q, B q → A q) : TB C nm g B U := by
  obtain ⟨t, hz, ht⟩ := h
  exact ⟨t, va_Z.narrow hz h2, va_T.narrow ht h2⟩
theorem EnvG.nar {A B : Nat → Prop} {U : State} (h : EnvG A U) (h2 : ∀ q, B q → A q) : EnvG B U := ⟨h.1.nar h2, h.2.1.nar h2, h.2.2.1.nar h2, h.2.2.2.1.nar h2, ⟨h.2.2.2.2.1.1.narrow h2, h.2.2.2.2.1.2.narrow h2⟩, h.2.2.2.2.2⟩
theorem sub_id {A : Nat → Prop} : ∀ q, A q → A q := fun _ h => h
theorem sub_no {A : Nat → Prop} : ∀ q : Nat, (fun _ => False) q → A q := fun _ h => h.elim
theorem S_mono {A : Nat → Prop} {H0 H : Heap} {locs : List Loc} (h : va_S (fun _ => False) H0 H locs) : va_S A H0 H locs := ⟨h.1, fun q h1 _ => h.2.1 q h1 id, fun l hl => (h.2.2 l hl).elim⟩
theorem P_nil {D : va_G} {cl : List vw_C} {H : Heap} : va_P D cl [] H := fun k q h => by simp at h
theorem bI_nar (b : Bool) : narrow .boolean (.int (bI b)) = .int (bI b) := by cases b <;> decide
theorem nI_max {a b : Nat} (ha : a < 2 ^ 31) (hb : b < 2 ^ 31) : (if nI a < nI b then nI b else nI a) = nI (max a b) := by
  by_cases h : a < b
  · rw [if_pos ((nI_ltI ha hb).mpr h), Nat.max_eq_right (Nat.le_of_lt h)]
  · rw [if_neg (fun q => h ((nI_ltI ha hb).mp q)), Nat.max_eq_left (Nat.not_lt.mp h)]
theorem nI_min {a b : Nat} (ha : a < 2 ^ 31) (hb : b < 2 ^ 31) : (if nI a < nI b then nI a else nI b) = nI (min a b) := by
  by_cases h : a < b
  · rw [if_pos ((nI_ltI ha hb).mpr h), Nat.min_eq_left (Nat.le_of_lt h)]
  · rw [if_neg (fun q => h ((nI_ltI ha hb).mp q)), Nat.min_eq_right (Nat.not_lt.mp h)]
/-- an int argument that is an index -/
def inR (x : Int32) (n : Nat) : Bool := decide (0 ≤ x) && decide (x < nI n)
theorem inR_t {x : Int32} {n : Nat} (hn : n < 2 ^ 31) (h : inR x n = true) : ∃ j : Nat, j < n ∧ x = nI j := by
  unfold inR at h
  simp only [Bool.and_eq_true, decide_eq_true_eq] at h
  rcases pk_ix x hn with q | q | q
  · exact absurd h.1 (by rw [Int32.not_le]; exact q)
  · exact absurd h.2 (by rw [Int32.not_lt]; exact q)
  · exact q
theorem inR_n {j n : Nat} (hj : j < 2 ^ 31) (hn : n < 2 ^ 31) : inR (nI j) n = decide (j < n) := by
  unfold inR
  rw [decide_eq_true (nI_pos' hj), Bool.true_and]
  exact decide_eq_decide.mpr (nI_ltI hj hn)
theorem inR_y {x : Int32} {n : Nat} (h1 : ¬ x < 0) (h2 : x < nI n) : inR x n = true := by
  unfold inR
  rw [decide_eq_true (Int32.not_lt.mp h1), decide_eq_true h2]; rfl
theorem inR_lo {x : Int32} {n : Nat} (h1 : x < 0) : inR x n = false := by
  unfold inR
  rw [decide_eq_false (fun q => absurd h1 (Int32.not_lt.mpr q)), Bool.false_and]
theorem inR_hi {x : Int32} {n : Nat} (h2 : ¬ x < nI n) : inR x n = false := by
  unfold inR
  rw [decide_eq_false h2, Bool.and_false]
section NV2
variable {p : Program} {l : Launch} {e : Env} {R : Room} {s : State} {m : MethodId} {args : Array Value} {below : List Frame} {meth : Method} {c : Code} {H : Heap} {locs : List Loc} {cells slots : Nat} {Q : State → Prop}
variable {cc : ByteArray} {pc : Nat} {ls : Array Slot} {rest : List Value} {D : va_G} {cl : List vw_C} {A : Nat → Prop} {a : Nat} {tys : List (ClassId × FieldType)} {ws : va_W} {H0 : Heap}
theorem nv_tab (hx : p.tables.exec = Jvm.exec) (hb : c.code = cc) {t : Nat} {g : Nat → Nat} (hT : va_T .int t 4 (fun j => .int (nI (g j))) A s s.heap) (hS : va_S A s.heap H locs) {i : Nat} (hi : i < 4) (hdg : decode cc pc = .ok (.iaload, 1)) (kk : W p l e R s m args below meth c H locs cells slots Q (F0 m (pc + 1) ls (.int (nI (g i)) :: rest))) : W p l e R s m args below meth c H locs cells slots Q (F0 m pc ls (.int (nI i) :: .ref t :: rest)) :=
  va_ti hx hb hT hS (vp_in_nI hi (by decide)) (v := .int (nI (g i))) (by show Value.int (nI (g (nI i).toNatClampNeg)) = _; rw [nI_clamp (Nat.lt_trans hi (by decide))]) hdg kk
theorem nv_zald (hx : p.tables.exec = Jvm.exec) (hb : c.code = cc) (hK : va_K D cl tys s) (hP : va_P D cl ws H) (q0 t0 : Nat) {cA : ClassId} {n : Nat} {f : Nat → Int32} (ha : ws[q0]? = some (a, .inl (cA, n, .inl f))) (ht : tys[t0]? = some (cA, .boolean)) {i : Nat} (hi : i < n) (hn : n < 2 ^ 31) (hdg : decode cc pc = .ok (.baload, 1)) (kk : W p l e R s m args below meth c H locs cells slots Q (F0 m (pc + 1) ls (.int (f i) :: rest))) : W p l e R s m args below meth c H locs cells slots Q (F0 m pc ls (.int (nI i) :: .ref a :: rest)) := va_zald hx hb hK hP q0 t0 ha ht (vp_in_nI hi hn) hdg (by rw [nI_clamp (Nat.lt_trans hi hn)]; exact kk)
theorem nv_zast (hx : p.tables.exec = Jvm.exec) (hb : c.code = cc) (hK : va_K D cl tys s) (hP : va_P D cl ws H) (hD : va_D A ws) (hS : va_S A H0 H locs) (q0 t0 : Nat) {cA : ClassId} {n : Nat} {f : Nat → Int32} (ha : ws[q0]? = some (a, .inl (cA, n, .inl f))) (ht : tys[t0]? = some (cA, .boolean)) {i : Nat} {x : Int32} (hi : i < n) (hn : n < 2 ^ 31) (hz : vp_nar .boolean x = x) (hdg : decode cc pc = .ok (.bastore, 1))
    (kk : ∀ (H1 : Heap) (locs1 : List Loc), va_P D cl (ws.set q0 (a, .inl (cA, n, .inl (upd f i x)))) H1 → va_D A (ws.set q0 (a, .inl (cA, n, .inl (upd f i x)))) → va_S A H0 H1 locs1 → W p l e R s m args below meth c H1 locs1 cells slots Q (F0 m (pc + 1) ls rest)) : W p l e R s m args below meth c H locs cells slots Q (F0 m pc ls (.int x :: .int (nI i) :: .ref a :: rest)) := va_zast hx hb hK hP hD hS q0 t0 ha ht (vp_in_nI hi hn) hdg (by rw [nI_clamp (Nat.lt_trans hi hn), hz]; exact kk)
end NV2

def nX : String := "java/lang/IndexOutOfBoundsException"
theorem gd_X : ∀ w ∈ Cond.classLink RX0 123 "java/lang/IndexOutOfBoundsException" :: Cond.initialized "java/lang/IndexOutOfBoundsException" :: (vx_atS RX0 127 "java/lang/IndexOutOfBoundsException" ["java/lang/RuntimeException", "java/lang/Exception"]), vx_ot w = true := by decide +kernel
theorem ng_X : ∀ w ∈ (vx_atS RX0 127 "java/lang/IndexOutOfBoundsException" ["java/lang/RuntimeException", "java/lang/Exception"]).filter (fun w => !goodWord w), w ∈ [Cond.declares (Bundle.initS "java/lang/RuntimeException"), Cond.declares (Bundle.initS "java/lang/Exception"), Cond.declares (Bundle.initS Bundle.tN), Cond.castable "java/lang/IndexOutOfBoundsException" "java/lang/IndexOutOfBoundsException"] := by decide +kernel
theorem at_X {args : Array Value} {s : State} (h1 : ∀ w ∈ (vx_atS RX0 127 "java/lang/IndexOutOfBoundsException" ["java/lang/RuntimeException", "java/lang/Exception"]).filter goodWord, w.before args s = true) (hT : ThW s) : ∀ w ∈ (vx_atS RX0 127 "java/lang/IndexOutOfBoundsException" ["java/lang/RuntimeException", "java/lang/Exception"]), w.before args s = true := vx_hat h1 ng_X (vx_c (va_any rfl hT.1) (vx_c (va_any rfl hT.2.1) (vx_c (va_any rfl hT.2.2.1) (vx_c (va_any rfl hT.2.2.2.1) vx_n))))
def nA : String := "java/lang/IllegalArgumentException"
theorem gd_A : ∀ w ∈ Cond.classLink RX0 74 "java/lang/IllegalArgumentException" :: Cond.initialized "java/lang/IllegalArgumentException" :: (vx_atS RX0 78 "java/lang/IllegalArgumentException" ["java/lang/RuntimeException", "java/lang/Exception"]), vx_ot w = true := by decide +kernel
theorem ng_A : ∀ w ∈ (vx_atS RX0 78 "java/lang/IllegalArgumentException" ["java/lang/RuntimeException", "java/lang/Exception"]).filter (fun w => !goodWord w), w ∈ [Cond.declares (Bundle.initS "java/lang/RuntimeException"), Cond.declares (Bundle.initS "java/lang/Exception"), Cond.declares (Bundle.initS Bundle.tN), Cond.castable "java/lang/IllegalArgumentException" "java/lang/IllegalArgumentException"] := by decide +kernel
theorem at_A {args : Array Value} {s : State} (h1 : ∀ w ∈ (vx_atS RX0 78 "java/lang/IllegalArgumentException" ["java/lang/RuntimeException", "java/lang/Exception"]).filter goodWord, w.before args s = true) (hT : ThW s) : ∀ w ∈ (vx_atS RX0 78 "java/lang/IllegalArgumentException" ["java/lang/RuntimeException", "java/lang/Exception"]), w.before args s = true := vx_hat h1 ng_A (vx_c (va_any rfl hT.1) (vx_c (va_any rfl hT.2.1) (vx_c (va_any rfl hT.2.2.1) (vx_c (va_any rfl hT.2.2.2.2.1) vx_n))))
def nS : String := "java/lang/IllegalStateException"
theorem gd_S : ∀ w ∈ Cond.classLink RX0 60 "java/lang/IllegalStateException" :: Cond.initialized "java/lang/IllegalStateException" :: (vx_atS RX0 64 "java/lang/IllegalStateException" ["java/lang/RuntimeException", "java/lang/Exception"]), vx_ot w = true := by decide +kernel
theorem ng_S : ∀ w ∈ (vx_atS RX0 64 "java/lang/IllegalStateException" ["java/lang/RuntimeException", "java/lang/Exception"]).filter (fun w => !goodWord w), w ∈ [Cond.declares (Bundle.initS "java/lang/RuntimeException"), Cond.declares (Bundle.initS "java/lang/Exception"), Cond.declares (Bundle.initS Bundle.tN), Cond.castable "java/lang/IllegalStateException" "java/lang/IllegalStateException"] := by decide +kernel
theorem at_S {args : Array Value} {s : State} (h1 : ∀ w ∈ (vx_atS RX0 64 "java/lang/IllegalStateException" ["java/lang/RuntimeException", "java/lang/Exception"]).filter goodWord, w.before args s = true) (hT : ThW s) : ∀ w ∈ (vx_atS RX0 64 "java/lang/IllegalStateException" ["java/lang/RuntimeException", "java/lang/Exception"]), w.before args s = true := vx_hat h1 ng_S (vx_c (va_any rfl hT.1) (vx_c (va_any rfl hT.2.1) (vx_c (va_any rfl hT.2.2.1) (vx_c (va_any rfl hT.2.2.2.2.2) vx_n))))
theorem x_thr {px : Unit → Prop} {BX : String → Unit → State → Prop} {E : String} {s t : State} {H : Heap} {locs : List Loc} (hS : va_S (fun _ => False) s.heap H locs) (h1 : px ()) (h2 : BX E () t) (hs : H.size ≤ t.heap.size) (hq : ∀ q : Nat, q < H.size → t.heap[q]? = H[q]?) : vx_X px BX (fun _ => False) E s t := ⟨(), h1, h2, ⟨Nat.le_trans hS.1 hs, fun q h3 h4 => (hq q (Nat.lt_of_lt_of_le h3 hS.1)).trans (hS.2.1 q h3 h4)⟩⟩
