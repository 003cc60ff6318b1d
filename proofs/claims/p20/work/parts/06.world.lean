/-! the worlds: the class's object with its arrays (wG), the reference's (wM); addresses ad 0, ad 1 ..; contents F 1, F 2 .. -/
def AW (o : Nat × va_E) (ad : Nat → Nat) (E : Nat → va_E) (N : Nat) : va_W := o :: (List.range N).map (fun i => (ad (i + 1), E (i + 1)))
theorem AW_get {o : Nat × va_E} {ad : Nat → Nat} {E : Nat → va_E} {N k : Nat} (h : 1 ≤ k) (hk : k ≤ N) : (AW o ad E N)[k]? = some (ad k, E k) := by
  obtain ⟨j, rfl⟩ : ∃ j, k = j + 1 := ⟨k - 1, by omega⟩
  show ((List.range N).map (fun i => (ad (i + 1), E (i + 1))))[j]? = _
  rw [List.getElem?_map, List.getElem?_range (by omega)]
  rfl
theorem AW_set {o : Nat × va_E} {ad : Nat → Nat} {E : Nat → va_E} {N k : Nat} (h : 1 ≤ k) (hk : k ≤ N) (e : va_E) : (AW o ad E N).set k (ad k, e) = AW o ad (va_up E k e) N := by
  obtain ⟨j, rfl⟩ : ∃ j, k = j + 1 := ⟨k - 1, by omega⟩
  show o :: ((List.range N).map (fun i => (ad (i + 1), E (i + 1)))).set j (ad (j + 1), e) = o :: _
  congr 1
  apply List.ext_getElem?
  intro i
  rw [List.getElem?_set, List.getElem?_map, List.length_map, List.length_range, List.getElem?_map]
  by_cases hi : i < N
  · rw [List.getElem?_range hi]
    by_cases hij : j = i
    · subst hij
      simp [hi, va_up]
    · have h2 : ¬ i = j := fun q => hij q.symm
      simp [hij, va_up, h2]
  · rw [List.getElem?_eq_none (by simpa using Nat.not_lt.mp hi)]
    have h2 : ¬ j = i := by omega
    simp [h2]
theorem AW_congr {o : Nat × va_E} {ad : Nat → Nat} {E E' : Nat → va_E} {N : Nat} (h : ∀ k, E k = E' k) : AW o ad E N = AW o ad E' N := by
  rw [show E = E' from funext h]
theorem AW_D {A : Nat → Prop} {o : Nat × va_E} {ad : Nat → Nat} {E : Nat → va_E} {N : Nat} (ho : o.1 = ad 0) (hinj : ∀ i j, i ≤ N → j ≤ N → ad i = ad j → i = j) (hA : ∀ i, i ≤ N → A (ad i)) : va_D A (AW o ad E N) := by
  have key : ∀ (i : Nat) (q : Nat × va_E), (AW o ad E N)[i]? = some q → i ≤ N ∧ q.1 = ad i := by
    intro i q h
    match i with
    | 0 => cases h; exact ⟨Nat.zero_le _, ho⟩
    | i + 1 =>
      have hlt : i + 1 ≤ N := by
        have h2 := (List.getElem?_eq_some_iff.mp h).1
        simp [AW] at h2
        omega
      rw [AW_get (Nat.succ_le_succ (Nat.zero_le i)) hlt] at h
      cases h
      exact ⟨hlt, rfl⟩
  refine ⟨fun i j p q hi hj e => ?_, fun k q hk => ?_⟩
  · obtain ⟨a1, b1⟩ := key i p hi
    obtain ⟨a2, b2⟩ := key j q hj
    exact hinj i j a1 a2 (by rw [← b1, ← b2]; exact e)
  · obtain ⟨a1, b1⟩ := key k q hk
    rw [b1]
    exact hA k a1
/-- the addresses of a world of N arrays -/
def inA (ad : Nat → Nat) (N : Nat) : Nat → Prop := fun q => ∃ i, i ≤ N ∧ q = ad i
def inj (ad : Nat → Nat) (N : Nat) : Prop := ∀ i j, i ≤ N → j ≤ N → ad i = ad j → i = j
-- the class
def gLn (k : Nat) : Nat := if k ≤ 2 then 10 else if k ≤ 7 then 150 else if k ≤ 12 then 20 else 96
def gCl (cI cZ : ClassId) (k : Nat) : ClassId := if k = 12 then cZ else cI
def gE (cI cZ cO : ClassId) (ad : Nat → Nat) (F : Nat → Nat → Int32) (k : Nat) : va_E := if k = 3 then .inl (cO, 10, .inr (.inr (.inr (.inr (fun j => if j < 10 then some (ad (14 + j)) else none))))) else .inl (gCl cI cZ k, gLn k, .inl (F k))
def gO (ad : Nat → Nat) (n np nq : Nat) : Nat × va_E := (ad 0, .inr (0, [.int (nI n), .ref (ad 1), .ref (ad 2), .ref (ad 3), .int (nI np), .ref (ad 4), .ref (ad 5), .ref (ad 6), .ref (ad 7), .int (nI nq), .ref (ad 8), .ref (ad 9), .ref (ad 10), .ref (ad 11), .ref (ad 12), .ref (ad 13)]))
def wG (cI cZ cO : ClassId) (ad : Nat → Nat) (n np nq : Nat) (F : Nat → Nat → Int32) : va_W := AW (gO ad n np nq) ad (gE cI cZ cO ad F) 23
abbrev gT (cI cZ cO : ClassId) : List (ClassId × FieldType) := [(cI, .int), (cZ, .boolean), (cO, .array .int)]
section GW
variable {cI cZ cO : ClassId} {ad : Nat → Nat} {n np nq : Nat} {F : Nat → Nat → Int32}
theorem g_at0 : (wG cI cZ cO ad n np nq F)[0]? = some (gO ad n np nq) := rfl
theorem g_at3 : (wG cI cZ cO ad n np nq F)[3]? = some (ad 3, .inl (cO, 10, .inr (.inr (.inr (.inr (fun j => if j < 10 then some (ad (14 + j)) else none)))))) := AW_get (by decide) (by decide)
theorem gE_up {k : Nat} (h3 : k ≠ 3) (v : Nat → Int32) : ∀ j, va_up (gE cI cZ cO ad F) k (.inl (gCl cI cZ k, gLn k, .inl v)) j = gE cI cZ cO ad (va_up F k v) j := by
  intro j
  by_cases hj : j = k
  · subst hj
    simp [va_up, gE, h3]
  · simp [va_up, gE, hj]
theorem g_setk {k : Nat} (h1 : 1 ≤ k) (hk : k ≤ 23) (h3 : k ≠ 3) (v : Nat → Int32) : (wG cI cZ cO ad n np nq F).set k (ad k, .inl (gCl cI cZ k, gLn k, .inl v)) = wG cI cZ cO ad n np nq (va_up F k v) := by
  unfold wG
  rw [AW_set h1 hk]
  exact AW_congr (gE_up h3 v)
theorem g_at1 : (wG cI cZ cO ad n np nq F)[1]? = some (ad 1, .inl (cI, 10, .inl (F 1))) := AW_get (by decide) (by decide)
theorem g_set1 (v : Nat → Int32) : (wG cI cZ cO ad n np nq F).set 1 (ad 1, .inl (cI, 10, .inl v)) = wG cI cZ cO ad n np nq (va_up F 1 v) := g_setk (k := 1) (by decide) (by decide) (by decide) v
theorem g_at2 : (wG cI cZ cO ad n np nq F)[2]? = some (ad 2, .inl (cI, 10, .inl (F 2))) := AW_get (by decide) (by decide)
theorem g_set2 (v : Nat → Int32) : (wG cI cZ cO ad n np nq F).set 2 (ad 2, .inl (cI, 10, .inl v)) = wG cI cZ cO ad n np nq (va_up F 2 v) := g_setk (k := 2) (by decide) (by decide) (by decide) v
theorem g_at4 : (wG cI cZ cO ad n np nq F)[4]? = some (ad 4, .inl (cI, 150, .inl (F 4))) := AW_get (by decide) (by decide)
theorem g_set4 (v : Nat → Int32) : (wG cI cZ cO ad n np nq F).set 4 (ad 4, .inl (cI, 150, .inl v)) = wG cI cZ cO ad n np nq (va_up F 4 v) := g_setk (k := 4) (by decide) (by decide) (by decide) v
theorem g_at5 : (wG cI cZ cO ad n np nq F)[5]? = some (ad 5, .inl (cI, 150, .inl (F 5))) := AW_get (by decide) (by decide)
theorem g_set5 (v : Nat → Int32) : (wG cI cZ cO ad n np nq F).set 5 (ad 5, .inl (cI, 150, .inl v)) = wG cI cZ cO ad n np nq (va_up F 5 v) := g_setk (k := 5) (by decide) (by decide) (by decide) v
theorem g_at6 : (wG cI cZ cO ad n np nq F)[6]? = some (ad 6, .inl (cI, 150, .inl (F 6))) := AW_get (by decide) (by decide)
theorem g_set6 (v : Nat → Int32) : (wG cI cZ cO ad n np nq F).set 6 (ad 6, .inl (cI, 150, .inl v)) = wG cI cZ cO ad n np nq (va_up F 6 v) := g_setk (k := 6) (by decide) (by decide) (by decide) v
theorem g_at7 : (wG cI cZ cO ad n np nq F)[7]? = some (ad 7, .inl (cI, 150, .inl (F 7))) := AW_get (by decide) (by decide)
theorem g_set7 (v : Nat → Int32) : (wG cI cZ cO ad n np nq F).set 7 (ad 7, .inl (cI, 150, .inl v)) = wG cI cZ cO ad n np nq (va_up F 7 v) := g_setk (k := 7) (by decide) (by decide) (by decide) v
theorem g_at8 : (wG cI cZ cO ad n np nq F)[8]? = some (ad 8, .inl (cI, 20, .inl (F 8))) := AW_get (by decide) (by decide)
theorem g_set8 (v : Nat → Int32) : (wG cI cZ cO ad n np nq F).set 8 (ad 8, .inl (cI, 20, .inl v)) = wG cI cZ cO ad n np nq (va_up F 8 v) := g_setk (k := 8) (by decide) (by decide) (by decide) v
theorem g_at9 : (wG cI cZ cO ad n np nq F)[9]? = some (ad 9, .inl (cI, 20, .inl (F 9))) := AW_get (by decide) (by decide)
theorem g_set9 (v : Nat → Int32) : (wG cI cZ cO ad n np nq F).set 9 (ad 9, .inl (cI, 20, .inl v)) = wG cI cZ cO ad n np nq (va_up F 9 v) := g_setk (k := 9) (by decide) (by decide) (by decide) v
theorem g_at10 : (wG cI cZ cO ad n np nq F)[10]? = some (ad 10, .inl (cI, 20, .inl (F 10))) := AW_get (by decide) (by decide)
theorem g_set10 (v : Nat → Int32) : (wG cI cZ cO ad n np nq F).set 10 (ad 10, .inl (cI, 20, .inl v)) = wG cI cZ cO ad n np nq (va_up F 10 v) := g_setk (k := 10) (by decide) (by decide) (by decide) v
theorem g_at11 : (wG cI cZ cO ad n np nq F)[11]? = some (ad 11, .inl (cI, 20, .inl (F 11))) := AW_get (by decide) (by decide)
theorem g_set11 (v : Nat → Int32) : (wG cI cZ cO ad n np nq F).set 11 (ad 11, .inl (cI, 20, .inl v)) = wG cI cZ cO ad n np nq (va_up F 11 v) := g_setk (k := 11) (by decide) (by decide) (by decide) v
theorem g_at12 : (wG cI cZ cO ad n np nq F)[12]? = some (ad 12, .inl (cZ, 20, .inl (F 12))) := AW_get (by decide) (by decide)
theorem g_set12 (v : Nat → Int32) : (wG cI cZ cO ad n np nq F).set 12 (ad 12, .inl (cZ, 20, .inl v)) = wG cI cZ cO ad n np nq (va_up F 12 v) := g_setk (k := 12) (by decide) (by decide) (by decide) v
theorem g_at13 : (wG cI cZ cO ad n np nq F)[13]? = some (ad 13, .inl (cI, 96, .inl (F 13))) := AW_get (by decide) (by decide)
theorem g_set13 (v : Nat → Int32) : (wG cI cZ cO ad n np nq F).set 13 (ad 13, .inl (cI, 96, .inl v)) = wG cI cZ cO ad n np nq (va_up F 13 v) := g_setk (k := 13) (by decide) (by decide) (by decide) v
theorem gLn_r (k : Nat) : gLn (14 + k) = 96 := by
  unfold gLn
  rw [if_neg (by omega), if_neg (by omega), if_neg (by omega)]
theorem gCl_r (k : Nat) : gCl cI cZ (14 + k) = cI := by
  unfold gCl
  rw [if_neg (by omega)]
theorem g_atr {k : Nat} (hk : k < 10) : (wG cI cZ cO ad n np nq F)[14 + k]? = some (ad (14 + k), .inl (cI, 96, .inl (F (14 + k)))) := by
  unfold wG
  rw [AW_get (by omega) (by omega)]
  show some (ad (14 + k), gE cI cZ cO ad F (14 + k)) = _
  unfold gE
  rw [if_neg (by omega), gLn_r, gCl_r]
theorem g_setr {k : Nat} (hk : k < 10) (v : Nat → Int32) : (wG cI cZ cO ad n np nq F).set (14 + k) (ad (14 + k), .inl (cI, 96, .inl v)) = wG cI cZ cO ad n np nq (va_up F (14 + k) v) := by
  have h := g_setk (cI := cI) (cZ := cZ) (cO := cO) (ad := ad) (n := n) (np := np) (nq := nq) (F := F) (k := 14 + k) (by omega) (by omega) (by omega) v
  rw [gLn_r, gCl_r] at h
  exact h
theorem g_D (hi : inj ad 23) : va_D (inA ad 23) (wG cI cZ cO ad n np nq F) := AW_D rfl hi (fun i h => ⟨i, h, rfl⟩)
theorem g_lt {D : va_G} {cl : List vw_C} {H : Heap} (hP : va_P D cl (wG cI cZ cO ad n np nq F) H) {q : Nat} (h : inA ad 23 q) : q < H.size := by
  obtain ⟨i, hi, rfl⟩ := h
  match i with
  | 0 => exact (hP 0 _ g_at0).lt
  | i + 1 => exact (hP (i + 1) _ (AW_get (by omega) hi)).lt
end GW
-- the single array
theorem a_D {a : Nat} {e : va_E} : va_D (fun q => q = a) [(a, e)] := ⟨fun i j p q hi hj _ => by
  match i, j, hi, hj with
  | 0, 0, _, _ => rfl
  | 0, j + 1, _, hj => simp at hj
  | i + 1, _, hi, _ => simp at hi, fun k q hk => by
  match k, hk with
  | 0, hk => cases hk; rfl
  | k + 1, hk => simp at hk⟩
theorem P_kept {D : va_G} {cl : List vw_C} {ws : va_W} {H H1 : Heap} (h : va_P D cl ws H) (hk : ∀ q : Nat, q < H.size → ¬ False → H1[q]? = H[q]?) : va_P D cl ws H1 := h.kept (fun k q hq => hk q.1 (h k q hq).lt id)
theorem P_pick {D : va_G} {cl : List vw_C} {ws : va_W} {H : Heap} (h : va_P D cl ws H) {k : Nat} {q : Nat × va_E} (hq : ws[k]? = some q) : va_P D cl [q] H := fun i r hr => by
  match i, hr with
  | 0, hr => cases hr; exact h k _ hq
  | i + 1, hr => simp at hr
/-- one cell of a world was written by a callee -/
theorem P_put {D : va_G} {cl : List vw_C} {A : Nat → Prop} {ws : va_W} {H H1 : Heap} {k a : Nat} {e0 e : va_E} (h : va_P D cl ws H) (hD : va_D A ws) (hq : ws[k]? = some (a, e0)) (hk : ∀ q : Nat, q < H.size → ¬ q = a → H1[q]? = H[q]?) (h1 : va_P D cl [(a, e)] H1) : va_P D cl (ws.set k (a, e)) H1 := by
  intro i r hr
  rw [List.getElem?_set] at hr
  by_cases hik : k = i
  · subst hik
    have hlt : k < ws.length := (List.getElem?_eq_some_iff.mp hq).1
    simp [hlt] at hr
    cases hr
    exact h1 0 _ rfl
  · rw [if_neg hik] at hr
    have hne : r.1 ≠ a := fun z => hik (hD.1 k i (a, e0) r hq hr z.symm)
    exact (h i r hr).kept (hk r.1 (h i r hr).lt hne)
/-- what a method needs at its start: its world, the tables, and more -/
def Pr (D : va_G) (tys : List (ClassId × FieldType)) (ws : va_W) (V : State → Prop) (U : State) : Prop := va_P D vwCl ws U.heap ∧ va_K D vwCl tys U ∧ V U
theorem pr_S {s : State} {H : Heap} {D : va_G} {tys tys' : List (ClassId × FieldType)} {ws : va_W} {V : State → Prop} {av : List Value} (hP : va_P D vwCl ws H) (hK : va_K D vwCl tys s) (is : List Nat) (hs : is.filterMap (fun i => tys[i]?) = tys') (hV : ∀ U : State, U.heap = H → s.WarmedH U.vm → V U) (hB : ∀ (U : State) (g : JFrame) (mk : MethodId) (a : Array Value), V U → V (U.calling g mk a)) : PreS s H (va_Pc av (Pr D tys' ws V)) av :=
  ⟨fun a U g mk q => ⟨q.1, q.2.1, va_K.moved (u := U) (U := U.calling g mk a) (Vm.Alike.refl U.vm) q.2.2.1, hB U g mk a q.2.2.2⟩, fun U hU hW => ⟨rfl, by rw [hU]; exact hP, va_K.moved hW.alike (hK.sub is hs), hV U hU hW⟩⟩
theorem pr_V {s : State} {H : Heap} {D : va_G} {tys tys' : List (ClassId × FieldType)} {ws ws0 : va_W} {V : State → Prop} {av : List Value} {C : String} {b q0 ci : Nat} {q : vw_C} {fs : List Value} (hP0 : va_P D vwCl ws0 H) (hc : vwCl[ci]? = some q) (he : ws0[q0]? = some (b, .inr (ci, fs))) (hC : q.1 = C) (hP : va_P D vwCl ws H) (hK : va_K D vwCl tys s) (is : List Nat) (hs : is.filterMap (fun i => tys[i]?) = tys') (hV : ∀ U : State, U.heap = H → s.WarmedH U.vm → V U) (hB : ∀ (U : State) (g : JFrame) (mk : MethodId) (a : Array Value), V U → V (U.calling g mk a)) : PreV s H C b (va_Pc (.ref b :: av) (Pr D tys' ws V)) av := by
  subst hC
  exact ⟨(pr_S hP hK is hs hV hB (av := .ref b :: av)).1, va_recv hK hP0 hc he, (pr_S hP hK is hs hV hB (av := .ref b :: av)).2⟩
def V0 : State → Prop := fun _ => True
theorem V0_at {s : State} {H : Heap} : ∀ U : State, U.heap = H → s.WarmedH U.vm → V0 U := fun _ _ _ => trivial
theorem V0_c : ∀ (U : State) (g : JFrame) (mk : MethodId) (a : Array Value), V0 U → V0 (U.calling g mk a) := fun _ _ _ _ _ => trivial
theorem nv_aald {p : Program} {l : Launch} {e : Env} {R : Room} {s : State} {m : MethodId} {args : Array Value} {below : List Frame} {meth : Method} {c : Code} {H : Heap} {locs : List Loc} {cells slots : Nat} {Q : State → Prop} {cc : ByteArray} {pc : Nat} {ls : Array Slot} {rest : List Value} {D : va_G} {cl : List vw_C} {a : Nat} {tys : List (ClassId × FieldType)} {ws : va_W} (hx : p.tables.exec = Jvm.exec) (hb : c.code = cc) (hK : va_K D cl tys s) (hP : va_P D cl ws H) (q0 t0 : Nat) {cA : ClassId} {n : Nat} {f : Nat → Option Nat} (ha : ws[q0]? = some (a, .inl (cA, n, .inr (.inr (.inr (.inr f)))))) (ht : tys[t0]? = some (cA, .array .int)) {i r : Nat} (hi : i < n) (hn : n < 2 ^ 31) (hf : f i = some r) (hdg : decode cc pc = .ok (.aaload, 1))
    (kk : W p l e R s m args below meth c H locs cells slots Q (F0 m (pc + 1) ls (.ref r :: rest))) : W p l e R s m args below meth c H locs cells slots Q (F0 m pc ls (.int (nI i) :: .ref a :: rest)) := by
  have hcl : (nI i).toNatClampNeg = i := nI_clamp (Nat.lt_trans hi hn)
  have hin : vp_in (nI i) n := vp_in_nI hi hn
  refine W.aald (v := .ref r) (ty := .array .int) hx hb (hP q0 _ ha) ((hK.2 t0 _ ht).1 n (fun j => va_rf (f j))) rfl (fun q => by cases q) (by show ¬ (nI i < 0 ∨ (arrV _ _ _).slots.size ≤ _); rw [arrV_size]; exact hin) (by show (arrV _ _ _).slots[_]? = _; rw [hcl, arrV_read _ _ hi, hf]; rfl) rfl rfl hdg kk
