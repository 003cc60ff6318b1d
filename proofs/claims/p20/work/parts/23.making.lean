/-! making the two objects -/
section NVI
variable {p : Program} {l : Launch} {e : Env} {R : Room} {s : State} {m : MethodId} {args : Array Value} {below : List Frame} {meth : Method} {c : Code} {H : Heap} {locs : List Loc} {cells slots : Nat} {Q : State → Prop}
variable {pc : Nat} {ls : Array Slot} {rest : List Value} {D : va_G} {cl : List vw_C} {A : Nat → Prop} {a : Nat} {tys : List (ClassId × FieldType)} {ws : va_W} {H0 : Heap}
theorem nv_newa {cc : ByteArray} (hx : p.tables.exec = Jvm.exec) (hb : c.code = cc) {atype : ArrayType} (harr : (Cond.arrayClass (newarray.typeOf atype)).before args s = true) {ty : FieldType} (hty : newarray.typeOf atype = ty) (hK : va_K D cl tys s) (t0 : Nat) {cA : ClassId} (ht : tys[t0]? = some (cA, ty)) (hRA : ∀ c : ClassId, va_RA s c ty → s.vm.findClass ("[" ++ ty.toString) = some c) (hP : va_P D cl ws H) (hD : va_D A ws) (hS : va_S A H0 H locs) (hA : ∀ q, H0.size ≤ q → A q) {n : Nat} {a0 : vp_A} (ha : ∀ cA : ClassId, vp_cell cA a0 = arrV cA n (fun _ => defaultValue ty)) (hn2 : n < 2 ^ 31) (hbytes : n * componentBytes ty ≤ 536870912) (hcells : cells + 1 ≤ R.cells) (hslots : slots + n ≤ R.slots) (hdg : decode cc pc = .ok (.newarray atype, 2))
    (kk : ∀ (q : Nat) (H1 : Heap), va_P D cl (ws ++ [(q, .inl (cA, a0))]) H1 → va_D A (ws ++ [(q, .inl (cA, a0))]) → va_S A H0 H1 locs → W p l e R s m args below meth c H1 locs (cells + 1) (slots + n) Q (F0 m (pc + 2) ls (.ref q :: rest))) : W p l e R s m args below meth c H locs cells slots Q (F0 m pc ls (.int (nI n) :: rest)) := by
  refine va_newa hx hb harr hty hK hP hD hS hA ha (nI_pos hn2) (nI_clamp hn2) hbytes hcells hslots hdg (fun q c2 H1 hK2 hP2 hD2 hS2 => ?_)
  have h1 := hRA _ (hK2.2 tys.length (c2, ty) (by simp)).2
  have h2 := hRA _ (hK.2 t0 _ ht).2
  have e : c2 = cA := Option.some.inj (h1.symm.trans h2)
  subst e
  exact kk q H1 hP2 hD2 hS2
theorem vr_const {e : va_E} {l : List Nat} : vr_up (fun _ => e) l e = fun _ => e := by
  funext a
  unfold vr_up
  split <;> rfl
theorem nv_mna {cc : ByteArray} (hx : p.tables.exec = Jvm.exec) (hb : c.code = cc) {own : String} {index : Nat} (hown : s.vm.findClass own = some m.cls) (hclink : (Cond.classLink own index "[[I").before args s = true) (hover : va_AOA .int s) (harr : (Cond.arrayClass .int).before args s = true) (hK : va_K D cl tys s) (t0 t1 : Nat) {cI cO : ClassId} (ht0 : tys[t0]? = some (cI, .int)) (ht1 : tys[t1]? = some (cO, .array .int)) (hP : va_P D cl ws H) (hD : va_D A ws) (hS : va_S A H0 H locs) (hA : ∀ q, H0.size ≤ q → A q)
    (hcells : cells + 11 ≤ R.cells) (hslots : slots + 970 ≤ R.slots) (hdg : decode cc pc = .ok (.multianewarray index 2, 4))
    (kk : ∀ (q : Nat) (r : Nat → Nat) (H1 : Heap), va_P D cl ((ws ++ [(q, .inl (cO, 10, .inr (.inr (.inr (.inr (fun i => if i < 10 then some (r i) else none))))))]) ++ [(r 0, .inl (cI, 96, .inl (fun _ => 0))), (r 1, .inl (cI, 96, .inl (fun _ => 0))), (r 2, .inl (cI, 96, .inl (fun _ => 0))), (r 3, .inl (cI, 96, .inl (fun _ => 0))), (r 4, .inl (cI, 96, .inl (fun _ => 0))), (r 5, .inl (cI, 96, .inl (fun _ => 0))), (r 6, .inl (cI, 96, .inl (fun _ => 0))), (r 7, .inl (cI, 96, .inl (fun _ => 0))), (r 8, .inl (cI, 96, .inl (fun _ => 0))), (r 9, .inl (cI, 96, .inl (fun _ => 0)))]) H1 →
      va_D A ((ws ++ [(q, .inl (cO, 10, .inr (.inr (.inr (.inr (fun i => if i < 10 then some (r i) else none))))))]) ++ [(r 0, .inl (cI, 96, .inl (fun _ => 0))), (r 1, .inl (cI, 96, .inl (fun _ => 0))), (r 2, .inl (cI, 96, .inl (fun _ => 0))), (r 3, .inl (cI, 96, .inl (fun _ => 0))), (r 4, .inl (cI, 96, .inl (fun _ => 0))), (r 5, .inl (cI, 96, .inl (fun _ => 0))), (r 6, .inl (cI, 96, .inl (fun _ => 0))), (r 7, .inl (cI, 96, .inl (fun _ => 0))), (r 8, .inl (cI, 96, .inl (fun _ => 0))), (r 9, .inl (cI, 96, .inl (fun _ => 0)))]) → va_S A H0 H1 locs →
      W p l e R s m args below meth c H1 locs (cells + 11) (slots + 970) Q (F0 m (pc + 4) ls (.ref q :: rest))) : W p l e R s m args below meth c H locs cells slots Q (F0 m pc ls (.int (nI 96) :: .int (nI 10) :: rest)) := by
  have hcy : s.vm.findClass (FieldType.array .int).toString = some cI := (hK.2 t0 _ ht0).2
  have hPn : va_P D cl (ws ++ va_pl [] (fun _ => .inl (cI, 96, .inl (fun _ => 0)))) H := by
    show va_P D cl (ws ++ []) H
    rw [List.append_nil]; exact hP
  have hDn : va_D A (ws ++ va_pl [] (fun _ => .inl (cI, 96, .inl (fun _ => 0)))) := by
    show va_D A (ws ++ [])
    rw [List.append_nil]; exact hD
  refine va_mna (ty := .int) (N' := 10) (K' := 96) (z := (96, .inl (fun _ => 0))) hx hb hown hclink hover harr hcy hK hPn hDn hS hA (by decide) (by decide) rfl rfl (by decide) (by decide) (by decide) rfl rfl hcells hslots (fun c => ?_) hdg (fun q r c2 H1 hinj hnew hK2 hP2 hD2 hS2 => ?_)
  · show ({ cls := c, slots := Array.replicate 96 (.int 0), vm := .none } : Cell) = _
    rw [arrV_new]; rfl
  · have h1 : s.vm.findClass _ = some c2 := (hK2.2 tys.length (c2, .array .int) (by simp)).2
    have h2 : s.vm.findClass _ = some cO := (hK.2 t1 _ ht1).2
    have e : c2 = cO := Option.some.inj (h1.symm.trans h2)
    subst e
    rw [vr_const] at hP2 hD2
    exact kk q r H1 hP2 hD2 hS2
end NVI
