/-! what the law's own code stands on -/
def LC (cc : ByteArray) (maxL : Nat) (Ts : List Cond) (p : Program) (s : State) (m : MethodId) (c : Code) (args : Array Value) (R : Room) (D : va_G) (cI cZ cO : ClassId) (b L : Nat) (xs : Nat → Int32) : Prop :=
  p.tables.exec = Jvm.exec ∧ c.code = cc ∧ c.maxLocals = maxL ∧ s.vm.findClass RL = some m.cls ∧ (∀ w ∈ Ts, w.before args s = true) ∧ va_K D vwCl (gT cI cZ cO) s ∧ va_X b L xs s s.heap ∧ b < s.heap.size ∧ L < 2 ^ 20 ∧ va_AOA .int s ∧ EnvL (LA s) s ∧ 9 ≤ R.frames ∧ 200 ≤ R.locals
theorem GW.newQ {D : va_G} {cI cZ cO : ClassId} {ad : Nat → Nat} {n np nq : Nat} {F : Nat → Nat → Int32} {H H1 : Heap} (h : GW D cI cZ cO ad n np nq F H) {q : Nat} (hq : H.size = q) (hk : ∀ x : Nat, x < q → H1[x]? = H[x]?) : GW D cI cZ cO ad n np nq F H1 := h.new (fun x hx => hk x (hq ▸ hx))
theorem rows_lt {cO cI : ClassId} {a n k : Nat} {g : Nat → Nat → Int32} {H : Heap} (ho : ao cO a n H) (hr : ∀ i, i < n → ar cI (a + 1 + i) k (g i) H) : a + n < H.size := by
  rcases Nat.eq_zero_or_pos n with h | h
  · subst h
    exact ho.lt
  · have := (hr (n - 1) (by omega)).lt
    omega
theorem sk_0 (F : Nat → Nat → Int32) (s : Nat) : skT F s 0 = F 1 s := rfl
theorem sk_5 (F : Nat → Nat → Int32) (s : Nat) : skT F s 5 = F 2 s := rfl
theorem sk_1 (F : Nat → Nat → Int32) (s : Nat) : skT F s 1 = nI (cv (F (14 + s)) (nI 0)) := by rw [← tS_cv]; rfl
theorem sk_2 (F : Nat → Nat → Int32) (s : Nat) : skT F s 2 = nI (cv (F (14 + s)) (nI 1)) := by rw [← tS_cv]; rfl
theorem sk_3 (F : Nat → Nat → Int32) (s : Nat) : skT F s 3 = nI (cv (F (14 + s)) (nI 2)) := by rw [← tS_cv]; rfl
theorem sk_4 (F : Nat → Nat → Int32) (s : Nat) : skT F s 4 = nI (cv (F (14 + s)) (nI 3)) := by rw [← tS_cv]; rfl
theorem J.small {n np nq : Nat} {F : Nat → Nat → Int32} (h : J n np nq F) {s : Nat} (hs : s < n) : small (F (14 + s)) 96 := h.inv.2.2.2.2.2.2.2.2.2 s (by have := h.inv.1; omega)
section WQ
variable {p : Program} {l : Launch} {e : Env} {R : Room} {s : State} {m : MethodId} {args : Array Value} {below : List Frame} {meth : Method} {c : Code} {H : Heap} {locs : List Loc} {cells slots : Nat} {Q : State → Prop}
variable {cc : ByteArray} {pc : Nat} {ls : Array Slot} {rest : List Value} {D : va_G} {cl : List vw_C} {A : Nat → Prop} {a : Nat} {tys : List (ClassId × FieldType)} {ws : va_W} {H0 : Heap}
theorem w_newaQ {q : Nat} (hq : H.size = q) (hx : p.tables.exec = Jvm.exec) (hb : c.code = cc) (harr : (Cond.arrayClass .int).before args s = true) (hK : va_K D cl tys s) (t0 : Nat) {cA : ClassId} (ht : tys[t0]? = some (cA, .int)) (hS : va_S A H0 H locs) {N : Nat} (hN : N < 2 ^ 31) (hbytes : N * 4 ≤ 536870912) (hcells : cells + 1 ≤ R.cells) (hslots : slots + N ≤ R.slots) (hdg : decode cc pc = .ok (.newarray .int, 2))
    (kk : ∀ (H1 : Heap), ar cA q N (fun _ => 0) H1 → H1.size = q + 1 → (∀ x : Nat, x < q → H1[x]? = H[x]?) → va_S A H0 H1 locs → W p l e R s m args below meth c H1 locs (cells + 1) (slots + N) Q (F0 m (pc + 2) ls (.ref q :: rest))) : W p l e R s m args below meth c H locs cells slots Q (F0 m pc ls (.int (nI N) :: rest)) := by
  subst hq
  exact w_newa hx hb harr hK t0 ht hS hN hbytes hcells hslots hdg kk
theorem w_mnaQ {q : Nat} (hq : H.size = q) (hx : p.tables.exec = Jvm.exec) (hb : c.code = cc) {own : String} {index : Nat} (hown : s.vm.findClass own = some m.cls) (hclink : (Cond.classLink own index "[[I").before args s = true) (hover : va_AOA .int s) (harr : (Cond.arrayClass .int).before args s = true) (hK : va_K D cl tys s) (t0 t1 : Nat) {cI cO : ClassId} (ht0 : tys[t0]? = some (cI, .int)) (ht1 : tys[t1]? = some (cO, .array .int)) (hS : va_S A H0 H locs) {N K : Nat} (hN : N < 2 ^ 20) (hK2 : K < 2 ^ 20)
    (hcells : cells + (1 + N) ≤ R.cells) (hslots : slots + (N + N * K) ≤ R.slots) (hdg : decode cc pc = .ok (.multianewarray index 2, 4))
    (kk : ∀ (H1 : Heap), ao cO q N H1 → (∀ i, i < N → ar cI (q + 1 + i) K (fun _ => 0) H1) → H1.size = q + 1 + N → (∀ x : Nat, x < q → H1[x]? = H[x]?) → va_S A H0 H1 locs → W p l e R s m args below meth c H1 locs (cells + 1 + N) (slots + N + N * K) Q (F0 m (pc + 4) ls (.ref q :: rest))) : W p l e R s m args below meth c H locs cells slots Q (F0 m pc ls (.int (nI K) :: .int (nI N) :: rest)) := by
  subst hq
  exact w_mna hx hb hown hclink hover harr hK t0 t1 ht0 ht1 hS hN hK2 hcells hslots hdg kk
theorem lv_lcmpN (hexec : p.tables.exec = Jvm.exec) (hb : c.code = cc) {x : Int64} (hdg : decode cc pc = .ok (.lcmp, 1)) (k : W p l e R s m args below meth c H locs cells slots Q (F0 m (pc + 1) ls (.int (nI 0) :: rest))) : W p l e R s m args below meth c H locs cells slots Q (F0 m pc ls (.long x :: .long x :: rest)) := lv_lcmpS hexec hb hdg k
theorem wb_ne (hx : p.tables.exec = Jvm.exec) (hb : c.code = cc) {j : Nat} (hj : j < 2 ^ 31) (d1 : decode cc pc = .ok (.ifCond .ne 7, 3)) (d2 : decode cc (pc + 3) = .ok (.iconst 1, 1)) (d3 : decode cc (pc + 4) = .ok (.goto 4, 3)) (d4 : decode cc (pc + 7) = .ok (.iconst 0, 1)) (kk : W p l e R s m args below meth c H locs cells slots Q (F0 m (pc + 8) ls (.int (bI (decide (j = 0))) :: rest))) : W p l e R s m args below meth c H locs cells slots Q (F0 m pc ls (.int (nI j) :: rest)) := by
  refine nv_if_ne (tgt := pc + 7) hx hb hj d1 (by omega) (fun h => ?_) (fun h => ?_)
  · rw [decide_eq_false (show ¬ j = 0 by omega)] at kk
    exact lv_iconst (v := 0) hx hb d4 (by decide) kk
  · rw [decide_eq_true h] at kk
    refine lv_iconst (v := 1) hx hb d2 (by decide) ?_
    exact lv_goto (tgt := pc + 8) hx hb d3 (by omega) kk
end WQ
