/-! THE CLAIM OUT OF ONE WALK OF THE LAW'S BODY. Your part is whole_start (and what it stands on); all else here is the same for every law, but numbers. -/
def R_law : String := "GloveCuttersLaw"
def lw_P (b : Addr) (xs : List Int32) (args : Array Value) (s : State) : Prop := args = #[.ref b] ∧ s.IntsAt b xs ∧ xs.length ≤ 3584 ∧ (Jvm.Cond.and given_1 narrow_1).before args s = true
/-- what a walk over the start with the record d0 says of its end, said of the start itself -/
theorem lw_closed {s t : State} {o : Outcome} {d0 : Drawn} {L : List Loc} {k n : Nat} (hd0 : s.drawn.sameBut d0 lw_cs) (hv : ∃ v, o = .returned v) (hW : (s.setDrawn d0).WarmedH t.vm) (hs : (s.setDrawn d0).sameButNew ({ t with vm := s.vm } : State) L k n) : State.butDraws s t lw_cs (fun t1 => Framed s o t1 L k n) := by
  have h2 : t.drawn = d0 := congrArg State.drawn hs.1
  refine ⟨⟨hv, hW, State.sameButNew.setDrawn hs s.drawn⟩, ?_, by decide⟩
  rw [h2]
  exact hd0
def lw_Q (_ : Array Value) (s : State) (o : Outcome) (t : State) : Prop := o = .returned (some (.int 1)) ∧ State.butDraws s t lw_cs (fun t1 => Framed s o t1 [] 653633 7135204)
def lw_Z (below : List Frame) (a : Array Value) (s : State) : State → Prop := fun t => ∃ o, t.status = .running ∧ Ended t below o ∧ lw_Q a s o t
/-- the law's own end, with 1 on the stack, nothing written that was there before, its room as the claim has it; d0: the record of draws at this point (at the entry s.drawn: begin with 'refine W.base ?_' and 'have hd0 := Drawn.sameBut.refl s.drawn lw_cs') -/
theorem lw_ret {p : Program} {l : Launch} {e : Env} {s : State} {m : MethodId} {below : List Frame} {meth : Method} {c : Code} {b : Nat} {d0 : Drawn} (hd0 : s.drawn.sameBut d0 lw_cs) (hx : p.tables.exec = Jvm.exec) (hb : c.code = code) (hr : meth.sig.returnType = ret) (hlocks : meth.locks = false) {pc : Nat} {H : Heap} {ls : Array Slot} (hdg : decode code pc = .ok (.ireturn, 1)) : W p l e room_1 (s.setDrawn d0) m #[Value.ref b] below meth c H [] 653633 7135204 (lw_Z below #[Value.ref b] s) (F0 m pc ls [.int 1]) := by
  intro T hT X
  obtain ⟨fs, hret, hrun, hended, hW, hframe⟩ := X.leave (v := some (.int 1)) (hlocks := hlocks) (fun h => by rw [hr] at h; cases h)
  have hmeth' : T.vm.method? m = some meth := X.method'
  refine ⟨T.setFrames fs, ?_, .returned (some (.int 1)), hrun, hended, rfl, lw_closed hd0 ⟨_, rfl⟩ hW hframe⟩
  jvm_step X.here [X.here.top, hx, hb, hdg, hmeth', hr, ret, narrow_b1]
  (try refine ⟨rfl, ?_⟩); (try refine ⟨rfl, ?_⟩)
  first | (intro acts; rw [hret _ acts rfl rfl rfl]) | rw [hret _ _ rfl rfl rfl]
  exact Steps.refl _
/-- what holds at the law's entry: the machine, the code, the tables' words (any of lw_tbl by 'hts w (by decide +kernel)'), the script of L ints xs at the cell b, what the Statement gives of the start (any of its parts by flat_of_before) -/
def lw_At (p : Program) (s : State) (m : MethodId) (meth : Method) (c : Code) (b L : Nat) (xs : Nat → Int32) : Prop :=
  p.tables.exec = Jvm.exec ∧ c.code = code ∧ meth.sig.returnType = ret ∧ c.maxLocals = 9 ∧ s.vm.findClass R_law = some m.cls ∧ (∀ w ∈ lw_tbl, w.before #[Value.ref b] s = true) ∧ va_X b L xs s s.heap ∧ b < s.heap.size ∧ meth.locks = false ∧ (Jvm.Cond.and given_1 narrow_1).before #[Value.ref b] s = true
/-! what stands at the law's loop, and small rows -/
def LA (s : State) : Nat → Prop := fun q => s.heap.size ≤ q
def LwW (s : State) (D : va_G) (cI cZ cO cL : ClassId) (aG aM : Nat → Nat) (o n np nq : Nat) (F : Nat → Nat → Int32) (th : Int32) (T : Nat → Int32) (g : Nat → Int64) (H : Heap) (locs : List Loc) : Prop := Inv n np nq F ∧ va_P D vwCl (wG cI cZ cO aG n np nq F) H ∧ va_P D vwCl (wM cI aM th n np nq F T) H ∧ va_P D vwCl [(o, .inl (cL, 1, .inr (.inl g)))] H ∧ va_S (LA s) s.heap H locs
def LwF (s : State) (D : va_G) (cI cZ cO cL : ClassId) (aG aM : Nat → Nat) (o : Nat) : Prop := va_K D vwCl (gT cI cZ cO ++ [(cL, .long)]) s ∧ inj aG 23 ∧ inj aM 8 ∧ (∀ i, i ≤ 23 → ∀ j, j ≤ 8 → ¬ aG i = aM j) ∧ (∀ i, i ≤ 23 → ¬ o = aG i) ∧ (∀ j, j ≤ 8 → ¬ o = aM j) ∧ (∀ i, i ≤ 23 → LA s (aG i)) ∧ (∀ j, j ≤ 8 → LA s (aM j)) ∧ LA s o ∧ EnvL (LA s) s ∧ EnvM (LA s) s
def LwK (p : Program) (l : Launch) (e : Env) (s : State) (m : MethodId) (below : List Frame) (meth : Method) (c : Code) (b : Nat) (D : va_G) (cI cZ cO cL : ClassId) (aG aM : Nat → Nat) (o i cc ss pc : Nat) : Prop := ∀ (n np nq : Nat) (F : Nat → Nat → Int32) (th : Int32) (T : Nat → Int32) (g : Nat → Int64) (H : Heap) (locs : List Loc) (ls : Array Slot) (d0 : Drawn), s.drawn.sameBut d0 lw_cs → LwW s D cI cZ cO cL aG aM o n np nq F th T g H locs → lv_has ls 9 [(0, .ref b), (1, .ref (aG 0)), (2, .ref (aM 0)), (3, .ref o), (4, .int (nI i))] → W p l e room_1 (s.setDrawn d0) m #[Value.ref b] below meth c H locs cc ss (lw_Z below #[Value.ref b] s) (F0 m pc ls [])
section LWR
variable {D : va_G} {cl : List vw_C} {H H1 : Heap} {cI cZ cO cL : ClassId} {ad : Nat → Nat} {n np nq : Nat} {F : Nat → Nat → Int32} {th : Int32} {T : Nat → Int32} {o : Nat} {e : va_E}
theorem M_apart (h : va_P D cl (wM cI ad th n np nq F T) H) (hi : inj ad 8) (B : Nat → Prop) (hb : ∀ j, j ≤ 8 → ¬ B (ad j)) (hk : ∀ q : Nat, q < H.size → ¬ B q → H1[q]? = H[q]?) : va_P D cl (wM cI ad th n np nq F T) H1 := h.kept (fun k q hq => by
  obtain ⟨j, hj, e⟩ := (m_D hi).2 _ _ hq
  exact hk q.1 (h k q hq).lt (by rw [e]; exact hb j hj))
theorem G_apart (h : va_P D cl (wG cI cZ cO ad n np nq F) H) (hi : inj ad 23) (B : Nat → Prop) (hb : ∀ j, j ≤ 23 → ¬ B (ad j)) (hk : ∀ q : Nat, q < H.size → ¬ B q → H1[q]? = H[q]?) : va_P D cl (wG cI cZ cO ad n np nq F) H1 := h.kept (fun k q hq => by
  obtain ⟨j, hj, e⟩ := (g_D hi).2 _ _ hq
  exact hk q.1 (h k q hq).lt (by rw [e]; exact hb j hj))
theorem O_apart (h : va_P D cl [(o, e)] H) (B : Nat → Prop) (hb : ¬ B o) (hk : ∀ q : Nat, q < H.size → ¬ B q → H1[q]? = H[q]?) : va_P D cl [(o, e)] H1 := h.kept (fun k q hq => by
  have e2 : q.1 = o := (a_D (a := o) (e := e)).2 _ _ hq
  exact hk q.1 (h k q hq).lt (by rw [e2]; exact hb))
theorem un_B {aM : Nat → Nat} (hk : ∀ q : Nat, q < H.size → ¬ inB aM 8 H.size q → H1[q]? = H[q]?) : ∀ q : Nat, q < H.size → ¬ inA aM 8 q → H1[q]? = H[q]? := fun q h1 h2 => hk q h1 (fun h => h.elim h2 (fun h3 => absurd h1 (Nat.not_lt.mpr h3)))
end LWR
theorem outG_0 {g : Nat → Int64} (sp : Nat × Int32) (h : sp.1 = 0) : outG g sp 0 = sp.2.toInt64 := by
  unfold outG
  rw [if_pos h]
  simp [vp_updL]
section LW2
variable {p : Program} {l : Launch} {e : Env} {R : Room} {s : State} {m : MethodId} {args : Array Value} {below : List Frame} {meth : Method} {c : Code} {H : Heap} {locs : List Loc} {cells slots : Nat} {Q : State → Prop}
variable {cc : ByteArray} {pc : Nat} {ls : Array Slot} {rest : List Value} {D : va_G} {cl : List vw_C} {A : Nat → Prop} {a : Nat} {tys : List (ClassId × FieldType)} {ws : va_W} {H0 : Heap}
theorem lv_lcmpS (hexec : p.tables.exec = Jvm.exec) (hb : c.code = cc) {x : Int64} (hdg : decode cc pc = .ok (.lcmp, 1)) (k : W p l e R s m args below meth c H locs cells slots Q (F0 m (pc + 1) ls (.int 0 :: rest))) : W p l e R s m args below meth c H locs cells slots Q (F0 m pc ls (.long x :: .long x :: rest)) := by
  intro T hT X
  obtain ⟨t, a, b⟩ := k T hT X
  refine ⟨t, ?_, b⟩
  jvm_step X.here [X.here.top, hexec, hb, hdg]
  simpa using a
theorem nv_sld (hx : p.tables.exec = Jvm.exec) (hb : c.code = cc) {b L : Nat} {xs : Nat → Int32} (hX : va_X b L xs s H0) (hbl : b < H0.size) (hbA : ¬ A b) (hS : va_S A H0 H locs) {j : Nat} (hj : j < L) (hL : L < 2 ^ 31) (hdg : decode cc pc = .ok (.iaload, 1)) (kk : W p l e R s m args below meth c H locs cells slots Q (F0 m (pc + 1) ls (.int (xs j) :: rest))) : W p l e R s m args below meth c H locs cells slots Q (F0 m pc ls (.int (nI j) :: .ref b :: rest)) := va_sld hx hb hX hbl hbA hS (vp_in_nI hj hL) hdg (by rw [nI_clamp (Nat.lt_trans hj hL)]; exact kk)
theorem nv_lald0 (hx : p.tables.exec = Jvm.exec) (hb : c.code = cc) (hK : va_K D cl tys s) (hP : va_P D cl ws H) (q0 t0 : Nat) {cA : ClassId} {f : Nat → Int64} (ha : ws[q0]? = some (a, .inl (cA, 1, .inr (.inl f)))) (ht : tys[t0]? = some (cA, .long)) (hdg : decode cc pc = .ok (.laload, 1)) (kk : W p l e R s m args below meth c H locs cells slots Q (F0 m (pc + 1) ls (.long (f 0) :: rest))) : W p l e R s m args below meth c H locs cells slots Q (F0 m pc ls (.int (nI 0) :: .ref a :: rest)) := va_lald hx hb hK hP q0 t0 ha ht (vp_in_nI (by decide) (by decide)) hdg kk
theorem nb_ne0 (hx : p.tables.exec = Jvm.exec) (hb : c.code = cc) {x : Int32} {tb : Bool} (ht : tb = !(x == 0)) (d1 : decode cc pc = .ok (.ifCond .eq 7, 3)) (d2 : decode cc (pc + 3) = .ok (.iconst 1, 1)) (d3 : decode cc (pc + 4) = .ok (.goto 4, 3)) (d4 : decode cc (pc + 7) = .ok (.iconst 0, 1)) (kk : W p l e R s m args below meth c H locs cells slots Q (F0 m (pc + 8) ls (.int (bI tb) :: rest))) : W p l e R s m args below meth c H locs cells slots Q (F0 m pc ls (.int x :: rest)) := by
  refine lv_if_eq (tgt := pc + 7) hx hb d1 (by omega) (fun h => ?_) (fun h => ?_)
  · have e : tb = false := by rw [ht, h]; rfl
    subst e
    exact lv_iconst (v := 0) hx hb d4 (by decide) kk
  · have e : tb = true := by rw [ht, beq_f h]; rfl
    subst e
    refine lv_iconst (v := 1) hx hb d2 (by decide) ?_
    exact lv_goto (tgt := pc + 8) hx hb d3 (by omega) kk
end LW2
theorem nI_z {k : Nat} (hk : k < 2 ^ 31) (h : nI k = 0) : k = 0 := by
  have h2 := nI_clamp hk
  rw [h] at h2
  exact h2.symm
theorem bd_lay {n : Nat} {c : Int32} : (spLay n c).1 < 2 ^ 31 := by
  unfold spLay
  repeat' split
  all_goals first | exact (by decide : (0 : Nat) < 2 ^ 31) | exact (by decide : (1 : Nat) < 2 ^ 31) | exact (by decide : (2 : Nat) < 2 ^ 31) | exact (by decide : (3 : Nat) < 2 ^ 31)
theorem bd_mark {n : Nat} {F : Nat → Nat → Int32} {s : Int32} {x : Int32} {y : Int32} {w : Int32} {h : Int32} {v : Int32} : (spMark n F s x y w h v).1 < 2 ^ 31 := by
  unfold spMark
  repeat' split
  all_goals first | exact (by decide : (0 : Nat) < 2 ^ 31) | exact (by decide : (1 : Nat) < 2 ^ 31) | exact (by decide : (2 : Nat) < 2 ^ 31) | exact (by decide : (3 : Nat) < 2 ^ 31)
theorem bd_cell {n : Nat} {F : Nat → Nat → Int32} {s : Int32} {x : Int32} {y : Int32} : (spCell n F s x y).1 < 2 ^ 31 := by
  unfold spCell
  repeat' split
  all_goals first | exact (by decide : (0 : Nat) < 2 ^ 31) | exact (by decide : (1 : Nat) < 2 ^ 31) | exact (by decide : (2 : Nat) < 2 ^ 31) | exact (by decide : (3 : Nat) < 2 ^ 31)
theorem bd_skin {n : Nat} {F : Nat → Nat → Int32} {s : Int32} {w : Int32} : (spSkin n F s w).1 < 2 ^ 31 := by
  unfold spSkin
  repeat' split
  all_goals first | exact (by decide : (0 : Nat) < 2 ^ 31) | exact (by decide : (1 : Nat) < 2 ^ 31) | exact (by decide : (2 : Nat) < 2 ^ 31) | exact (by decide : (3 : Nat) < 2 ^ 31)
theorem bd_cut {n : Nat} {np : Nat} {F : Nat → Nat → Int32} {s : Int32} {k : Int32} {tb : Bool} {x : Int32} {y : Int32} : (spCut n np F s k tb x y).1 < 2 ^ 31 := by
  unfold spCut
  repeat' split
  all_goals first | exact (by decide : (0 : Nat) < 2 ^ 31) | exact (by decide : (1 : Nat) < 2 ^ 31) | exact (by decide : (2 : Nat) < 2 ^ 31) | exact (by decide : (3 : Nat) < 2 ^ 31)
theorem bd_place {n : Nat} {F : Nat → Nat → Int32} {s : Int32} {k : Int32} {tb : Bool} : (spPlace n F s k tb).1 < 2 ^ 31 := by
  unfold spPlace
  repeat' split
  all_goals first | exact (by decide : (0 : Nat) < 2 ^ 31) | exact (by decide : (1 : Nat) < 2 ^ 31) | exact (by decide : (2 : Nat) < 2 ^ 31) | exact (by decide : (3 : Nat) < 2 ^ 31)
theorem bd_piece {np : Nat} {F : Nat → Nat → Int32} {p : Int32} {w : Int32} : (spPiece np F p w).1 < 2 ^ 31 := by
  unfold spPiece
  repeat' split
  all_goals first | exact (by decide : (0 : Nat) < 2 ^ 31) | exact (by decide : (1 : Nat) < 2 ^ 31) | exact (by decide : (2 : Nat) < 2 ^ 31) | exact (by decide : (3 : Nat) < 2 ^ 31)
theorem bd_sew {n : Nat} {np : Nat} {nq : Nat} {F : Nat → Nat → Int32} {c : Int32} : (spSew n np nq F c).1 < 2 ^ 31 := by
  unfold spSew
  repeat' split
  all_goals first | exact (by decide : (0 : Nat) < 2 ^ 31) | exact (by decide : (1 : Nat) < 2 ^ 31) | exact (by decide : (2 : Nat) < 2 ^ 31) | exact (by decide : (3 : Nat) < 2 ^ 31)
theorem bd_rip {np : Nat} {nq : Nat} {F : Nat → Nat → Int32} {q : Int32} : (spRip np nq F q).1 < 2 ^ 31 := by
  unfold spRip
  repeat' split
  all_goals first | exact (by decide : (0 : Nat) < 2 ^ 31) | exact (by decide : (1 : Nat) < 2 ^ 31) | exact (by decide : (2 : Nat) < 2 ^ 31) | exact (by decide : (3 : Nat) < 2 ^ 31)
theorem bd_pair {nq : Nat} {F : Nat → Nat → Int32} {p : Int32} {w : Int32} : (spPair nq F p w).1 < 2 ^ 31 := by
  unfold spPair
  repeat' split
  all_goals first | exact (by decide : (0 : Nat) < 2 ^ 31) | exact (by decide : (1 : Nat) < 2 ^ 31) | exact (by decide : (2 : Nat) < 2 ^ 31) | exact (by decide : (3 : Nat) < 2 ^ 31)
theorem bd_count {n : Nat} {np : Nat} {nq : Nat} {F : Nat → Nat → Int32} {w : Int32} : (spCount n np nq F w).1 < 2 ^ 31 := by
  unfold spCount
  repeat' split
  all_goals first | exact (by decide : (0 : Nat) < 2 ^ 31) | exact (by decide : (1 : Nat) < 2 ^ 31) | exact (by decide : (2 : Nat) < 2 ^ 31) | exact (by decide : (3 : Nat) < 2 ^ 31)
theorem bd_gives {n : Nat} {F : Nat → Nat → Int32} {s : Int32} {k : Int32} {tb : Bool} : (spGives n F s k tb).1 < 2 ^ 31 := by
  unfold spGives
  repeat' split
  all_goals first | exact (by decide : (0 : Nat) < 2 ^ 31) | exact (by decide : (1 : Nat) < 2 ^ 31) | exact (by decide : (2 : Nat) < 2 ^ 31) | exact (by decide : (3 : Nat) < 2 ^ 31)
theorem bd_best {n : Nat} {F : Nat → Nat → Int32} {k : Int32} {tb : Bool} : (spBest n F k tb).1 < 2 ^ 31 := by
  unfold spBest
  repeat' split
  all_goals first | exact (by decide : (0 : Nat) < 2 ^ 31) | exact (by decide : (1 : Nat) < 2 ^ 31) | exact (by decide : (2 : Nat) < 2 ^ 31) | exact (by decide : (3 : Nat) < 2 ^ 31)
theorem bd_lacks {n : Nat} {np : Nat} {F : Nat → Nat → Int32} {c : Int32} {k : Int32} : (spLacks n np F c k).1 < 2 ^ 31 := by
  unfold spLacks
  repeat' split
  all_goals first | exact (by decide : (0 : Nat) < 2 ^ 31) | exact (by decide : (1 : Nat) < 2 ^ 31) | exact (by decide : (2 : Nat) < 2 ^ 31) | exact (by decide : (3 : Nat) < 2 ^ 31)
theorem bd_pairs {n : Nat} {np : Nat} {F : Nat → Nat → Int32} {c : Int32} : (spPairs n np F c).1 < 2 ^ 31 := by
  unfold spPairs
  repeat' split
  all_goals first | exact (by decide : (0 : Nat) < 2 ^ 31) | exact (by decide : (1 : Nat) < 2 ^ 31) | exact (by decide : (2 : Nat) < 2 ^ 31) | exact (by decide : (3 : Nat) < 2 ^ 31)
theorem two_lay {cI cZ cO : ClassId} {aG aM : Nat → Nat} {n np nq : Nat} {F : Nat → Nat → Int32} (hI : Inv n np nq F) (c : Int32) : ∃ (n2 np2 nq2 : Nat) (F2 : Nat → Nat → Int32), Inv n2 np2 nq2 F2 ∧ (if (spLay n c).1 = 0 then wG cI cZ cO aG (n + 1) np nq (layF F n c) else wG cI cZ cO aG n np nq F) = wG cI cZ cO aG n2 np2 nq2 F2 ∧ ∀ T : Nat → Int32, (if (spLay n c).1 = 0 then wM cI aM (nI 0) (n + 1) np nq (layF F n c) T else wM cI aM (nI (spLay n c).1) n np nq F T) = wM cI aM (nI (spLay n c).1) n2 np2 nq2 F2 T := by
  by_cases h0 : (spLay n c).1 = 0
  · exact ⟨(n + 1), np, nq, (layF F n c), Inv_lay hI h0, if_pos h0, fun T => by rw [if_pos h0, h0]⟩
  · exact ⟨n, np, nq, F, hI, if_neg h0, fun T => if_neg h0⟩
theorem two_mark {cI cZ cO : ClassId} {aG aM : Nat → Nat} {n np nq : Nat} {F : Nat → Nat → Int32} (hI : Inv n np nq F) (s x y w h v : Int32) : ∃ (n2 np2 nq2 : Nat) (F2 : Nat → Nat → Int32), Inv n2 np2 nq2 F2 ∧ (if (spMark n F s x y w h v).1 = 0 then wG cI cZ cO aG n np nq (stMark F s x y w h v) else wG cI cZ cO aG n np nq F) = wG cI cZ cO aG n2 np2 nq2 F2 ∧ ∀ T : Nat → Int32, (if (spMark n F s x y w h v).1 = 0 then wM cI aM (nI 0) n np nq (stMark F s x y w h v) T else wM cI aM (nI (spMark n F s x y w h v).1) n np nq F T) = wM cI aM (nI (spMark n F s x y w h v).1) n2 np2 nq2 F2 T := by
  by_cases h0 : (spMark n F s x y w h v).1 = 0
  · exact ⟨n, np, nq, (stMark F s x y w h v), Inv_mark hI h0, if_pos h0, fun T => by rw [if_pos h0, h0]⟩
  · exact ⟨n, np, nq, F, hI, if_neg h0, fun T => if_neg h0⟩
theorem two_cut {cI cZ cO : ClassId} {aG aM : Nat → Nat} {n np nq : Nat} {F : Nat → Nat → Int32} (hI : Inv n np nq F) (s k : Int32) (tb : Bool) (x y : Int32) : ∃ (n2 np2 nq2 : Nat) (F2 : Nat → Nat → Int32), Inv n2 np2 nq2 F2 ∧ (if (spCut n np F s k tb x y).1 = 0 then wG cI cZ cO aG n (np + 1) nq (stCut F np s k tb x y) else wG cI cZ cO aG n np nq F) = wG cI cZ cO aG n2 np2 nq2 F2 ∧ ∀ T : Nat → Int32, (if (spCut n np F s k tb x y).1 = 0 then wM cI aM (nI 0) n (np + 1) nq (stCut F np s k tb x y) T else wM cI aM (nI (spCut n np F s k tb x y).1) n np nq F T) = wM cI aM (nI (spCut n np F s k tb x y).1) n2 np2 nq2 F2 T := by
  by_cases h0 : (spCut n np F s k tb x y).1 = 0
  · exact ⟨n, (np + 1), nq, (stCut F np s k tb x y), Inv_cut hI h0, if_pos h0, fun T => by rw [if_pos h0, h0]⟩
  · exact ⟨n, np, nq, F, hI, if_neg h0, fun T => if_neg h0⟩
theorem two_sew {cI cZ cO : ClassId} {aG aM : Nat → Nat} {n np nq : Nat} {F : Nat → Nat → Int32} (hI : Inv n np nq F) (c : Int32) : ∃ (n2 np2 nq2 : Nat) (F2 : Nat → Nat → Int32), Inv n2 np2 nq2 F2 ∧ (if (spSew n np nq F c).1 = 0 then wG cI cZ cO aG n np (nq + 1) (swF F n np nq c) else wG cI cZ cO aG n np nq F) = wG cI cZ cO aG n2 np2 nq2 F2 ∧ ∀ T : Nat → Int32, (if (spSew n np nq F c).1 = 0 then wM cI aM (nI 0) n np (nq + 1) (swF F n np nq c) T else wM cI aM (nI (spSew n np nq F c).1) n np nq F T) = wM cI aM (nI (spSew n np nq F c).1) n2 np2 nq2 F2 T := by
  by_cases h0 : (spSew n np nq F c).1 = 0
  · exact ⟨n, np, (nq + 1), (swF F n np nq c), Inv_sew hI h0, if_pos h0, fun T => by rw [if_pos h0, h0]⟩
  · exact ⟨n, np, nq, F, hI, if_neg h0, fun T => if_neg h0⟩
theorem two_rip {cI cZ cO : ClassId} {aG aM : Nat → Nat} {n np nq : Nat} {F : Nat → Nat → Int32} (hI : Inv n np nq F) (q : Int32) : ∃ (n2 np2 nq2 : Nat) (F2 : Nat → Nat → Int32), Inv n2 np2 nq2 F2 ∧ (if (spRip np nq F q).1 = 0 then wG cI cZ cO aG n np nq (ripF F np (cl q)) else wG cI cZ cO aG n np nq F) = wG cI cZ cO aG n2 np2 nq2 F2 ∧ ∀ T : Nat → Int32, (if (spRip np nq F q).1 = 0 then wM cI aM (nI 0) n np nq (ripF F np (cl q)) T else wM cI aM (nI (spRip np nq F q).1) n np nq F T) = wM cI aM (nI (spRip np nq F q).1) n2 np2 nq2 F2 T := by
  by_cases h0 : (spRip np nq F q).1 = 0
  · exact ⟨n, np, nq, (ripF F np (cl q)), Inv_rip hI h0, if_pos h0, fun T => by rw [if_pos h0, h0]⟩
  · exact ⟨n, np, nq, F, hI, if_neg h0, fun T => if_neg h0⟩
theorem nan_iff {a : UInt64} : isNaN64 a = true ↔ FP.Core.val64 a = .nan := by
  rw [isNaN64_iff, ← FP.Core.dIsNaN_iff, FP.Core.isNaN_bits, show (0x7fffffffffffffff : Nat) = 2 ^ 63 - 1 from by decide, Nat.and_two_pow_sub_one_eq_mod]
theorem al_two {r0 r1 x : UInt64} (h0 : alike64 r0 x = true) (h1 : alike64 r1 x = true) : Op.cmpValue (FP.dcmp r0 r1) CmpOp.l = 0 ∨ (¬ Op.cmpValue (FP.dcmp r0 r0) CmpOp.l = 0 ∧ ¬ Op.cmpValue (FP.dcmp r1 r1) CmpOp.l = 0) := by
  have hn : ∀ a : UInt64, isNaN64 a = true → ¬ Op.cmpValue (FP.dcmp a a) CmpOp.l = 0 := fun a h => by
    rw [show FP.dcmp a a = none from (FP.Core.dcmp_none a a).mpr (Or.inl (nan_iff.mp h))]
    decide
  unfold alike64 at h0 h1
  simp only [Bool.or_eq_true, Bool.and_eq_true, decide_eq_true_eq] at h0 h1
  by_cases hx : isNaN64 x = true
  · right
    refine ⟨hn _ ?_, hn _ ?_⟩
    · rcases h0 with h | h
      · rw [h]; exact hx
      · exact h.1
    · rcases h1 with h | h
      · rw [h]; exact hx
      · exact h.1
  · left
    have e0 : r0 = x := h0.elim id (fun h => absurd h.2 hx)
    have e1 : r1 = x := h1.elim id (fun h => absurd h.2 hx)
    rw [e0, e1, show FP.dcmp x x = some .eq from FP.Core.dcmp_self (fun q => hx (nan_iff.mpr q))]
    rfl
