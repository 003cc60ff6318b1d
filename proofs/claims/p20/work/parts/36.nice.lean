/-! what does not look at the trial row -/
def GW (D : va_G) (cI cZ cO : ClassId) (ad : Nat → Nat) (n np nq : Nat) (F : Nat → Nat → Int32) (H : Heap) : Prop := ∃ u, va_P D vwCl (wG cI cZ cO ad n np nq (va_up F 13 u)) H
def PrG (D : va_G) (cI cZ cO : ClassId) (ad : Nat → Nat) (n np nq : Nat) (F : Nat → Nat → Int32) (V : State → Prop) (U : State) : Prop := GW D cI cZ cO ad n np nq F U.heap ∧ va_K D vwCl (gT cI cZ cO) U ∧ V U
theorem vup2 (F : Nat → Nat → Int32) (u v : Nat → Int32) : va_up (va_up F 13 u) 13 v = va_up F 13 v := by
  funext j
  unfold va_up
  split <;> rfl
theorem GW.of {D : va_G} {cI cZ cO : ClassId} {ad : Nat → Nat} {n np nq : Nat} {F : Nat → Nat → Int32} {H : Heap} (h : va_P D vwCl (wG cI cZ cO ad n np nq F) H) : GW D cI cZ cO ad n np nq F H := ⟨F 13, by rw [va_up_id]; exact h⟩
theorem GW.put {D : va_G} {cI cZ cO : ClassId} {ad : Nat → Nat} {n np nq : Nat} {F : Nat → Nat → Int32} {H H1 : Heap} (h : GW D cI cZ cO ad n np nq F H) (hi : inj ad 23) {a z : Nat} (hz : ∀ i, i ≤ 23 → ad i < z) (ha : z ≤ a) (hk : ∀ q : Nat, q ≠ a → H1[q]? = H[q]?) : GW D cI cZ cO ad n np nq F H1 := ⟨h.choose, G_put h.choose_spec hi hz ha hk⟩
theorem GW.new {D : va_G} {cI cZ cO : ClassId} {ad : Nat → Nat} {n np nq : Nat} {F : Nat → Nat → Int32} {H H1 : Heap} (h : GW D cI cZ cO ad n np nq F H) (hk : ∀ q : Nat, q < H.size → H1[q]? = H[q]?) : GW D cI cZ cO ad n np nq F H1 := ⟨h.choose, P_new h.choose_spec hk⟩
theorem GW.kept {D : va_G} {cI cZ cO : ClassId} {ad : Nat → Nat} {n np nq : Nat} {F : Nat → Nat → Int32} {H H1 : Heap} (h : GW D cI cZ cO ad n np nq F H) (hk : ∀ q : Nat, q < H.size → ¬ False → H1[q]? = H[q]?) : GW D cI cZ cO ad n np nq F H1 := ⟨h.choose, P_kept h.choose_spec hk⟩
theorem GW.lt {D : va_G} {cI cZ cO : ClassId} {ad : Nat → Nat} {n np nq : Nat} {F : Nat → Nat → Int32} {H : Heap} (h : GW D cI cZ cO ad n np nq F H) {i : Nat} (hi : i ≤ 23) : ad i < H.size := g_lt h.choose_spec ⟨i, hi, rfl⟩
theorem prG_V {s : State} {H : Heap} {D : va_G} {cI cZ cO : ClassId} {ad : Nat → Nat} {n np nq : Nat} {F : Nat → Nat → Int32} {V : State → Prop} {av : List Value} (hG : GW D cI cZ cO ad n np nq F H) (hK : va_K D vwCl (gT cI cZ cO) s) (hV : ∀ U : State, U.heap = H → s.WarmedH U.vm → V U) (hB : ∀ (U : State) (g : JFrame) (mk : MethodId) (a : Array Value), V U → V (U.calling g mk a)) : PreV s H RX0 (ad 0) (va_Pc (.ref (ad 0) :: av) (PrG D cI cZ cO ad n np nq F V)) av :=
  ⟨fun a U g mk q => ⟨q.1, q.2.1, va_K.moved (u := U) (U := U.calling g mk a) (Vm.Alike.refl U.vm) q.2.2.1, hB U g mk a q.2.2.2⟩, va_recv hK hG.choose_spec (ci := 0) (q0 := 0) rfl g_at0, fun U hU hW => ⟨rfl, by rw [hU]; exact hG, va_K.moved hW.alike hK, hV U hU hW⟩⟩
theorem prG_S {s : State} {H : Heap} {D : va_G} {cI cZ cO : ClassId} {ad : Nat → Nat} {n np nq : Nat} {F : Nat → Nat → Int32} {V : State → Prop} {av : List Value} (hG : GW D cI cZ cO ad n np nq F H) (hK : va_K D vwCl (gT cI cZ cO) s) (hV : ∀ U : State, U.heap = H → s.WarmedH U.vm → V U) (hB : ∀ (U : State) (g : JFrame) (mk : MethodId) (a : Array Value), V U → V (U.calling g mk a)) : PreS s H (va_Pc av (PrG D cI cZ cO ad n np nq F V)) av :=
  ⟨fun a U g mk q => ⟨q.1, q.2.1, va_K.moved (u := U) (U := U.calling g mk a) (Vm.Alike.refl U.vm) q.2.2.1, hB U g mk a q.2.2.2⟩, fun U hU hW => ⟨rfl, by rw [hU]; exact hG, va_K.moved hW.alike hK, hV U hU hW⟩⟩
section TR
variable (F : Nat → Nat → Int32) (u : Nat → Int32)
theorem e13 (k : Nat) (h : ¬ k = 13) : va_up F 13 u k = F k := va_up_ne _ _ h
theorem tS_T (s : Nat) (v : Int32) : tS (va_up F 13 u) s v = tS F s v := by unfold tS; rw [e13 F u _ (by omega)]
theorem skT_T (s w : Nat) : skT (va_up F 13 u) s w = skT F s w := by
  unfold skT
  rw [tS_T, tS_T, tS_T, tS_T, e13 F u 1 (by decide), e13 F u 2 (by decide)]
theorem pcT_T (p : Nat) {w : Nat} (h : w < 4) : pcT (va_up F 13 u) p w = pcT F p w := by unfold pcT; rw [e13 F u _ (by omega)]
theorem prT_T (q : Nat) {w : Nat} (h : w < 5) : prT (va_up F 13 u) q w = prT F q w := by unfold prT; rw [e13 F u _ (by omega)]
theorem cnT_T (n np nq w : Nat) : cnT n np nq (va_up F 13 u) w = cnT n np nq F w := by
  unfold cnT pAt pUse
  rw [e13 F u 6 (by decide), e13 F u 12 (by decide)]
theorem fT_T (np s : Nat) : fT (va_up F 13 u) np s = fT F np s := by
  unfold fT isT
  rw [e13 F u 6 (by decide), e13 F u 5 (by decide), e13 F u 4 (by decide)]
theorem fC_T (np : Nat) (c k : Int32) : fC (va_up F 13 u) np c k = fC F np c k := by
  unfold fC isF
  rw [e13 F u 6 (by decide), e13 F u 5 (by decide), e13 F u 1 (by decide), e13 F u 4 (by decide)]
theorem mxT_T (np : Nat) (c : Int32) : ∀ s, mxT (va_up F 13 u) np c s = mxT F np c s
  | 0 => rfl
  | s + 1 => by rw [mxT, mxT, mxT_T np c s, fT_T, e13 F u 1 (by decide)]
theorem tP_T (np : Nat) (c : Int32) : ∀ s, tP (va_up F 13 u) np c s = tP F np c s
  | 0 => rfl
  | s + 1 => by rw [tP, tP, tP_T np c s, fT_T, e13 F u 1 (by decide)]
theorem lkN_T (n np : Nat) (c : Int32) (k : Nat) : lkN (va_up F 13 u) n np c k = lkN F n np c k := by unfold lkN; rw [mxT_T, fC_T]
theorem prN_T (n np : Nat) (c : Int32) : ∀ k, prN (va_up F 13 u) n np c k = prN F n np c k
  | 0 => tP_T F u np c n
  | k + 1 => by rw [prN, prN, prN_T n np c k, fC_T]
theorem gvT_T (k : Nat) (tb : Bool) (s : Nat) : gvT (va_up F 13 u) k tb s = gvT F k tb s := by unfold gvT; rw [e13 F u _ (by omega)]
theorem shC_T : ∀ s, shC (va_up F 13 u) s = shC F s
  | 0 => rfl
  | s + 1 => by rw [shC, shC, shC_T s, tS_T]
theorem shA_T : ∀ s, shA (va_up F 13 u) s = shA F s
  | 0 => rfl
  | s + 1 => by rw [shA, shA, shA_T s, tS_T]
theorem shV_T (n : Nat) : shV (va_up F 13 u) n = shV F n := by unfold shV; rw [shA_T, shC_T]
theorem dS_cong {g g' : Nat → Int32} {d : Int64} : ∀ {k : Nat}, (∀ j, j < k → g j = g' j) → dS g d k = dS g' d k
  | 0, _ => rfl
  | k + 1, h => by rw [dS, dS, dS_cong (fun j hj => h j (by omega)), h k (by omega)]
theorem dK_T (d : Int64) : ∀ s, dK (va_up F 13 u) d s = dK F d s
  | 0 => rfl
  | s + 1 => by rw [dK, dK, dK_T d s, e13 F u _ (by omega), show skT (va_up F 13 u) s = skT F s from funext (skT_T F u s)]
theorem dP_T (d : Int64) : ∀ s, dP (va_up F 13 u) d s = dP F d s
  | 0 => rfl
  | s + 1 => by rw [dP, dP, dP_T d s]; exact dS_cong (fun j hj => pcT_T F u s hj)
theorem dQ_T (d : Int64) : ∀ s, dQ (va_up F 13 u) d s = dQ F d s
  | 0 => rfl
  | s + 1 => by rw [dQ, dQ, dQ_T d s]; exact dS_cong (fun j hj => prT_T F u s hj)
theorem dG_T (n np nq : Nat) : dG n np nq (va_up F 13 u) = dG n np nq F := by
  unfold dG
  rw [dQ_T, dP_T, dK_T, show cnT n np nq (va_up F 13 u) = cnT n np nq F from funext (cnT_T F u n np nq)]
theorem K1_T {n : Nat} {F : Nat → Nat → Int32} (u : Nat → Int32) (h : K1 n F) : K1 n (va_up F 13 u) := ⟨Inv_T h.1 u, fun s hs q hq => by rw [e13 F u _ (by omega)]; exact h.2 s hs q hq⟩
end TR

set_option maxHeartbeats 1000000 in
theorem n_count (l : Launch) (hst : l.stackTraces = false) (D : va_G) (cI cZ cO : ClassId) (ad : Nat → Nat) (n np nq : Nat) (F : Nat → Nat → Int32) (w : Nat) (hJ : J n np nq F) (hw : w < 7) : Met l yX0_count wsX0_count ({ frames := 7, cells := 1, slots := 6, locals := 103 } : Room) (va_Pc [.ref (ad 0), .int (nI w)] (PrG D cI cZ cO ad n np nq F (EnvG (fun _ => False)))) (va_Qi (S := Unit) (fun (r : Int32) (_ : Unit) => r = cnT n np nq F w) (fun _ _ => True) (fun _ => False)) 1 6 (fun _ => False) := by
  refine met_weak (fun a st h => ?_)
  obtain ⟨ha, ⟨u, hP⟩, hK, hV⟩ := h
  have hs : spCount n np nq (va_up F 13 u) (nI w) = (0, cnT n np nq (va_up F 13 u) w) := spCount_y hw
  refine ⟨_, _, ⟨ha, hP, hK, hV⟩, vx_plain (c_X0_count l hst D cI cZ cO ad n np nq (va_up F 13 u) (nI w) (J_T hJ u).inv.2.1 (J_T hJ u).inv.2.2.1) (fun E s9 t9 ⟨u9, _, hB, _⟩ => ?_), fun o t hq => ?_⟩
  · exact absurd (congrArg Prod.fst (hs.symm.trans hB.2)) (show ¬ (0 : Nat) = 1 by decide)
  · obtain ⟨⟨r, u2, ho, hr, hB⟩, hF⟩ := hq
    exact ⟨⟨r, (), ho, ((congrArg Prod.snd (hs.symm.trans hr)).symm.trans (cnT_T F u n np nq w)), trivial⟩, hF⟩
set_option maxHeartbeats 1000000 in
theorem n_skin (l : Launch) (hst : l.stackTraces = false) (D : va_G) (cI cZ cO : ClassId) (ad : Nat → Nat) (n np nq : Nat) (F : Nat → Nat → Int32) (s w : Nat) (hJ : J n np nq F) (hs1 : s < n) (hw : w < 6) : Met l yX0_skin wsX0_skin ({ frames := 7, cells := 2, slots := 12, locals := 103 } : Room) (va_Pc [.ref (ad 0), .int (nI s), .int (nI w)] (PrG D cI cZ cO ad n np nq F (EnvG (fun _ => False)))) (va_Qi (S := Unit) (fun (r : Int32) (_ : Unit) => r = skT F s w) (fun _ _ => True) (fun _ => False)) 2 12 (fun _ => False) := by
  refine met_weak (fun a st h => ?_)
  obtain ⟨ha, ⟨u, hP⟩, hK, hV⟩ := h
  have hs : spSkin n (va_up F 13 u) (nI s) (nI w) = (0, skT (va_up F 13 u) s w) := spSkin_y hJ.inv.1 hs1 hw
  refine ⟨_, _, ⟨ha, hP, hK, hV⟩, vx_plain (c_X0_skin l hst D cI cZ cO ad n np nq (va_up F 13 u) (nI s) (nI w) (J_T hJ u).inv.1) (fun E s9 t9 ⟨u9, _, hB, _⟩ => ?_), fun o t hq => ?_⟩
  · exact absurd (congrArg Prod.fst (hs.symm.trans hB.2)) (show ¬ (0 : Nat) = 1 by decide)
  · obtain ⟨⟨r, u2, ho, hr, hB⟩, hF⟩ := hq
    exact ⟨⟨r, (), ho, ((congrArg Prod.snd (hs.symm.trans hr)).symm.trans (skT_T F u s w)), trivial⟩, hF⟩
set_option maxHeartbeats 1000000 in
theorem n_piece (l : Launch) (hst : l.stackTraces = false) (D : va_G) (cI cZ cO : ClassId) (ad : Nat → Nat) (n np nq : Nat) (F : Nat → Nat → Int32) (p w : Nat) (hJ : J n np nq F) (hp : p < np) (hw : w < 4) : Met l yX0_piece wsX0_piece ({ frames := 7, cells := 2, slots := 12, locals := 103 } : Room) (va_Pc [.ref (ad 0), .int (nI p), .int (nI w)] (PrG D cI cZ cO ad n np nq F (EnvG (fun _ => False)))) (va_Qi (S := Unit) (fun (r : Int32) (_ : Unit) => r = pcT F p w) (fun _ _ => True) (fun _ => False)) 2 12 (fun _ => False) := by
  refine met_weak (fun a st h => ?_)
  obtain ⟨ha, ⟨u, hP⟩, hK, hV⟩ := h
  have hs : spPiece np (va_up F 13 u) (nI p) (nI w) = (0, pcT (va_up F 13 u) p w) := spPiece_y hJ.inv.2.1 hp hw
  refine ⟨_, _, ⟨ha, hP, hK, hV⟩, vx_plain (c_X0_piece l hst D cI cZ cO ad n np nq (va_up F 13 u) (nI p) (nI w) (J_T hJ u).inv.2.1) (fun E s9 t9 ⟨u9, _, hB, _⟩ => ?_), fun o t hq => ?_⟩
  · exact absurd (congrArg Prod.fst (hs.symm.trans hB.2)) (show ¬ (0 : Nat) = 1 by decide)
  · obtain ⟨⟨r, u2, ho, hr, hB⟩, hF⟩ := hq
    exact ⟨⟨r, (), ho, ((congrArg Prod.snd (hs.symm.trans hr)).symm.trans (pcT_T F u p hw)), trivial⟩, hF⟩
set_option maxHeartbeats 1000000 in
theorem n_pair (l : Launch) (hst : l.stackTraces = false) (D : va_G) (cI cZ cO : ClassId) (ad : Nat → Nat) (n np nq : Nat) (F : Nat → Nat → Int32) (q w : Nat) (hJ : J n np nq F) (hq1 : q < nq) (hw : w < 5) : Met l yX0_pair wsX0_pair ({ frames := 7, cells := 2, slots := 12, locals := 103 } : Room) (va_Pc [.ref (ad 0), .int (nI q), .int (nI w)] (PrG D cI cZ cO ad n np nq F (EnvG (fun _ => False)))) (va_Qi (S := Unit) (fun (r : Int32) (_ : Unit) => r = prT F q w) (fun _ _ => True) (fun _ => False)) 2 12 (fun _ => False) := by
  refine met_weak (fun a st h => ?_)
  obtain ⟨ha, ⟨u, hP⟩, hK, hV⟩ := h
  have hs : spPair nq (va_up F 13 u) (nI q) (nI w) = (0, prT (va_up F 13 u) q w) := spPair_y hJ.inv.2.2.1 hq1 hw
  refine ⟨_, _, ⟨ha, hP, hK, hV⟩, vx_plain (c_X0_pair l hst D cI cZ cO ad n np nq (va_up F 13 u) (nI q) (nI w) (J_T hJ u).inv.2.2.1 (J_T hJ u).inv.2.2.2.2.1) (fun E s9 t9 ⟨u9, _, hB, _⟩ => ?_), fun o t hq => ?_⟩
  · exact absurd (congrArg Prod.fst (hs.symm.trans hB.2)) (show ¬ (0 : Nat) = 1 by decide)
  · obtain ⟨⟨r, u2, ho, hr, hB⟩, hF⟩ := hq
    exact ⟨⟨r, (), ho, ((congrArg Prod.snd (hs.symm.trans hr)).symm.trans (prT_T F u q hw)), trivial⟩, hF⟩
set_option maxHeartbeats 1000000 in
theorem n_cell (l : Launch) (hst : l.stackTraces = false) (D : va_G) (cI cZ cO : ClassId) (ad : Nat → Nat) (n np nq : Nat) (F : Nat → Nat → Int32) (s x y : Nat) (hJ : J n np nq F) (hs1 : s < n) (hx1 : x < 12) (hy1 : y < 8) : Met l yX0_cell wsX0_cell ({ frames := 7, cells := 2, slots := 12, locals := 103 } : Room) (va_Pc [.ref (ad 0), .int (nI s), .int (nI x), .int (nI y)] (PrG D cI cZ cO ad n np nq F (EnvG (fun _ => False)))) (va_Qi (S := Unit) (fun (r : Int32) (_ : Unit) => r = F (14 + s) (12 * y + x)) (fun _ _ => True) (fun _ => False)) 2 12 (fun _ => False) := by
  refine met_weak (fun a st h => ?_)
  obtain ⟨ha, ⟨u, hP⟩, hK, hV⟩ := h
  have hs : spCell n (va_up F 13 u) (nI s) (nI x) (nI y) = (0, (va_up F 13 u) (14 + s) (12 * y + x)) := spCell_y hJ.inv.1 hs1 hx1 hy1
  refine ⟨_, _, ⟨ha, hP, hK, hV⟩, vx_plain (c_X0_cell l hst D cI cZ cO ad n np nq (va_up F 13 u) (nI s) (nI x) (nI y) (J_T hJ u).inv.1) (fun E s9 t9 ⟨u9, _, hB, _⟩ => ?_), fun o t hq => ?_⟩
  · exact absurd (congrArg Prod.fst (hs.symm.trans hB.2)) (show ¬ (0 : Nat) = 1 by decide)
  · obtain ⟨⟨r, u2, ho, hr, hB⟩, hF⟩ := hq
    exact ⟨⟨r, (), ho, ((congrArg Prod.snd (hs.symm.trans hr)).symm.trans (by rw [e13 F u _ (by omega)])), trivial⟩, hF⟩
set_option maxHeartbeats 1000000 in
theorem n_lacks (l : Launch) (hst : l.stackTraces = false) (D : va_G) (cI cZ cO : ClassId) (ad : Nat → Nat) (n np nq : Nat) (F : Nat → Nat → Int32) (cc k : Nat) (hJ : J n np nq F) (hc1 : cc < 6) (hk1 : k < 4) : Met l yX0_lacks wsX0_lacks ({ frames := 7, cells := 2, slots := 12, locals := 102 } : Room) (va_Pc [.ref (ad 0), .int (nI cc), .int (nI k)] (PrG D cI cZ cO ad n np nq F (EnvG (fun _ => False)))) (va_Qi (S := Unit) (fun (r : Int32) (_ : Unit) => r = nI (lkN F n np (nI cc) k)) (fun _ _ => True) (fun _ => False)) 2 12 (fun _ => False) := by
  refine met_weak (fun a st h => ?_)
  obtain ⟨ha, ⟨u, hP⟩, hK, hV⟩ := h
  have hs : spLacks n np (va_up F 13 u) (nI cc) (nI k) = (0, nI (lkN (va_up F 13 u) n np (nI cc) k)) := spLacks_y (inR_in hc1 (by omega)) hk1
  refine ⟨_, _, ⟨ha, hP, hK, hV⟩, vx_plain (c_X0_lacks l hst D cI cZ cO ad n np nq (va_up F 13 u) (nI cc) (nI k) (J_T hJ u).inv.1 (J_T hJ u).inv.2.1 (J_T hJ u).inv.2.2.2.1) (fun E s9 t9 ⟨u9, _, hB, _⟩ => ?_), fun o t hq => ?_⟩
  · exact absurd (congrArg Prod.fst (hs.symm.trans hB.2)) (show ¬ (0 : Nat) = 1 by decide)
  · obtain ⟨⟨r, u2, ho, hr, hB⟩, hF⟩ := hq
    exact ⟨⟨r, (), ho, ((congrArg Prod.snd (hs.symm.trans hr)).symm.trans (congrArg nI (lkN_T F u n np (nI cc) k))), trivial⟩, hF⟩
set_option maxHeartbeats 1000000 in
theorem n_pairs (l : Launch) (hst : l.stackTraces = false) (D : va_G) (cI cZ cO : ClassId) (ad : Nat → Nat) (n np nq : Nat) (F : Nat → Nat → Int32) (cc : Nat) (hJ : J n np nq F) (hc1 : cc < 6) : Met l yX0_pairs wsX0_pairs ({ frames := 7, cells := 1, slots := 6, locals := 102 } : Room) (va_Pc [.ref (ad 0), .int (nI cc)] (PrG D cI cZ cO ad n np nq F (EnvG (fun _ => False)))) (va_Qi (S := Unit) (fun (r : Int32) (_ : Unit) => r = nI (prN F n np (nI cc) 3)) (fun _ _ => True) (fun _ => False)) 1 6 (fun _ => False) := by
  refine met_weak (fun a st h => ?_)
  obtain ⟨ha, ⟨u, hP⟩, hK, hV⟩ := h
  have hs : spPairs n np (va_up F 13 u) (nI cc) = (0, nI (prN (va_up F 13 u) n np (nI cc) 3)) := spPairs_y (inR_in hc1 (by omega))
  refine ⟨_, _, ⟨ha, hP, hK, hV⟩, vx_plain (c_X0_pairs l hst D cI cZ cO ad n np nq (va_up F 13 u) (nI cc) (J_T hJ u).inv.1 (J_T hJ u).inv.2.1 (J_T hJ u).inv.2.2.2.1) (fun E s9 t9 ⟨u9, _, hB, _⟩ => ?_), fun o t hq => ?_⟩
  · exact absurd (congrArg Prod.fst (hs.symm.trans hB.2)) (show ¬ (0 : Nat) = 1 by decide)
  · obtain ⟨⟨r, u2, ho, hr, hB⟩, hF⟩ := hq
    exact ⟨⟨r, (), ho, ((congrArg Prod.snd (hs.symm.trans hr)).symm.trans (congrArg nI (prN_T F u n np (nI cc) 3))), trivial⟩, hF⟩
set_option maxHeartbeats 1000000 in
theorem n_place (l : Launch) (hst : l.stackTraces = false) (D : va_G) (cI cZ cO : ClassId) (ad : Nat → Nat) (n np nq : Nat) (F : Nat → Nat → Int32) (s k : Nat) (tb : Bool) (hJ : J n np nq F) (hs1 : s < n) (hk1 : k < 4) : Met l yX0_place wsX0_place ({ frames := 7, cells := 2, slots := 12, locals := 103 } : Room) (va_Pc [.ref (ad 0), .int (nI s), .int (nI k), .int (bI tb)] (PrG D cI cZ cO ad n np nq F (EnvG (fun _ => False)))) (va_Qi (S := Unit) (fun (r : Int32) (_ : Unit) => r = fI (fitA (F (14 + s)) k tb) 0 (96 - 0)) (fun _ _ => True) (fun _ => False)) 2 12 (fun _ => False) := by
  refine met_weak (fun a st h => ?_)
  obtain ⟨ha, ⟨u, hP⟩, hK, hV⟩ := h
  have hs : spPlace n (va_up F 13 u) (nI s) (nI k) tb = (0, fI (fitA ((va_up F 13 u) (14 + s)) k tb) 0 (96 - 0)) := spPlace_y hJ.inv.1 hs1 hk1
  refine ⟨_, _, ⟨ha, hP, hK, hV⟩, vx_plain (c_X0_place l hst D cI cZ cO ad n np nq (va_up F 13 u) (nI s) (nI k) tb (J_T hJ u).inv.1) (fun E s9 t9 ⟨u9, _, hB, _⟩ => ?_), fun o t hq => ?_⟩
  · exact hB.elim (fun h => absurd (congrArg Prod.fst (hs.symm.trans h.2)) (show ¬ (0 : Nat) = 1 by decide)) (fun h => absurd (congrArg Prod.fst (hs.symm.trans h.2)) (show ¬ (0 : Nat) = 2 by decide))
  · obtain ⟨⟨r, u2, ho, hr, hB⟩, hF⟩ := hq
    exact ⟨⟨r, (), ho, ((congrArg Prod.snd (hs.symm.trans hr)).symm.trans (by rw [e13 F u _ (by omega)])), trivial⟩, hF⟩
set_option maxHeartbeats 1000000 in
theorem n_gives (l : Launch) (hst : l.stackTraces = false) (D : va_G) (cI cZ cO : ClassId) (ad : Nat → Nat) (n np nq : Nat) (F : Nat → Nat → Int32) (s k : Nat) (tb : Bool) (hinj : inj ad 23) (hJ : J n np nq F) (hs1 : s < n) (hk1 : k < 4) : Met l yX0_gives wsX0_gives ({ frames := 7, cells := 2, slots := 12, locals := 105 } : Room) (va_Pc [.ref (ad 0), .int (nI s), .int (nI k), .int (bI tb)] (PrG D cI cZ cO ad n np nq F (EnvG (inA ad 23)))) (va_Qi (S := Unit) (fun (r : Int32) (_ : Unit) => r = nI (gvT F k tb s)) (fun _ t => GW D cI cZ cO ad n np nq F t.heap) (inA ad 23)) 2 12 (inA ad 23) := by
  refine met_weak (fun a st h => ?_)
  obtain ⟨ha, ⟨u, hP⟩, hK, hV⟩ := h
  have hs : spGives n (va_up F 13 u) (nI s) (nI k) tb = (0, nI (gvT (va_up F 13 u) k tb s)) := spGives_y hJ.inv.1 hs1 hk1
  refine ⟨_, _, ⟨ha, hP, hK, hV⟩, vx_plain (c_X0_gives l hst D cI cZ cO ad n np nq (va_up F 13 u) (nI s) (nI k) tb hinj (J_T hJ u).inv.1) (fun E s9 t9 ⟨u9, _, hB, _⟩ => ?_), fun o t hq => ?_⟩
  · exact hB.elim (fun h => absurd (congrArg Prod.fst (hs.symm.trans h.2)) (show ¬ (0 : Nat) = 1 by decide)) (fun h => absurd (congrArg Prod.fst (hs.symm.trans h.2)) (show ¬ (0 : Nat) = 2 by decide))
  · obtain ⟨⟨r, u2, ho, hr, hB⟩, hF⟩ := hq
    exact ⟨⟨r, (), ho, ((congrArg Prod.snd (hs.symm.trans hr)).symm.trans (congrArg nI (gvT_T F u k tb s))), ⟨u2, by rw [← vup2]; exact hB⟩⟩, hF⟩
set_option maxHeartbeats 1000000 in
theorem n_best (l : Launch) (hst : l.stackTraces = false) (D : va_G) (cI cZ cO : ClassId) (ad : Nat → Nat) (n np nq : Nat) (F : Nat → Nat → Int32) (k : Nat) (tb : Bool) (hinj : inj ad 23) (hJ : J n np nq F) (hk1 : k < 4) : Met l yX0_best wsX0_best ({ frames := 7, cells := 1, slots := 6, locals := 105 } : Room) (va_Pc [.ref (ad 0), .int (nI k), .int (bI tb)] (PrG D cI cZ cO ad n np nq F (EnvG (inA ad 23)))) (va_Qi (S := Unit) (fun (r : Int32) (_ : Unit) => r = bB (gvT F k tb) n) (fun _ t => GW D cI cZ cO ad n np nq F t.heap) (inA ad 23)) 1 6 (inA ad 23) := by
  refine met_weak (fun a st h => ?_)
  obtain ⟨ha, ⟨u, hP⟩, hK, hV⟩ := h
  have hs : spBest n (va_up F 13 u) (nI k) tb = (0, bB (gvT (va_up F 13 u) k tb) n) := spBest_y hk1
  refine ⟨_, _, ⟨ha, hP, hK, hV⟩, vx_plain (c_X0_best l hst D cI cZ cO ad n np nq (va_up F 13 u) (nI k) tb hinj (J_T hJ u).inv.1) (fun E s9 t9 ⟨u9, _, hB, _⟩ => ?_), fun o t hq => ?_⟩
  · exact absurd (congrArg Prod.fst (hs.symm.trans hB.2)) (show ¬ (0 : Nat) = 1 by decide)
  · obtain ⟨⟨r, u2, ho, hr, hB⟩, hF⟩ := hq
    exact ⟨⟨r, (), ho, ((congrArg Prod.snd (hs.symm.trans hr)).symm.trans (by rw [show gvT (va_up F 13 u) k tb = gvT F k tb from funext (gvT_T F u k tb)])), ⟨u2, by rw [← vup2]; exact hB⟩⟩, hF⟩
set_option maxHeartbeats 1000000 in
theorem n_lay (l : Launch) (hst : l.stackTraces = false) (D : va_G) (cI cZ cO : ClassId) (ad : Nat → Nat) (n np nq : Nat) (F : Nat → Nat → Int32) (cc : Nat) (hinj : inj ad 23) (hK1 : K1 n F) (hn1 : n < 10) (hc1 : cc < 6) : Met l yX0_lay wsX0_lay ({ frames := 7, cells := 2, slots := 12, locals := 102 } : Room) (va_Pc [.ref (ad 0), .int (nI cc)] (PrG D cI cZ cO ad n np nq F (EnvG (inA ad 23)))) (va_Qi (S := (Nat → Int32)) (fun (r : Int32) (_ : (Nat → Int32)) => True) (fun (u : Nat → Int32) (t : State) => GW D cI cZ cO ad (n + 1) np nq (layF (va_up F 13 u) n (nI cc)) t.heap) (inA ad 23)) 2 12 (inA ad 23) := by
  refine met_weak (fun a st h => ?_)
  obtain ⟨ha, ⟨u, hP⟩, hK, hV⟩ := h
  have hs : spLay n (nI cc) = (0, nI n) := (K1_lay hK1 hn1 hc1).1
  refine ⟨_, _, ⟨ha, hP, hK, hV⟩, vx_plain (c_X0_lay l hst D cI cZ cO ad n np nq (va_up F 13 u) (nI cc) hinj (by omega)) (fun E s9 t9 ⟨u9, _, hB, _⟩ => ?_), fun o t hq => ?_⟩
  · exact hB.elim (fun h => absurd (congrArg Prod.fst (hs.symm.trans h.2)) (show ¬ (0 : Nat) = 1 by decide)) (fun h => absurd (congrArg Prod.fst (hs.symm.trans h.2)) (show ¬ (0 : Nat) = 2 by decide))
  · obtain ⟨⟨r, u2, ho, hr, hB⟩, hF⟩ := hq
    exact ⟨⟨r, u, ho, trivial, GW.of hB⟩, hF⟩
set_option maxHeartbeats 1000000 in
theorem n_mark (l : Launch) (hst : l.stackTraces = false) (D : va_G) (cI cZ cO : ClassId) (ad : Nat → Nat) (n np nq : Nat) (F : Nat → Nat → Int32) (s x y w hh v : Nat) (hinj : inj ad 23) (hK1 : K1 n F) (hs1 : s < n) (hx1 : x < 12) (hy1 : y < 8) (hw : 1 ≤ w ∧ w ≤ 12 - x) (hh2 : 1 ≤ hh ∧ hh ≤ 8 - y) (hv : v = 1 ∨ v = 2) : Met l yX0_mark wsX0_mark ({ frames := 7, cells := 5, slots := 30, locals := 103 } : Room) (va_Pc [.ref (ad 0), .int (nI s), .int (nI x), .int (nI y), .int (nI w), .int (nI hh), .int (nI v)] (PrG D cI cZ cO ad n np nq F (EnvG (inA ad 23)))) (va_Qi (S := (Nat → Int32)) (fun (_ : Int32) (_ : (Nat → Int32)) => True) (fun (u : Nat → Int32) (t : State) => GW D cI cZ cO ad n np nq (stMark (va_up F 13 u) (nI s) (nI x) (nI y) (nI w) (nI hh) (nI v)) t.heap) (inA ad 23)) 5 30 (inA ad 23) := by
  refine met_weak (fun a st h => ?_)
  obtain ⟨ha, ⟨u, hP⟩, hK, hV⟩ := h
  obtain ⟨r0, hs⟩ := (K1_mark (K1_T u hK1) hs1 hx1 hy1 hw hh2 hv).1
  refine ⟨_, _, ⟨ha, hP, hK, hV⟩, vx_plain (c_X0_mark l hst D cI cZ cO ad n np nq (va_up F 13 u) (nI s) (nI x) (nI y) (nI w) (nI hh) (nI v) hinj hK1.1.1) (fun E s9 t9 ⟨u9, _, hB, _⟩ => ?_), fun o t hq => ?_⟩
  · exact hB.elim (fun h => absurd (congrArg Prod.fst (hs.symm.trans h.2)) (show ¬ (0 : Nat) = 1 by decide)) (fun h => h.elim (fun h => absurd (congrArg Prod.fst (hs.symm.trans h.2)) (show ¬ (0 : Nat) = 2 by decide)) (fun h => absurd (congrArg Prod.fst (hs.symm.trans h.2)) (show ¬ (0 : Nat) = 3 by decide)))
  · obtain ⟨⟨r, u2, ho, hr, hB⟩, hF⟩ := hq
    exact ⟨⟨r, u, ho, trivial, GW.of hB⟩, hF⟩
set_option maxHeartbeats 1000000 in
theorem n_digest (l : Launch) (hst : l.stackTraces = false) (D : va_G) (cI cZ cO : ClassId) (ad : Nat → Nat) (n np nq : Nat) (F : Nat → Nat → Int32) (hJ : J n np nq F) : Met l yX0_digest wsX0_digest ({ frames := 4, cells := 0, slots := 0, locals := 98 } : Room) (va_Pc [.ref (ad 0)] (PrG D cI cZ cO ad n np nq F V0)) (va_Ql (S := Unit) (fun (r : Int64) (_ : Unit) => r = dG n np nq F) (fun _ _ => True) (fun _ => False)) 0 0 (fun _ => False) := by
  refine met_weak (fun a st h => ?_)
  obtain ⟨ha, ⟨u, hP⟩, hK, hV⟩ := h
  refine ⟨_, _, ⟨ha, hP, hK, hV⟩, c_X0_digest l D cI cZ cO ad n np nq (va_up F 13 u) (J_T hJ u).inv.1 (J_T hJ u).inv.2.1 (J_T hJ u).inv.2.2.1 (J_T hJ u).inv.2.2.2.2.1, fun o t hq => ?_⟩
  obtain ⟨⟨r, u2, ho, hr, hB⟩, hF⟩ := hq
  exact ⟨⟨r, (), ho, hr.trans (dG_T F u n np nq), trivial⟩, hF⟩
