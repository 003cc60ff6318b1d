set_option maxHeartbeats 4000000 in
set_option maxRecDepth 100000 in
/-- fewer than seven numbers left: the law ends with 1 -/
theorem lw_exit {p : Program} {l : Launch} {e : Env} {s : State} {m : MethodId} {below : List Frame} {meth : Method} {c : Code} {b L : Nat} {xs : Nat → Int32} (hL : L ≤ 3584) (C0 : lw_At p s m meth c b L xs) {D : va_G} {cI cZ cO cL : ClassId} {aG aM : Nat → Nat} {o : Nat} {i cc ss : Nat} (hi : i ≤ 7000) (hi7 : ¬ i + 7 ≤ L) (hcc : cc ≤ 653633) (hss : ss ≤ 7135204) : LwK p l e s m below meth c b D cI cZ cO cL aG aM o i cc ss 23 := by
  obtain ⟨hx, hb, hr, hml, hown, hts0, hX, hbl, hlocks, hgv⟩ := C0
  have hbA : ¬ LA s b := Nat.not_le.mpr hbl
  intro n np nq F th T g H locs ls d0 hd0 hW hl
  have hS := hW.2.2.2.2
  have hX : va_X b L xs (s.setDrawn d0) s.heap := hX
  have fin : W p l e room_1 (s.setDrawn d0) m #[Value.ref b] below meth c H locs cc ss (lw_Z below #[Value.ref b] s) (F0 m 1331 ls []) := by
    refine lv_iconst (v := 1) hx hb dL_law_1331 (by decide) ?_
    refine va_forget (fun q hq => show s.heap.size ≤ q.base from hS.2.2 q hq) ?_
    refine W.widen (k := 653633) (n := 7135204) hcc hss ?_
    exact lw_ret hd0 hx hb hr hlocks dL_law_1332
  refine lv_iload hx hb dL_law_23 (lv_at hl 4 rfl) ?_
  refine lv_aload_n hx hb dL_law_25 rfl (lv_at hl 0 rfl) ?_
  refine va_slen hx hb hX hbl hbA hS dL_law_26 ?_
  refine lv_bipush (v := nI 7) hx hb dL_law_27 (by decide) ?_
  by_cases h7 : 7 ≤ L
  · refine nv_isub (i := L) (j := 7) hx hb h7 dL_law_29 ?_
    exact nv_icmp_gt (tgt := 1331) hx hb (by omega) (by omega) dL_law_30 (by decide) (fun _ => fin) (fun h => absurd h (by omega))
  · refine lv_isub hx hb dL_law_29 ?_
    have hneg : nI L - nI 7 < 0 := by
      rcases (show L = 0 ∨ L = 1 ∨ L = 2 ∨ L = 3 ∨ L = 4 ∨ L = 5 ∨ L = 6 by omega) with rfl | rfl | rfl | rfl | rfl | rfl | rfl <;> decide
    have h0 : (0 : Int32) ≤ nI i := nI_pos' (by omega)
    exact lv_icmp_gt (tgt := 1331) hx hb dL_law_30 (by decide) (fun _ => fin) (fun h => absurd (Int32.lt_of_lt_of_le hneg h0) h)
set_option maxHeartbeats 4000000 in
set_option maxRecDepth 100000 in
/-- THE LAW'S LOOP, at its head -/
theorem lw_loop {p : Program} {l : Launch} {e : Env} {s : State} {m : MethodId} {below : List Frame} {meth : Method} {c : Code} {b L : Nat} {xs : Nat → Int32} (hst : l.stackTraces = false) (hL : L ≤ 3584) (C0 : lw_At p s m meth c b L xs) {D : va_G} {cI cZ cO cL : ClassId} {aG aM : Nat → Nat} {o : Nat} (K : LwF s D cI cZ cO cL aG aM o) : ∀ f i cc ss : Nat, i ≤ L + 7 → L < i + 7 * f + 7 → cc + 20 * f ≤ 653633 → ss + 100 * f ≤ 7135204 → LwK p l e s m below meth c b D cI cZ cO cL aG aM o i cc ss 23 := by
  intro f
  induction f with
  | zero => exact fun i cc ss hi hf hc hs => lw_exit hL C0 (by omega) (by omega) (by omega) (by omega)
  | succ f ih =>
    intro i cc ss hi hf hc hs
    by_cases h7 : i + 7 ≤ L
    · have kk : LwK p l e s m below meth c b D cI cZ cO cL aG aM o i (cc + 20) (ss + 100) 1325 := by
        obtain ⟨hx, hb, -⟩ := id C0
        intro n np nq F th T g H locs ls d0 hd0 hW hl
        refine lv_iinc (v := nI (i + 7)) (lv' := [(4, .int (nI (i + 7))), (0, .ref b), (1, .ref (aG 0)), (2, .ref (aM 0)), (3, .ref o)]) hx hb dL_law_1325 hl (k := 4) rfl (by rw [show Int32.ofInt 7 = nI 7 from by decide, nI_add]) (by decide) rfl (fun ls hl => ?_)
        refine lv_goto (tgt := 23) hx hb dL_law_1328 (by decide) ?_
        exact ih (i + 7) (cc + 20) (ss + 100) (by omega) (by omega) (by omega) (by omega) n np nq F th T g H locs ls d0 hd0 hW (lv_sub hl [1, 2, 3, 4, 0] rfl)
      obtain ⟨hx, hb, hr, hml, hown, hts0, hX, hbl, hlocks, hgv⟩ := id C0
      have hbA : ¬ LA s b := Nat.not_le.mpr hbl
      intro n np nq F th T g H locs ls d0 hd0 hW hl
      have hS := hW.2.2.2.2
      have hX : va_X b L xs (s.setDrawn d0) s.heap := hX
      refine lv_iload hx hb dL_law_23 (lv_at hl 4 rfl) ?_
      refine lv_aload_n hx hb dL_law_25 rfl (lv_at hl 0 rfl) ?_
      refine va_slen hx hb hX hbl hbA hS dL_law_26 ?_
      refine lv_bipush (v := nI 7) hx hb dL_law_27 (by decide) ?_
      refine nv_isub (i := L) (j := 7) hx hb (by omega) dL_law_29 ?_
      refine nv_icmp_gt (tgt := 1331) hx hb (by omega) (by omega) dL_law_30 (by decide) (fun h => absurd h (by omega)) (fun _ => ?_)
      refine lv_aload_n hx hb dL_law_33 rfl (lv_at hl 0 rfl) ?_
      refine lv_iload hx hb dL_law_34 (lv_at hl 4 rfl) ?_
      refine nv_sld hx hb hX hbl hbA hS (j := i) (by omega) (by omega) dL_law_36 ?_
      refine lv_bipush (v := 31) hx hb dL_law_37 (by decide) ?_
      refine lv_iand hx hb dL_law_39 ?_
      obtain ⟨j, hj, ej⟩ := pk_andE (xs i) (m := 31) 5 (by decide)
      have hj : j < 32 := hj
      rw [ej]
      rcases (show j = 0 ∨ j = 1 ∨ j = 2 ∨ j = 3 ∨ j = 4 ∨ j = 5 ∨ j = 6 ∨ j = 7 ∨ j = 8 ∨ j = 9 ∨ j = 10 ∨ j = 11 ∨ j = 12 ∨ j = 13 ∨ j = 14 ∨ j = 15 ∨ j = 16 ∨ j = 17 ∨ j = 18 ∨ j = 19 ∨ j = 20 ∨ j = 21 ∨ j = 22 ∨ j = 23 ∨ j = 24 ∨ j = 25 ∨ j = 26 ∨ j = 27 ∨ j = 28 ∨ j = 29 ∨ j = 30 ∨ j = 31 by omega) with rfl | rfl | rfl | rfl | rfl | rfl | rfl | rfl | rfl | rfl | rfl | rfl | rfl | rfl | rfl | rfl | rfl | rfl | rfl | rfl | rfl | rfl | rfl | rfl | rfl | rfl | rfl | rfl | rfl | rfl | rfl | rfl
      · refine lv_tableIn (off := 84) (tgt := 124) hx hb dL_law_40 (by decide) (by decide) (by decide) (by decide) ?_
        exact lw_case0 hst hL C0 K h7 (by omega) (by omega) kk n np nq F th T g H locs ls d0 hd0 hW hl
      · refine lv_tableIn (off := 140) (tgt := 180) hx hb dL_law_40 (by decide) (by decide) (by decide) (by decide) ?_
        exact lw_case1 hst hL C0 K h7 (by omega) (by omega) kk n np nq F th T g H locs ls d0 hd0 hW hl
      · refine lv_tableIn (off := 258) (tgt := 298) hx hb dL_law_40 (by decide) (by decide) (by decide) (by decide) ?_
        exact lw_case2 hst hL C0 K h7 (by omega) (by omega) kk n np nq F th T g H locs ls d0 hd0 hW hl
      · refine lv_tableIn (off := 338) (tgt := 378) hx hb dL_law_40 (by decide) (by decide) (by decide) (by decide) ?_
        exact lw_case3 hst hL C0 K h7 (by omega) (by omega) kk n np nq F th T g H locs ls d0 hd0 hW hl
      · refine lv_tableIn (off := 406) (tgt := 446) hx hb dL_law_40 (by decide) (by decide) (by decide) (by decide) ?_
        exact lw_case4 hst hL C0 K h7 (by omega) (by omega) kk n np nq F th T g H locs ls d0 hd0 hW hl
      · refine lv_tableIn (off := 526) (tgt := 566) hx hb dL_law_40 (by decide) (by decide) (by decide) (by decide) ?_
        exact lw_case5 hst hL C0 K h7 (by omega) (by omega) kk n np nq F th T g H locs ls d0 hd0 hW hl
      · refine lv_tableIn (off := 622) (tgt := 662) hx hb dL_law_40 (by decide) (by decide) (by decide) (by decide) ?_
        exact lw_case6 hst hL C0 K h7 (by omega) (by omega) kk n np nq F th T g H locs ls d0 hd0 hW hl
      · refine lv_tableIn (off := 690) (tgt := 730) hx hb dL_law_40 (by decide) (by decide) (by decide) (by decide) ?_
        exact lw_case7 hst hL C0 K h7 (by omega) (by omega) kk n np nq F th T g H locs ls d0 hd0 hW hl
      · refine lv_tableIn (off := 746) (tgt := 786) hx hb dL_law_40 (by decide) (by decide) (by decide) (by decide) ?_
        exact lw_case8 hst hL C0 K h7 (by omega) (by omega) kk n np nq F th T g H locs ls d0 hd0 hW hl
      · refine lv_tableIn (off := 802) (tgt := 842) hx hb dL_law_40 (by decide) (by decide) (by decide) (by decide) ?_
        exact lw_case9 hst hL C0 K h7 (by omega) (by omega) kk n np nq F th T g H locs ls d0 hd0 hW hl
      · refine lv_tableIn (off := 870) (tgt := 910) hx hb dL_law_40 (by decide) (by decide) (by decide) (by decide) ?_
        exact lw_case10 hst hL C0 K h7 (by omega) (by omega) kk n np nq F th T g H locs ls d0 hd0 hW hl
      · refine lv_tableIn (off := 926) (tgt := 966) hx hb dL_law_40 (by decide) (by decide) (by decide) (by decide) ?_
        exact lw_case11 hst hL C0 K h7 (by omega) (by omega) kk n np nq F th T g H locs ls d0 hd0 hW hl
      · refine lv_tableIn (off := 1022) (tgt := 1062) hx hb dL_law_40 (by decide) (by decide) (by decide) (by decide) ?_
        exact lw_case12 hst hL C0 K h7 (by omega) (by omega) kk n np nq F th T g H locs ls d0 hd0 hW hl
      · refine lv_tableIn (off := 1106) (tgt := 1146) hx hb dL_law_40 (by decide) (by decide) (by decide) (by decide) ?_
        exact lw_case13 hst hL C0 K h7 (by omega) (by omega) kk n np nq F th T g H locs ls d0 hd0 hW hl
      · refine lv_tableIn (off := 1174) (tgt := 1214) hx hb dL_law_40 (by decide) (by decide) (by decide) (by decide) ?_
        exact lw_case14 hst hL C0 K h7 (by omega) (by omega) kk n np nq F th T g H locs ls d0 hd0 hW hl
      · refine lv_tableIn (off := 1230) (tgt := 1270) hx hb dL_law_40 (by decide) (by decide) (by decide) (by decide) ?_
        exact lw_case15 hst hL C0 K h7 (by omega) (by omega) kk n np nq F th T g H locs ls d0 hd0 hW hl
      · refine lv_tableIn (off := 1271) (tgt := 1311) hx hb dL_law_40 (by decide) (by decide) (by decide) (by decide) ?_
        exact lw_case16 hst hL C0 K h7 (by omega) (by omega) kk n np nq F th T g H locs ls d0 hd0 hW hl
      · refine lv_tableOut (tgt := 1325) hx hb dL_law_40 (by decide) (by decide) ?_
        refine W.widen (k := cc + 20) (n := ss + 100) (by omega) (by omega) ?_
        exact kk n np nq F th T g H locs ls d0 hd0 hW hl
      · refine lv_tableOut (tgt := 1325) hx hb dL_law_40 (by decide) (by decide) ?_
        refine W.widen (k := cc + 20) (n := ss + 100) (by omega) (by omega) ?_
        exact kk n np nq F th T g H locs ls d0 hd0 hW hl
      · refine lv_tableOut (tgt := 1325) hx hb dL_law_40 (by decide) (by decide) ?_
        refine W.widen (k := cc + 20) (n := ss + 100) (by omega) (by omega) ?_
        exact kk n np nq F th T g H locs ls d0 hd0 hW hl
      · refine lv_tableOut (tgt := 1325) hx hb dL_law_40 (by decide) (by decide) ?_
        refine W.widen (k := cc + 20) (n := ss + 100) (by omega) (by omega) ?_
        exact kk n np nq F th T g H locs ls d0 hd0 hW hl
      · refine lv_tableOut (tgt := 1325) hx hb dL_law_40 (by decide) (by decide) ?_
        refine W.widen (k := cc + 20) (n := ss + 100) (by omega) (by omega) ?_
        exact kk n np nq F th T g H locs ls d0 hd0 hW hl
      · refine lv_tableOut (tgt := 1325) hx hb dL_law_40 (by decide) (by decide) ?_
        refine W.widen (k := cc + 20) (n := ss + 100) (by omega) (by omega) ?_
        exact kk n np nq F th T g H locs ls d0 hd0 hW hl
      · refine lv_tableOut (tgt := 1325) hx hb dL_law_40 (by decide) (by decide) ?_
        refine W.widen (k := cc + 20) (n := ss + 100) (by omega) (by omega) ?_
        exact kk n np nq F th T g H locs ls d0 hd0 hW hl
      · refine lv_tableOut (tgt := 1325) hx hb dL_law_40 (by decide) (by decide) ?_
        refine W.widen (k := cc + 20) (n := ss + 100) (by omega) (by omega) ?_
        exact kk n np nq F th T g H locs ls d0 hd0 hW hl
      · refine lv_tableOut (tgt := 1325) hx hb dL_law_40 (by decide) (by decide) ?_
        refine W.widen (k := cc + 20) (n := ss + 100) (by omega) (by omega) ?_
        exact kk n np nq F th T g H locs ls d0 hd0 hW hl
      · refine lv_tableOut (tgt := 1325) hx hb dL_law_40 (by decide) (by decide) ?_
        refine W.widen (k := cc + 20) (n := ss + 100) (by omega) (by omega) ?_
        exact kk n np nq F th T g H locs ls d0 hd0 hW hl
      · refine lv_tableOut (tgt := 1325) hx hb dL_law_40 (by decide) (by decide) ?_
        refine W.widen (k := cc + 20) (n := ss + 100) (by omega) (by omega) ?_
        exact kk n np nq F th T g H locs ls d0 hd0 hW hl
      · refine lv_tableOut (tgt := 1325) hx hb dL_law_40 (by decide) (by decide) ?_
        refine W.widen (k := cc + 20) (n := ss + 100) (by omega) (by omega) ?_
        exact kk n np nq F th T g H locs ls d0 hd0 hW hl
      · refine lv_tableOut (tgt := 1325) hx hb dL_law_40 (by decide) (by decide) ?_
        refine W.widen (k := cc + 20) (n := ss + 100) (by omega) (by omega) ?_
        exact kk n np nq F th T g H locs ls d0 hd0 hW hl
      · refine lv_tableOut (tgt := 1325) hx hb dL_law_40 (by decide) (by decide) ?_
        refine W.widen (k := cc + 20) (n := ss + 100) (by omega) (by omega) ?_
        exact kk n np nq F th T g H locs ls d0 hd0 hW hl
      · refine lv_tableOut (tgt := 1325) hx hb dL_law_40 (by decide) (by decide) ?_
        refine W.widen (k := cc + 20) (n := ss + 100) (by omega) (by omega) ?_
        exact kk n np nq F th T g H locs ls d0 hd0 hW hl
    · exact lw_exit hL C0 (by omega) h7 (by omega) (by omega)
