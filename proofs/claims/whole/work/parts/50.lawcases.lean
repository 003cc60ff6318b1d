set_option maxHeartbeats 4000000 in
set_option maxRecDepth 100000 in
theorem lw_case0 {p : Program} {l : Launch} {e : Env} {s : State} {m : MethodId} {below : List Frame} {meth : Method} {c : Code} {b L : Nat} {xs : Nat → Int32} (hst : l.stackTraces = false) (hL : L ≤ 3584) (C0 : lw_At p s m meth c b L xs) {D : va_G} {cI cZ cO cL : ClassId} {aG aM : Nat → Nat} {o : Nat} (K : LwF s D cI cZ cO cL aG aM o) {i cc ss : Nat} (hi : i + 7 ≤ L) (hcc : cc + 20 ≤ 653633) (hss : ss + 100 ≤ 7135204) (kk : LwK p l e s m below meth c b D cI cZ cO cL aG aM o i (cc + 20) (ss + 100) 1325) : LwK p l e s m below meth c b D cI cZ cO cL aG aM o i cc ss 124 := by
  obtain ⟨hx, hb, hr, hml, hown, hts0, hX, hbl, hlocks, hgv⟩ := C0
  obtain ⟨hK, hiG, hiM, hGM, hoG, hoM, hLG, hLM, hLo, hEL, hEM⟩ := K
  have hb : c.code = cL_law := hb
  have hown : s.vm.findClass RL = some m.cls := hown
  have hbA : ¬ LA s b := Nat.not_le.mpr hbl
  have hAG : ∀ q, inO aG o q → LA s q := fun q h => h.elim (fun ⟨i, hi, e⟩ => e ▸ hLG i hi) (fun e => e ▸ hLo)
  have hAM : ∀ q, inA aM 8 q → LA s q := fun q ⟨i, hi, e⟩ => e ▸ hLM i hi
  have hMo : ∀ j, j ≤ 8 → ¬ inO aG o (aM j) := fun j hj h => h.elim (fun ⟨i, hi, e⟩ => hGM i hi j hj e.symm) (fun e => hoM j hj e.symm)
  have hGm : ∀ i, i ≤ 23 → ¬ inA aM 8 (aG i) := fun i hi ⟨j, hj, e⟩ => hGM i hi j hj e
  have hOm : ¬ inA aM 8 o := fun ⟨j, hj, e⟩ => hoM j hj e
  intro n np nq F th T g H locs ls d0 hd0 hW hl
  obtain ⟨hI, hG, hM, hO, hS⟩ := hW
  have hBM : ∀ q, inB aM 8 H.size q → LA s q := fun q h => h.elim (hAM q) (fun h2 => Nat.le_trans hS.1 h2)
  obtain ⟨hn, hnp, hnq, hsk, hrip, hfr, h11b, h12b, hpc, hsc⟩ := id hI
  have hts := dr_words (fun w h => hts0 w (wsL_law_in w h)) d0
  have hX : va_X b L xs (s.setDrawn d0) s.heap := hX
  have hK : va_K D vwCl (gT cI cZ cO ++ [(cL, .long)]) (s.setDrawn d0) := hK
  have hRc : cc + 20 ≤ room_1.cells := hcc
  have hRs : ss + 100 ≤ room_1.slots := hss
  refine lv_aload_n hx hb dL_law_124 rfl (lv_at hl 1 rfl) ?_
  refine lv_aload_n hx hb dL_law_125 rfl (lv_at hl 0 rfl) ?_
  refine lv_iload hx hb dL_law_126 (lv_at hl 4 rfl) ?_
  refine lv_iconst (v := nI 1) hx hb dL_law_128 (by decide) ?_
  refine nv_iadd hx hb dL_law_129 ?_
  refine nv_sld hx hb hX hbl hbA hS (j := i + 1) (by omega) (by omega) dL_law_130 ?_
  refine lv_aload_n hx hb dL_law_131 rfl (lv_at hl 3 rfl) ?_
  refine va_calli (vx_runSW (As := [.ref (aG 0), .int (xs (i + 1)), .ref o]) (rest := []) ⟨hx, hb, hml, hown, hts⟩ (c_L_lay l hst D cI cZ cO cL aG n np nq F o g (xs (i + 1)) hiG hoG hn) (vx_cwSW 3 hts gL_law_L_lay rfl rfl rfl (by decide +kernel) ⟨Nat.le_of_ble_eq_true rfl, Nat.le_of_ble_eq_true rfl⟩) (pr_S (hG.app hO) hK [0, 1, 2, 3] rfl (hEL.at hS sub_id hAG) EnvL_c) rfl rfl hl.1 rfl (lv_room (Nat.le_of_ble_eq_true rfl)) dL_law_132 ⟨by omega, by omega⟩) hS (fun q _ h => hAG q h) (fun q h => hAG q h) (fun r0 u t H1 locs ht hvm hw hB hz hk hS => ?_)
  rw [ht] at hB
  obtain ⟨hG, hO⟩ := hB
  have hM := M_apart hM hiM (inO aG o) hMo hk
  have hBM : ∀ q, inB aM 8 H1.size q → LA s q := fun q h => h.elim (hAM q) (fun h2 => Nat.le_trans hS.1 h2)
  obtain ⟨n2, np2, nq2, F2, hI2, eG, eM⟩ := two_lay (cI := cI) (cZ := cZ) (cO := cO) (aG := aG) (aM := aM) hI (xs (i + 1))
  rw [eG] at hG
  subst hw
  refine lv_istore (lv' := [(5, .int (nI (spLay n (xs (i + 1))).1)), (0, .ref b), (1, .ref (aG 0)), (2, .ref (aM 0)), (3, .ref o), (4, .int (nI i))]) hx hb dL_law_135 hl (by decide) rfl (fun ls hl => ?_)
  refine lv_aload_n hx hb dL_law_137 rfl (lv_at hl 3 rfl) ?_
  refine lv_aload_n hx hb dL_law_138 rfl (lv_at hl 1 rfl) ?_
  refine lv_iload hx hb dL_law_139 (lv_at hl 5 rfl) ?_
  refine lv_iconst (v := nI 1) hx hb dL_law_141 (by decide) ?_
  refine nv_iadd hx hb dL_law_142 ?_
  refine nv_sld hx hb hX hbl hbA hS (j := i + 1) (by omega) (by omega) dL_law_143 ?_
  refine va_calli (va_runV (As := [.int (xs (i + 1))]) (rest := []) ⟨hx, hb, hml, hown, hts⟩ (c_X1_lay l D cI aM th n np nq F T (xs (i + 1)) hiM hn) (cwV 1 hts gL_law_X1_lay rfl rfl rfl (by decide +kernel) ⟨Nat.le_of_ble_eq_true rfl, Nat.le_of_ble_eq_true rfl⟩) (pr_V hM (ci := 1) (q0 := 0) rfl m_at0 rfl hM hK [0] rfl V0_at V0_c) rfl rfl hl.1 rfl (lv_room (Nat.le_of_ble_eq_true rfl)) dL_law_144 ⟨by omega, by omega⟩) hS (fun q _ h => hAM q h) (fun q h => hAM q h) (fun r1 u1 t H2 locs ht hvm hw hB hz hk hS => ?_)
  rw [ht] at hB
  have hG := G_apart hG hiG (inA aM 8) hGm hk
  have hO := O_apart hO (inA aM 8) hOm hk
  rw [eM T] at hB
  have hM := hB
  subst hw
  refine lv_istore (lv' := [(6, .int (spLay n (xs (i + 1))).2), (5, .int (nI (spLay n (xs (i + 1))).1)), (0, .ref b), (1, .ref (aG 0)), (2, .ref (aM 0)), (3, .ref o), (4, .int (nI i))]) hx hb dL_law_147 hl (by decide) rfl (fun ls hl => ?_)
  refine lv_aload_n hx hb dL_law_149 rfl (lv_at hl 4 rfl) ?_
  refine va_calli (va_runV (As := []) (rest := []) ⟨hx, hb, hml, hown, hts⟩ (c_X1_thrown l D cI aM (nI (spLay n (xs (i + 1))).1) n2 np2 nq2 F2 T) (cwV 0 hts gL_law_X1_thrown rfl rfl rfl (by decide +kernel) ⟨Nat.le_of_ble_eq_true rfl, Nat.le_of_ble_eq_true rfl⟩) (pr_V hM (ci := 1) (q0 := 0) rfl m_at0 rfl hM hK [0] rfl V0_at V0_c) rfl rfl hl.1 rfl (lv_room (Nat.le_of_ble_eq_true rfl)) dL_law_150 ⟨by omega, by omega⟩) hS (fun _ _ h => h.elim) (fun _ h => h.elim) (fun r2 u2 t H3 locs ht hvm hw hB hz hk hS => ?_)
  have hG := P_kept hG hk
  have hM := P_kept hM hk
  have hO := P_kept hO hk
  subst hw
  refine lv_iload hx hb dL_law_153 (lv_at hl 1 rfl) ?_
  have fin : W p l e room_1 (s.setDrawn d0) m #[Value.ref b] below meth c H3 locs (cc + 20) (ss + 100) (lw_Z below #[Value.ref b] s) (F0 m 177 ls []) := by
    refine lv_goto (tgt := 1325) hx hb dL_law_177 (by decide) ?_
    exact kk n2 np2 nq2 F2 _ T _ _ _ _ _ hd0 ⟨hI2, hG, hM, hO, hS⟩ (lv_sub hl [2, 3, 4, 5, 6] rfl)
  refine W.widen (k := cc + 20) (n := ss + 100) (by omega) (by omega) ?_
  refine lv_icmp_eq (tgt := 160) hx hb dL_law_155 (by decide) (fun _ => ?_) (fun h9 => absurd rfl h9)
  refine lv_iload hx hb dL_law_160 (lv_at hl 1 rfl) ?_
  refine lv_if_ne (tgt := 177) hx hb dL_law_162 (by decide) (fun _ => fin) (fun h9 => ?_)
  have h9 : (spLay n (xs (i + 1))).1 = 0 := nI_z bd_lay h9
  refine lv_aload_n hx hb dL_law_165 rfl (lv_at hl 5 rfl) ?_
  refine lv_iconst (v := nI 0) hx hb dL_law_166 (by decide) ?_
  refine nv_lald0 hx hb hK hO 0 3 rfl rfl dL_law_167 ?_
  rw [outG_0 _ h9]
  refine lv_iload hx hb dL_law_168 (lv_at hl 0 rfl) ?_
  refine lv_i2l hx hb dL_law_170 rfl ?_
  refine lv_lcmpS hx hb dL_law_171 ?_
  exact lv_if_eq (tgt := 177) hx hb dL_law_172 (by decide) (fun _ => fin) (fun h => absurd rfl h)
set_option maxHeartbeats 4000000 in
set_option maxRecDepth 100000 in
theorem lw_case1 {p : Program} {l : Launch} {e : Env} {s : State} {m : MethodId} {below : List Frame} {meth : Method} {c : Code} {b L : Nat} {xs : Nat → Int32} (hst : l.stackTraces = false) (hL : L ≤ 3584) (C0 : lw_At p s m meth c b L xs) {D : va_G} {cI cZ cO cL : ClassId} {aG aM : Nat → Nat} {o : Nat} (K : LwF s D cI cZ cO cL aG aM o) {i cc ss : Nat} (hi : i + 7 ≤ L) (hcc : cc + 20 ≤ 653633) (hss : ss + 100 ≤ 7135204) (kk : LwK p l e s m below meth c b D cI cZ cO cL aG aM o i (cc + 20) (ss + 100) 1325) : LwK p l e s m below meth c b D cI cZ cO cL aG aM o i cc ss 180 := by
  obtain ⟨hx, hb, hr, hml, hown, hts0, hX, hbl, hlocks, hgv⟩ := C0
  obtain ⟨hK, hiG, hiM, hGM, hoG, hoM, hLG, hLM, hLo, hEL, hEM⟩ := K
  have hb : c.code = cL_law := hb
  have hown : s.vm.findClass RL = some m.cls := hown
  have hbA : ¬ LA s b := Nat.not_le.mpr hbl
  have hAG : ∀ q, inO aG o q → LA s q := fun q h => h.elim (fun ⟨i, hi, e⟩ => e ▸ hLG i hi) (fun e => e ▸ hLo)
  have hAM : ∀ q, inA aM 8 q → LA s q := fun q ⟨i, hi, e⟩ => e ▸ hLM i hi
  have hMo : ∀ j, j ≤ 8 → ¬ inO aG o (aM j) := fun j hj h => h.elim (fun ⟨i, hi, e⟩ => hGM i hi j hj e.symm) (fun e => hoM j hj e.symm)
  have hGm : ∀ i, i ≤ 23 → ¬ inA aM 8 (aG i) := fun i hi ⟨j, hj, e⟩ => hGM i hi j hj e
  have hOm : ¬ inA aM 8 o := fun ⟨j, hj, e⟩ => hoM j hj e
  intro n np nq F th T g H locs ls d0 hd0 hW hl
  obtain ⟨hI, hG, hM, hO, hS⟩ := hW
  have hBM : ∀ q, inB aM 8 H.size q → LA s q := fun q h => h.elim (hAM q) (fun h2 => Nat.le_trans hS.1 h2)
  obtain ⟨hn, hnp, hnq, hsk, hrip, hfr, h11b, h12b, hpc, hsc⟩ := id hI
  have hts := dr_words (fun w h => hts0 w (wsL_law_in w h)) d0
  have hX : va_X b L xs (s.setDrawn d0) s.heap := hX
  have hK : va_K D vwCl (gT cI cZ cO ++ [(cL, .long)]) (s.setDrawn d0) := hK
  have hRc : cc + 20 ≤ room_1.cells := hcc
  have hRs : ss + 100 ≤ room_1.slots := hss
  refine lv_aload_n hx hb dL_law_180 rfl (lv_at hl 1 rfl) ?_
  refine lv_aload_n hx hb dL_law_181 rfl (lv_at hl 0 rfl) ?_
  refine lv_iload hx hb dL_law_182 (lv_at hl 4 rfl) ?_
  refine lv_iconst (v := nI 1) hx hb dL_law_184 (by decide) ?_
  refine nv_iadd hx hb dL_law_185 ?_
  refine nv_sld hx hb hX hbl hbA hS (j := i + 1) (by omega) (by omega) dL_law_186 ?_
  refine lv_aload_n hx hb dL_law_187 rfl (lv_at hl 0 rfl) ?_
  refine lv_iload hx hb dL_law_188 (lv_at hl 4 rfl) ?_
  refine lv_iconst (v := nI 2) hx hb dL_law_190 (by decide) ?_
  refine nv_iadd hx hb dL_law_191 ?_
  refine nv_sld hx hb hX hbl hbA hS (j := i + 2) (by omega) (by omega) dL_law_192 ?_
  refine lv_aload_n hx hb dL_law_193 rfl (lv_at hl 0 rfl) ?_
  refine lv_iload hx hb dL_law_194 (lv_at hl 4 rfl) ?_
  refine lv_iconst (v := nI 3) hx hb dL_law_196 (by decide) ?_
  refine nv_iadd hx hb dL_law_197 ?_
  refine nv_sld hx hb hX hbl hbA hS (j := i + 3) (by omega) (by omega) dL_law_198 ?_
  refine lv_aload_n hx hb dL_law_199 rfl (lv_at hl 0 rfl) ?_
  refine lv_iload hx hb dL_law_200 (lv_at hl 4 rfl) ?_
  refine lv_iconst (v := nI 4) hx hb dL_law_202 (by decide) ?_
  refine nv_iadd hx hb dL_law_203 ?_
  refine nv_sld hx hb hX hbl hbA hS (j := i + 4) (by omega) (by omega) dL_law_204 ?_
  refine lv_aload_n hx hb dL_law_205 rfl (lv_at hl 0 rfl) ?_
  refine lv_iload hx hb dL_law_206 (lv_at hl 4 rfl) ?_
  refine lv_iconst (v := nI 5) hx hb dL_law_208 (by decide) ?_
  refine nv_iadd hx hb dL_law_209 ?_
  refine nv_sld hx hb hX hbl hbA hS (j := i + 5) (by omega) (by omega) dL_law_210 ?_
  refine lv_aload_n hx hb dL_law_211 rfl (lv_at hl 0 rfl) ?_
  refine lv_iload hx hb dL_law_212 (lv_at hl 4 rfl) ?_
  refine lv_bipush (v := nI 6) hx hb dL_law_214 (by decide) ?_
  refine nv_iadd hx hb dL_law_216 ?_
  refine nv_sld hx hb hX hbl hbA hS (j := i + 6) (by omega) (by omega) dL_law_217 ?_
  refine lv_aload_n hx hb dL_law_218 rfl (lv_at hl 3 rfl) ?_
  refine va_calli (vx_runSW (As := [.ref (aG 0), .int (xs (i + 1)), .int (xs (i + 2)), .int (xs (i + 3)), .int (xs (i + 4)), .int (xs (i + 5)), .int (xs (i + 6)), .ref o]) (rest := []) ⟨hx, hb, hml, hown, hts⟩ (c_L_mark l hst D cI cZ cO cL aG n np nq F o g (xs (i + 1)) (xs (i + 2)) (xs (i + 3)) (xs (i + 4)) (xs (i + 5)) (xs (i + 6)) hiG hoG hn) (vx_cwSW 8 hts gL_law_L_mark rfl rfl rfl (by decide +kernel) ⟨Nat.le_of_ble_eq_true rfl, Nat.le_of_ble_eq_true rfl⟩) (pr_S (hG.app hO) hK [0, 1, 2, 3] rfl (hEL.at hS sub_id hAG) EnvL_c) rfl rfl hl.1 rfl (lv_room (Nat.le_of_ble_eq_true rfl)) dL_law_219 ⟨by omega, by omega⟩) hS (fun q _ h => hAG q h) (fun q h => hAG q h) (fun r0 u t H1 locs ht hvm hw hB hz hk hS => ?_)
  rw [ht] at hB
  obtain ⟨hG, hO⟩ := hB
  have hM := M_apart hM hiM (inO aG o) hMo hk
  have hBM : ∀ q, inB aM 8 H1.size q → LA s q := fun q h => h.elim (hAM q) (fun h2 => Nat.le_trans hS.1 h2)
  obtain ⟨n2, np2, nq2, F2, hI2, eG, eM⟩ := two_mark (cI := cI) (cZ := cZ) (cO := cO) (aG := aG) (aM := aM) hI (xs (i + 1)) (xs (i + 2)) (xs (i + 3)) (xs (i + 4)) (xs (i + 5)) (xs (i + 6))
  rw [eG] at hG
  subst hw
  refine lv_istore (lv' := [(5, .int (nI (spMark n F (xs (i + 1)) (xs (i + 2)) (xs (i + 3)) (xs (i + 4)) (xs (i + 5)) (xs (i + 6))).1)), (0, .ref b), (1, .ref (aG 0)), (2, .ref (aM 0)), (3, .ref o), (4, .int (nI i))]) hx hb dL_law_222 hl (by decide) rfl (fun ls hl => ?_)
  refine lv_aload_n hx hb dL_law_224 rfl (lv_at hl 3 rfl) ?_
  refine lv_aload_n hx hb dL_law_225 rfl (lv_at hl 1 rfl) ?_
  refine lv_iload hx hb dL_law_226 (lv_at hl 5 rfl) ?_
  refine lv_iconst (v := nI 1) hx hb dL_law_228 (by decide) ?_
  refine nv_iadd hx hb dL_law_229 ?_
  refine nv_sld hx hb hX hbl hbA hS (j := i + 1) (by omega) (by omega) dL_law_230 ?_
  refine lv_aload_n hx hb dL_law_231 rfl (lv_at hl 1 rfl) ?_
  refine lv_iload hx hb dL_law_232 (lv_at hl 5 rfl) ?_
  refine lv_iconst (v := nI 2) hx hb dL_law_234 (by decide) ?_
  refine nv_iadd hx hb dL_law_235 ?_
  refine nv_sld hx hb hX hbl hbA hS (j := i + 2) (by omega) (by omega) dL_law_236 ?_
  refine lv_aload_n hx hb dL_law_237 rfl (lv_at hl 1 rfl) ?_
  refine lv_iload hx hb dL_law_238 (lv_at hl 5 rfl) ?_
  refine lv_iconst (v := nI 3) hx hb dL_law_240 (by decide) ?_
  refine nv_iadd hx hb dL_law_241 ?_
  refine nv_sld hx hb hX hbl hbA hS (j := i + 3) (by omega) (by omega) dL_law_242 ?_
  refine lv_aload_n hx hb dL_law_243 rfl (lv_at hl 1 rfl) ?_
  refine lv_iload hx hb dL_law_244 (lv_at hl 5 rfl) ?_
  refine lv_iconst (v := nI 4) hx hb dL_law_246 (by decide) ?_
  refine nv_iadd hx hb dL_law_247 ?_
  refine nv_sld hx hb hX hbl hbA hS (j := i + 4) (by omega) (by omega) dL_law_248 ?_
  refine lv_aload_n hx hb dL_law_249 rfl (lv_at hl 1 rfl) ?_
  refine lv_iload hx hb dL_law_250 (lv_at hl 5 rfl) ?_
  refine lv_iconst (v := nI 5) hx hb dL_law_252 (by decide) ?_
  refine nv_iadd hx hb dL_law_253 ?_
  refine nv_sld hx hb hX hbl hbA hS (j := i + 5) (by omega) (by omega) dL_law_254 ?_
  refine lv_aload_n hx hb dL_law_255 rfl (lv_at hl 1 rfl) ?_
  refine lv_iload hx hb dL_law_256 (lv_at hl 5 rfl) ?_
  refine lv_bipush (v := nI 6) hx hb dL_law_258 (by decide) ?_
  refine nv_iadd hx hb dL_law_260 ?_
  refine nv_sld hx hb hX hbl hbA hS (j := i + 6) (by omega) (by omega) dL_law_261 ?_
  refine va_calli (va_runV (As := [.int (xs (i + 1)), .int (xs (i + 2)), .int (xs (i + 3)), .int (xs (i + 4)), .int (xs (i + 5)), .int (xs (i + 6))]) (rest := []) ⟨hx, hb, hml, hown, hts⟩ (c_X1_mark l D cI aM th n np nq F T (xs (i + 1)) (xs (i + 2)) (xs (i + 3)) (xs (i + 4)) (xs (i + 5)) (xs (i + 6)) hiM hn) (cwV 6 hts gL_law_X1_mark rfl rfl rfl (by decide +kernel) ⟨Nat.le_of_ble_eq_true rfl, Nat.le_of_ble_eq_true rfl⟩) (pr_V hM (ci := 1) (q0 := 0) rfl m_at0 rfl hM hK [0] rfl V0_at V0_c) rfl rfl hl.1 rfl (lv_room (Nat.le_of_ble_eq_true rfl)) dL_law_262 ⟨by omega, by omega⟩) hS (fun q _ h => hAM q h) (fun q h => hAM q h) (fun r1 u1 t H2 locs ht hvm hw hB hz hk hS => ?_)
  rw [ht] at hB
  have hG := G_apart hG hiG (inA aM 8) hGm hk
  have hO := O_apart hO (inA aM 8) hOm hk
  rw [eM T] at hB
  have hM := hB
  subst hw
  refine lv_istore (lv' := [(6, .int (spMark n F (xs (i + 1)) (xs (i + 2)) (xs (i + 3)) (xs (i + 4)) (xs (i + 5)) (xs (i + 6))).2), (5, .int (nI (spMark n F (xs (i + 1)) (xs (i + 2)) (xs (i + 3)) (xs (i + 4)) (xs (i + 5)) (xs (i + 6))).1)), (0, .ref b), (1, .ref (aG 0)), (2, .ref (aM 0)), (3, .ref o), (4, .int (nI i))]) hx hb dL_law_265 hl (by decide) rfl (fun ls hl => ?_)
  refine lv_aload_n hx hb dL_law_267 rfl (lv_at hl 4 rfl) ?_
  refine va_calli (va_runV (As := []) (rest := []) ⟨hx, hb, hml, hown, hts⟩ (c_X1_thrown l D cI aM (nI (spMark n F (xs (i + 1)) (xs (i + 2)) (xs (i + 3)) (xs (i + 4)) (xs (i + 5)) (xs (i + 6))).1) n2 np2 nq2 F2 T) (cwV 0 hts gL_law_X1_thrown rfl rfl rfl (by decide +kernel) ⟨Nat.le_of_ble_eq_true rfl, Nat.le_of_ble_eq_true rfl⟩) (pr_V hM (ci := 1) (q0 := 0) rfl m_at0 rfl hM hK [0] rfl V0_at V0_c) rfl rfl hl.1 rfl (lv_room (Nat.le_of_ble_eq_true rfl)) dL_law_268 ⟨by omega, by omega⟩) hS (fun _ _ h => h.elim) (fun _ h => h.elim) (fun r2 u2 t H3 locs ht hvm hw hB hz hk hS => ?_)
  have hG := P_kept hG hk
  have hM := P_kept hM hk
  have hO := P_kept hO hk
  subst hw
  refine lv_iload hx hb dL_law_271 (lv_at hl 1 rfl) ?_
  have fin : W p l e room_1 (s.setDrawn d0) m #[Value.ref b] below meth c H3 locs (cc + 20) (ss + 100) (lw_Z below #[Value.ref b] s) (F0 m 295 ls []) := by
    refine lv_goto (tgt := 1325) hx hb dL_law_295 (by decide) ?_
    exact kk n2 np2 nq2 F2 _ T _ _ _ _ _ hd0 ⟨hI2, hG, hM, hO, hS⟩ (lv_sub hl [2, 3, 4, 5, 6] rfl)
  refine W.widen (k := cc + 20) (n := ss + 100) (by omega) (by omega) ?_
  refine lv_icmp_eq (tgt := 278) hx hb dL_law_273 (by decide) (fun _ => ?_) (fun h9 => absurd rfl h9)
  refine lv_iload hx hb dL_law_278 (lv_at hl 1 rfl) ?_
  refine lv_if_ne (tgt := 295) hx hb dL_law_280 (by decide) (fun _ => fin) (fun h9 => ?_)
  have h9 : (spMark n F (xs (i + 1)) (xs (i + 2)) (xs (i + 3)) (xs (i + 4)) (xs (i + 5)) (xs (i + 6))).1 = 0 := nI_z bd_mark h9
  refine lv_aload_n hx hb dL_law_283 rfl (lv_at hl 5 rfl) ?_
  refine lv_iconst (v := nI 0) hx hb dL_law_284 (by decide) ?_
  refine nv_lald0 hx hb hK hO 0 3 rfl rfl dL_law_285 ?_
  rw [outG_0 _ h9]
  refine lv_iload hx hb dL_law_286 (lv_at hl 0 rfl) ?_
  refine lv_i2l hx hb dL_law_288 rfl ?_
  refine lv_lcmpS hx hb dL_law_289 ?_
  exact lv_if_eq (tgt := 295) hx hb dL_law_290 (by decide) (fun _ => fin) (fun h => absurd rfl h)
set_option maxHeartbeats 4000000 in
set_option maxRecDepth 100000 in
theorem lw_case2 {p : Program} {l : Launch} {e : Env} {s : State} {m : MethodId} {below : List Frame} {meth : Method} {c : Code} {b L : Nat} {xs : Nat → Int32} (hst : l.stackTraces = false) (hL : L ≤ 3584) (C0 : lw_At p s m meth c b L xs) {D : va_G} {cI cZ cO cL : ClassId} {aG aM : Nat → Nat} {o : Nat} (K : LwF s D cI cZ cO cL aG aM o) {i cc ss : Nat} (hi : i + 7 ≤ L) (hcc : cc + 20 ≤ 653633) (hss : ss + 100 ≤ 7135204) (kk : LwK p l e s m below meth c b D cI cZ cO cL aG aM o i (cc + 20) (ss + 100) 1325) : LwK p l e s m below meth c b D cI cZ cO cL aG aM o i cc ss 298 := by
  obtain ⟨hx, hb, hr, hml, hown, hts0, hX, hbl, hlocks, hgv⟩ := C0
  obtain ⟨hK, hiG, hiM, hGM, hoG, hoM, hLG, hLM, hLo, hEL, hEM⟩ := K
  have hb : c.code = cL_law := hb
  have hown : s.vm.findClass RL = some m.cls := hown
  have hbA : ¬ LA s b := Nat.not_le.mpr hbl
  have hAG : ∀ q, inO aG o q → LA s q := fun q h => h.elim (fun ⟨i, hi, e⟩ => e ▸ hLG i hi) (fun e => e ▸ hLo)
  have hAM : ∀ q, inA aM 8 q → LA s q := fun q ⟨i, hi, e⟩ => e ▸ hLM i hi
  have hMo : ∀ j, j ≤ 8 → ¬ inO aG o (aM j) := fun j hj h => h.elim (fun ⟨i, hi, e⟩ => hGM i hi j hj e.symm) (fun e => hoM j hj e.symm)
  have hGm : ∀ i, i ≤ 23 → ¬ inA aM 8 (aG i) := fun i hi ⟨j, hj, e⟩ => hGM i hi j hj e
  have hOm : ¬ inA aM 8 o := fun ⟨j, hj, e⟩ => hoM j hj e
  intro n np nq F th T g H locs ls d0 hd0 hW hl
  obtain ⟨hI, hG, hM, hO, hS⟩ := hW
  have hBM : ∀ q, inB aM 8 H.size q → LA s q := fun q h => h.elim (hAM q) (fun h2 => Nat.le_trans hS.1 h2)
  obtain ⟨hn, hnp, hnq, hsk, hrip, hfr, h11b, h12b, hpc, hsc⟩ := id hI
  have hts := dr_words (fun w h => hts0 w (wsL_law_in w h)) d0
  have hX : va_X b L xs (s.setDrawn d0) s.heap := hX
  have hK : va_K D vwCl (gT cI cZ cO ++ [(cL, .long)]) (s.setDrawn d0) := hK
  have hRc : cc + 20 ≤ room_1.cells := hcc
  have hRs : ss + 100 ≤ room_1.slots := hss
  refine lv_aload_n hx hb dL_law_298 rfl (lv_at hl 1 rfl) ?_
  refine lv_aload_n hx hb dL_law_299 rfl (lv_at hl 0 rfl) ?_
  refine lv_iload hx hb dL_law_300 (lv_at hl 4 rfl) ?_
  refine lv_iconst (v := nI 1) hx hb dL_law_302 (by decide) ?_
  refine nv_iadd hx hb dL_law_303 ?_
  refine nv_sld hx hb hX hbl hbA hS (j := i + 1) (by omega) (by omega) dL_law_304 ?_
  refine lv_aload_n hx hb dL_law_305 rfl (lv_at hl 0 rfl) ?_
  refine lv_iload hx hb dL_law_306 (lv_at hl 4 rfl) ?_
  refine lv_iconst (v := nI 2) hx hb dL_law_308 (by decide) ?_
  refine nv_iadd hx hb dL_law_309 ?_
  refine nv_sld hx hb hX hbl hbA hS (j := i + 2) (by omega) (by omega) dL_law_310 ?_
  refine lv_aload_n hx hb dL_law_311 rfl (lv_at hl 0 rfl) ?_
  refine lv_iload hx hb dL_law_312 (lv_at hl 4 rfl) ?_
  refine lv_iconst (v := nI 3) hx hb dL_law_314 (by decide) ?_
  refine nv_iadd hx hb dL_law_315 ?_
  refine nv_sld hx hb hX hbl hbA hS (j := i + 3) (by omega) (by omega) dL_law_316 ?_
  refine lv_aload_n hx hb dL_law_317 rfl (lv_at hl 3 rfl) ?_
  refine va_calli (vx_runSW (As := [.ref (aG 0), .int (xs (i + 1)), .int (xs (i + 2)), .int (xs (i + 3)), .ref o]) (rest := []) ⟨hx, hb, hml, hown, hts⟩ (c_L_cell l hst D cI cZ cO cL aG n np nq F o g (xs (i + 1)) (xs (i + 2)) (xs (i + 3)) hiG hoG hn) (vx_cwSW 5 hts gL_law_L_cell rfl rfl rfl (by decide +kernel) ⟨Nat.le_of_ble_eq_true rfl, Nat.le_of_ble_eq_true rfl⟩) (pr_S (hG.app hO) hK [0, 1, 2, 3] rfl (hEL.at hS sub_id hAG) EnvL_c) rfl rfl hl.1 rfl (lv_room (Nat.le_of_ble_eq_true rfl)) dL_law_318 ⟨by omega, by omega⟩) hS (fun q _ h => hAG q h) (fun q h => hAG q h) (fun r0 u t H1 locs ht hvm hw hB hz hk hS => ?_)
  rw [ht] at hB
  obtain ⟨hG, hO⟩ := hB
  have hM := M_apart hM hiM (inO aG o) hMo hk
  have hBM : ∀ q, inB aM 8 H1.size q → LA s q := fun q h => h.elim (hAM q) (fun h2 => Nat.le_trans hS.1 h2)
  subst hw
  refine lv_istore (lv' := [(5, .int (nI (spCell n F (xs (i + 1)) (xs (i + 2)) (xs (i + 3))).1)), (0, .ref b), (1, .ref (aG 0)), (2, .ref (aM 0)), (3, .ref o), (4, .int (nI i))]) hx hb dL_law_321 hl (by decide) rfl (fun ls hl => ?_)
  refine lv_aload_n hx hb dL_law_323 rfl (lv_at hl 3 rfl) ?_
  refine lv_aload_n hx hb dL_law_324 rfl (lv_at hl 1 rfl) ?_
  refine lv_iload hx hb dL_law_325 (lv_at hl 5 rfl) ?_
  refine lv_iconst (v := nI 1) hx hb dL_law_327 (by decide) ?_
  refine nv_iadd hx hb dL_law_328 ?_
  refine nv_sld hx hb hX hbl hbA hS (j := i + 1) (by omega) (by omega) dL_law_329 ?_
  refine lv_aload_n hx hb dL_law_330 rfl (lv_at hl 1 rfl) ?_
  refine lv_iload hx hb dL_law_331 (lv_at hl 5 rfl) ?_
  refine lv_iconst (v := nI 2) hx hb dL_law_333 (by decide) ?_
  refine nv_iadd hx hb dL_law_334 ?_
  refine nv_sld hx hb hX hbl hbA hS (j := i + 2) (by omega) (by omega) dL_law_335 ?_
  refine lv_aload_n hx hb dL_law_336 rfl (lv_at hl 1 rfl) ?_
  refine lv_iload hx hb dL_law_337 (lv_at hl 5 rfl) ?_
  refine lv_iconst (v := nI 3) hx hb dL_law_339 (by decide) ?_
  refine nv_iadd hx hb dL_law_340 ?_
  refine nv_sld hx hb hX hbl hbA hS (j := i + 3) (by omega) (by omega) dL_law_341 ?_
  refine va_calli (va_runV (As := [.int (xs (i + 1)), .int (xs (i + 2)), .int (xs (i + 3))]) (rest := []) ⟨hx, hb, hml, hown, hts⟩ (c_X1_cell l D cI aM th n np nq F T (xs (i + 1)) (xs (i + 2)) (xs (i + 3)) hiM hn) (cwV 3 hts gL_law_X1_cell rfl rfl rfl (by decide +kernel) ⟨Nat.le_of_ble_eq_true rfl, Nat.le_of_ble_eq_true rfl⟩) (pr_V hM (ci := 1) (q0 := 0) rfl m_at0 rfl hM hK [0] rfl V0_at V0_c) rfl rfl hl.1 rfl (lv_room (Nat.le_of_ble_eq_true rfl)) dL_law_342 ⟨by omega, by omega⟩) hS (fun q _ h => hAM q h) (fun q h => hAM q h) (fun r1 u1 t H2 locs ht hvm hw hB hz hk hS => ?_)
  rw [ht] at hB
  have hG := G_apart hG hiG (inA aM 8) hGm hk
  have hO := O_apart hO (inA aM 8) hOm hk
  have hM := hB
  subst hw
  refine lv_istore (lv' := [(6, .int (spCell n F (xs (i + 1)) (xs (i + 2)) (xs (i + 3))).2), (5, .int (nI (spCell n F (xs (i + 1)) (xs (i + 2)) (xs (i + 3))).1)), (0, .ref b), (1, .ref (aG 0)), (2, .ref (aM 0)), (3, .ref o), (4, .int (nI i))]) hx hb dL_law_345 hl (by decide) rfl (fun ls hl => ?_)
  refine lv_aload_n hx hb dL_law_347 rfl (lv_at hl 4 rfl) ?_
  refine va_calli (va_runV (As := []) (rest := []) ⟨hx, hb, hml, hown, hts⟩ (c_X1_thrown l D cI aM (nI (spCell n F (xs (i + 1)) (xs (i + 2)) (xs (i + 3))).1) n np nq F T) (cwV 0 hts gL_law_X1_thrown rfl rfl rfl (by decide +kernel) ⟨Nat.le_of_ble_eq_true rfl, Nat.le_of_ble_eq_true rfl⟩) (pr_V hM (ci := 1) (q0 := 0) rfl m_at0 rfl hM hK [0] rfl V0_at V0_c) rfl rfl hl.1 rfl (lv_room (Nat.le_of_ble_eq_true rfl)) dL_law_348 ⟨by omega, by omega⟩) hS (fun _ _ h => h.elim) (fun _ h => h.elim) (fun r2 u2 t H3 locs ht hvm hw hB hz hk hS => ?_)
  have hG := P_kept hG hk
  have hM := P_kept hM hk
  have hO := P_kept hO hk
  subst hw
  refine lv_iload hx hb dL_law_351 (lv_at hl 1 rfl) ?_
  have fin : W p l e room_1 (s.setDrawn d0) m #[Value.ref b] below meth c H3 locs (cc + 20) (ss + 100) (lw_Z below #[Value.ref b] s) (F0 m 375 ls []) := by
    refine lv_goto (tgt := 1325) hx hb dL_law_375 (by decide) ?_
    exact kk n np nq F _ T _ _ _ _ _ hd0 ⟨hI, hG, hM, hO, hS⟩ (lv_sub hl [2, 3, 4, 5, 6] rfl)
  refine W.widen (k := cc + 20) (n := ss + 100) (by omega) (by omega) ?_
  refine lv_icmp_eq (tgt := 358) hx hb dL_law_353 (by decide) (fun _ => ?_) (fun h9 => absurd rfl h9)
  refine lv_iload hx hb dL_law_358 (lv_at hl 1 rfl) ?_
  refine lv_if_ne (tgt := 375) hx hb dL_law_360 (by decide) (fun _ => fin) (fun h9 => ?_)
  have h9 : (spCell n F (xs (i + 1)) (xs (i + 2)) (xs (i + 3))).1 = 0 := nI_z bd_cell h9
  refine lv_aload_n hx hb dL_law_363 rfl (lv_at hl 5 rfl) ?_
  refine lv_iconst (v := nI 0) hx hb dL_law_364 (by decide) ?_
  refine nv_lald0 hx hb hK hO 0 3 rfl rfl dL_law_365 ?_
  rw [outG_0 _ h9]
  refine lv_iload hx hb dL_law_366 (lv_at hl 0 rfl) ?_
  refine lv_i2l hx hb dL_law_368 rfl ?_
  refine lv_lcmpS hx hb dL_law_369 ?_
  exact lv_if_eq (tgt := 375) hx hb dL_law_370 (by decide) (fun _ => fin) (fun h => absurd rfl h)
set_option maxHeartbeats 4000000 in
set_option maxRecDepth 100000 in
theorem lw_case3 {p : Program} {l : Launch} {e : Env} {s : State} {m : MethodId} {below : List Frame} {meth : Method} {c : Code} {b L : Nat} {xs : Nat → Int32} (hst : l.stackTraces = false) (hL : L ≤ 3584) (C0 : lw_At p s m meth c b L xs) {D : va_G} {cI cZ cO cL : ClassId} {aG aM : Nat → Nat} {o : Nat} (K : LwF s D cI cZ cO cL aG aM o) {i cc ss : Nat} (hi : i + 7 ≤ L) (hcc : cc + 20 ≤ 653633) (hss : ss + 100 ≤ 7135204) (kk : LwK p l e s m below meth c b D cI cZ cO cL aG aM o i (cc + 20) (ss + 100) 1325) : LwK p l e s m below meth c b D cI cZ cO cL aG aM o i cc ss 378 := by
  obtain ⟨hx, hb, hr, hml, hown, hts0, hX, hbl, hlocks, hgv⟩ := C0
  obtain ⟨hK, hiG, hiM, hGM, hoG, hoM, hLG, hLM, hLo, hEL, hEM⟩ := K
  have hb : c.code = cL_law := hb
  have hown : s.vm.findClass RL = some m.cls := hown
  have hbA : ¬ LA s b := Nat.not_le.mpr hbl
  have hAG : ∀ q, inO aG o q → LA s q := fun q h => h.elim (fun ⟨i, hi, e⟩ => e ▸ hLG i hi) (fun e => e ▸ hLo)
  have hAM : ∀ q, inA aM 8 q → LA s q := fun q ⟨i, hi, e⟩ => e ▸ hLM i hi
  have hMo : ∀ j, j ≤ 8 → ¬ inO aG o (aM j) := fun j hj h => h.elim (fun ⟨i, hi, e⟩ => hGM i hi j hj e.symm) (fun e => hoM j hj e.symm)
  have hGm : ∀ i, i ≤ 23 → ¬ inA aM 8 (aG i) := fun i hi ⟨j, hj, e⟩ => hGM i hi j hj e
  have hOm : ¬ inA aM 8 o := fun ⟨j, hj, e⟩ => hoM j hj e
  intro n np nq F th T g H locs ls d0 hd0 hW hl
  obtain ⟨hI, hG, hM, hO, hS⟩ := hW
  have hBM : ∀ q, inB aM 8 H.size q → LA s q := fun q h => h.elim (hAM q) (fun h2 => Nat.le_trans hS.1 h2)
  obtain ⟨hn, hnp, hnq, hsk, hrip, hfr, h11b, h12b, hpc, hsc⟩ := id hI
  have hts := dr_words (fun w h => hts0 w (wsL_law_in w h)) d0
  have hX : va_X b L xs (s.setDrawn d0) s.heap := hX
  have hK : va_K D vwCl (gT cI cZ cO ++ [(cL, .long)]) (s.setDrawn d0) := hK
  have hRc : cc + 20 ≤ room_1.cells := hcc
  have hRs : ss + 100 ≤ room_1.slots := hss
  refine lv_aload_n hx hb dL_law_378 rfl (lv_at hl 1 rfl) ?_
  refine lv_aload_n hx hb dL_law_379 rfl (lv_at hl 0 rfl) ?_
  refine lv_iload hx hb dL_law_380 (lv_at hl 4 rfl) ?_
  refine lv_iconst (v := nI 1) hx hb dL_law_382 (by decide) ?_
  refine nv_iadd hx hb dL_law_383 ?_
  refine nv_sld hx hb hX hbl hbA hS (j := i + 1) (by omega) (by omega) dL_law_384 ?_
  refine lv_aload_n hx hb dL_law_385 rfl (lv_at hl 0 rfl) ?_
  refine lv_iload hx hb dL_law_386 (lv_at hl 4 rfl) ?_
  refine lv_iconst (v := nI 2) hx hb dL_law_388 (by decide) ?_
  refine nv_iadd hx hb dL_law_389 ?_
  refine nv_sld hx hb hX hbl hbA hS (j := i + 2) (by omega) (by omega) dL_law_390 ?_
  refine lv_aload_n hx hb dL_law_391 rfl (lv_at hl 3 rfl) ?_
  refine va_calli (vx_runSW (As := [.ref (aG 0), .int (xs (i + 1)), .int (xs (i + 2)), .ref o]) (rest := []) ⟨hx, hb, hml, hown, hts⟩ (c_L_skin l hst D cI cZ cO cL aG n np nq F o g (xs (i + 1)) (xs (i + 2)) hiG hoG hn) (vx_cwSW 4 hts gL_law_L_skin rfl rfl rfl (by decide +kernel) ⟨Nat.le_of_ble_eq_true rfl, Nat.le_of_ble_eq_true rfl⟩) (pr_S (hG.app hO) hK [0, 1, 2, 3] rfl (hEL.at hS sub_id hAG) EnvL_c) rfl rfl hl.1 rfl (lv_room (Nat.le_of_ble_eq_true rfl)) dL_law_392 ⟨by omega, by omega⟩) hS (fun q _ h => hAG q h) (fun q h => hAG q h) (fun r0 u t H1 locs ht hvm hw hB hz hk hS => ?_)
  rw [ht] at hB
  obtain ⟨hG, hO⟩ := hB
  have hM := M_apart hM hiM (inO aG o) hMo hk
  have hBM : ∀ q, inB aM 8 H1.size q → LA s q := fun q h => h.elim (hAM q) (fun h2 => Nat.le_trans hS.1 h2)
  subst hw
  refine lv_istore (lv' := [(5, .int (nI (spSkin n F (xs (i + 1)) (xs (i + 2))).1)), (0, .ref b), (1, .ref (aG 0)), (2, .ref (aM 0)), (3, .ref o), (4, .int (nI i))]) hx hb dL_law_395 hl (by decide) rfl (fun ls hl => ?_)
  refine lv_aload_n hx hb dL_law_397 rfl (lv_at hl 3 rfl) ?_
  refine lv_aload_n hx hb dL_law_398 rfl (lv_at hl 1 rfl) ?_
  refine lv_iload hx hb dL_law_399 (lv_at hl 5 rfl) ?_
  refine lv_iconst (v := nI 1) hx hb dL_law_401 (by decide) ?_
  refine nv_iadd hx hb dL_law_402 ?_
  refine nv_sld hx hb hX hbl hbA hS (j := i + 1) (by omega) (by omega) dL_law_403 ?_
  refine lv_aload_n hx hb dL_law_404 rfl (lv_at hl 1 rfl) ?_
  refine lv_iload hx hb dL_law_405 (lv_at hl 5 rfl) ?_
  refine lv_iconst (v := nI 2) hx hb dL_law_407 (by decide) ?_
  refine nv_iadd hx hb dL_law_408 ?_
  refine nv_sld hx hb hX hbl hbA hS (j := i + 2) (by omega) (by omega) dL_law_409 ?_
  refine va_calli (va_runV (As := [.int (xs (i + 1)), .int (xs (i + 2))]) (rest := []) ⟨hx, hb, hml, hown, hts⟩ (c_X1_skin l D cI aM th n np nq F T (xs (i + 1)) (xs (i + 2)) hiM hn hnp hpc) (cwV 2 hts gL_law_X1_skin rfl rfl rfl (by decide +kernel) ⟨Nat.le_of_ble_eq_true rfl, Nat.le_of_ble_eq_true rfl⟩) (pr_V hM (ci := 1) (q0 := 0) rfl m_at0 rfl hM hK [0] rfl V0_at V0_c) rfl rfl hl.1 rfl (lv_room (Nat.le_of_ble_eq_true rfl)) dL_law_410 ⟨by omega, by omega⟩) hS (fun q _ h => hAM q h) (fun q h => hAM q h) (fun r1 u1 t H2 locs ht hvm hw hB hz hk hS => ?_)
  rw [ht] at hB
  have hG := G_apart hG hiG (inA aM 8) hGm hk
  have hO := O_apart hO (inA aM 8) hOm hk
  have hM := hB
  subst hw
  refine lv_istore (lv' := [(6, .int (spSkin n F (xs (i + 1)) (xs (i + 2))).2), (5, .int (nI (spSkin n F (xs (i + 1)) (xs (i + 2))).1)), (0, .ref b), (1, .ref (aG 0)), (2, .ref (aM 0)), (3, .ref o), (4, .int (nI i))]) hx hb dL_law_413 hl (by decide) rfl (fun ls hl => ?_)
  refine lv_aload_n hx hb dL_law_415 rfl (lv_at hl 4 rfl) ?_
  refine va_calli (va_runV (As := []) (rest := []) ⟨hx, hb, hml, hown, hts⟩ (c_X1_thrown l D cI aM (nI (spSkin n F (xs (i + 1)) (xs (i + 2))).1) n np nq F T) (cwV 0 hts gL_law_X1_thrown rfl rfl rfl (by decide +kernel) ⟨Nat.le_of_ble_eq_true rfl, Nat.le_of_ble_eq_true rfl⟩) (pr_V hM (ci := 1) (q0 := 0) rfl m_at0 rfl hM hK [0] rfl V0_at V0_c) rfl rfl hl.1 rfl (lv_room (Nat.le_of_ble_eq_true rfl)) dL_law_416 ⟨by omega, by omega⟩) hS (fun _ _ h => h.elim) (fun _ h => h.elim) (fun r2 u2 t H3 locs ht hvm hw hB hz hk hS => ?_)
  have hG := P_kept hG hk
  have hM := P_kept hM hk
  have hO := P_kept hO hk
  subst hw
  refine lv_iload hx hb dL_law_419 (lv_at hl 1 rfl) ?_
  have fin : W p l e room_1 (s.setDrawn d0) m #[Value.ref b] below meth c H3 locs (cc + 20) (ss + 100) (lw_Z below #[Value.ref b] s) (F0 m 443 ls []) := by
    refine lv_goto (tgt := 1325) hx hb dL_law_443 (by decide) ?_
    exact kk n np nq F _ T _ _ _ _ _ hd0 ⟨hI, hG, hM, hO, hS⟩ (lv_sub hl [2, 3, 4, 5, 6] rfl)
  refine W.widen (k := cc + 20) (n := ss + 100) (by omega) (by omega) ?_
  refine lv_icmp_eq (tgt := 426) hx hb dL_law_421 (by decide) (fun _ => ?_) (fun h9 => absurd rfl h9)
  refine lv_iload hx hb dL_law_426 (lv_at hl 1 rfl) ?_
  refine lv_if_ne (tgt := 443) hx hb dL_law_428 (by decide) (fun _ => fin) (fun h9 => ?_)
  have h9 : (spSkin n F (xs (i + 1)) (xs (i + 2))).1 = 0 := nI_z bd_skin h9
  refine lv_aload_n hx hb dL_law_431 rfl (lv_at hl 5 rfl) ?_
  refine lv_iconst (v := nI 0) hx hb dL_law_432 (by decide) ?_
  refine nv_lald0 hx hb hK hO 0 3 rfl rfl dL_law_433 ?_
  rw [outG_0 _ h9]
  refine lv_iload hx hb dL_law_434 (lv_at hl 0 rfl) ?_
  refine lv_i2l hx hb dL_law_436 rfl ?_
  refine lv_lcmpS hx hb dL_law_437 ?_
  exact lv_if_eq (tgt := 443) hx hb dL_law_438 (by decide) (fun _ => fin) (fun h => absurd rfl h)
set_option maxHeartbeats 4000000 in
set_option maxRecDepth 100000 in
theorem lw_case4 {p : Program} {l : Launch} {e : Env} {s : State} {m : MethodId} {below : List Frame} {meth : Method} {c : Code} {b L : Nat} {xs : Nat → Int32} (hst : l.stackTraces = false) (hL : L ≤ 3584) (C0 : lw_At p s m meth c b L xs) {D : va_G} {cI cZ cO cL : ClassId} {aG aM : Nat → Nat} {o : Nat} (K : LwF s D cI cZ cO cL aG aM o) {i cc ss : Nat} (hi : i + 7 ≤ L) (hcc : cc + 20 ≤ 653633) (hss : ss + 100 ≤ 7135204) (kk : LwK p l e s m below meth c b D cI cZ cO cL aG aM o i (cc + 20) (ss + 100) 1325) : LwK p l e s m below meth c b D cI cZ cO cL aG aM o i cc ss 446 := by
  obtain ⟨hx, hb, hr, hml, hown, hts0, hX, hbl, hlocks, hgv⟩ := C0
  obtain ⟨hK, hiG, hiM, hGM, hoG, hoM, hLG, hLM, hLo, hEL, hEM⟩ := K
  have hb : c.code = cL_law := hb
  have hown : s.vm.findClass RL = some m.cls := hown
  have hbA : ¬ LA s b := Nat.not_le.mpr hbl
  have hAG : ∀ q, inO aG o q → LA s q := fun q h => h.elim (fun ⟨i, hi, e⟩ => e ▸ hLG i hi) (fun e => e ▸ hLo)
  have hAM : ∀ q, inA aM 8 q → LA s q := fun q ⟨i, hi, e⟩ => e ▸ hLM i hi
  have hMo : ∀ j, j ≤ 8 → ¬ inO aG o (aM j) := fun j hj h => h.elim (fun ⟨i, hi, e⟩ => hGM i hi j hj e.symm) (fun e => hoM j hj e.symm)
  have hGm : ∀ i, i ≤ 23 → ¬ inA aM 8 (aG i) := fun i hi ⟨j, hj, e⟩ => hGM i hi j hj e
  have hOm : ¬ inA aM 8 o := fun ⟨j, hj, e⟩ => hoM j hj e
  intro n np nq F th T g H locs ls d0 hd0 hW hl
  obtain ⟨hI, hG, hM, hO, hS⟩ := hW
  have hBM : ∀ q, inB aM 8 H.size q → LA s q := fun q h => h.elim (hAM q) (fun h2 => Nat.le_trans hS.1 h2)
  obtain ⟨hn, hnp, hnq, hsk, hrip, hfr, h11b, h12b, hpc, hsc⟩ := id hI
  have hts := dr_words (fun w h => hts0 w (wsL_law_in w h)) d0
  have hX : va_X b L xs (s.setDrawn d0) s.heap := hX
  have hK : va_K D vwCl (gT cI cZ cO ++ [(cL, .long)]) (s.setDrawn d0) := hK
  have hRc : cc + 20 ≤ room_1.cells := hcc
  have hRs : ss + 100 ≤ room_1.slots := hss
  refine lv_aload_n hx hb dL_law_446 rfl (lv_at hl 1 rfl) ?_
  refine lv_aload_n hx hb dL_law_447 rfl (lv_at hl 0 rfl) ?_
  refine lv_iload hx hb dL_law_448 (lv_at hl 4 rfl) ?_
  refine lv_iconst (v := nI 1) hx hb dL_law_450 (by decide) ?_
  refine nv_iadd hx hb dL_law_451 ?_
  refine nv_sld hx hb hX hbl hbA hS (j := i + 1) (by omega) (by omega) dL_law_452 ?_
  refine lv_aload_n hx hb dL_law_453 rfl (lv_at hl 0 rfl) ?_
  refine lv_iload hx hb dL_law_454 (lv_at hl 4 rfl) ?_
  refine lv_iconst (v := nI 2) hx hb dL_law_456 (by decide) ?_
  refine nv_iadd hx hb dL_law_457 ?_
  refine nv_sld hx hb hX hbl hbA hS (j := i + 2) (by omega) (by omega) dL_law_458 ?_
  refine lv_aload_n hx hb dL_law_459 rfl (lv_at hl 0 rfl) ?_
  refine lv_iload hx hb dL_law_460 (lv_at hl 4 rfl) ?_
  refine lv_iconst (v := nI 3) hx hb dL_law_462 (by decide) ?_
  refine nv_iadd hx hb dL_law_463 ?_
  refine nv_sld hx hb hX hbl hbA hS (j := i + 3) (by omega) (by omega) dL_law_464 ?_
  refine nb_ne0 hx hb rfl dL_law_465 dL_law_468 dL_law_469 dL_law_472 ?_
  refine lv_aload_n hx hb dL_law_473 rfl (lv_at hl 0 rfl) ?_
  refine lv_iload hx hb dL_law_474 (lv_at hl 4 rfl) ?_
  refine lv_iconst (v := nI 4) hx hb dL_law_476 (by decide) ?_
  refine nv_iadd hx hb dL_law_477 ?_
  refine nv_sld hx hb hX hbl hbA hS (j := i + 4) (by omega) (by omega) dL_law_478 ?_
  refine lv_aload_n hx hb dL_law_479 rfl (lv_at hl 0 rfl) ?_
  refine lv_iload hx hb dL_law_480 (lv_at hl 4 rfl) ?_
  refine lv_iconst (v := nI 5) hx hb dL_law_482 (by decide) ?_
  refine nv_iadd hx hb dL_law_483 ?_
  refine nv_sld hx hb hX hbl hbA hS (j := i + 5) (by omega) (by omega) dL_law_484 ?_
  refine lv_aload_n hx hb dL_law_485 rfl (lv_at hl 3 rfl) ?_
  refine va_calli (vx_runSW (As := [.ref (aG 0), .int (xs (i + 1)), .int (xs (i + 2)), .int (bI (!(xs (i + 3) == 0))), .int (xs (i + 4)), .int (xs (i + 5)), .ref o]) (rest := []) ⟨hx, hb, hml, hown, hts⟩ (c_L_cut l hst D cI cZ cO cL aG n np nq F o g (xs (i + 1)) (xs (i + 2)) (!(xs (i + 3) == 0)) (xs (i + 4)) (xs (i + 5)) hiG hoG hn hnp) (vx_cwSW 7 hts gL_law_L_cut rfl rfl rfl (by decide +kernel) ⟨Nat.le_of_ble_eq_true rfl, Nat.le_of_ble_eq_true rfl⟩) (pr_S (hG.app hO) hK [0, 1, 2, 3] rfl (hEL.at hS sub_id hAG) EnvL_c) rfl rfl hl.1 rfl (lv_room (Nat.le_of_ble_eq_true rfl)) dL_law_486 ⟨by omega, by omega⟩) hS (fun q _ h => hAG q h) (fun q h => hAG q h) (fun r0 u t H1 locs ht hvm hw hB hz hk hS => ?_)
  rw [ht] at hB
  obtain ⟨hG, hO⟩ := hB
  have hM := M_apart hM hiM (inO aG o) hMo hk
  have hBM : ∀ q, inB aM 8 H1.size q → LA s q := fun q h => h.elim (hAM q) (fun h2 => Nat.le_trans hS.1 h2)
  obtain ⟨n2, np2, nq2, F2, hI2, eG, eM⟩ := two_cut (cI := cI) (cZ := cZ) (cO := cO) (aG := aG) (aM := aM) hI (xs (i + 1)) (xs (i + 2)) (!(xs (i + 3) == 0)) (xs (i + 4)) (xs (i + 5))
  rw [eG] at hG
  subst hw
  refine lv_istore (lv' := [(5, .int (nI (spCut n np F (xs (i + 1)) (xs (i + 2)) (!(xs (i + 3) == 0)) (xs (i + 4)) (xs (i + 5))).1)), (0, .ref b), (1, .ref (aG 0)), (2, .ref (aM 0)), (3, .ref o), (4, .int (nI i))]) hx hb dL_law_489 hl (by decide) rfl (fun ls hl => ?_)
  refine lv_aload_n hx hb dL_law_491 rfl (lv_at hl 3 rfl) ?_
  refine lv_aload_n hx hb dL_law_492 rfl (lv_at hl 1 rfl) ?_
  refine lv_iload hx hb dL_law_493 (lv_at hl 5 rfl) ?_
  refine lv_iconst (v := nI 1) hx hb dL_law_495 (by decide) ?_
  refine nv_iadd hx hb dL_law_496 ?_
  refine nv_sld hx hb hX hbl hbA hS (j := i + 1) (by omega) (by omega) dL_law_497 ?_
  refine lv_aload_n hx hb dL_law_498 rfl (lv_at hl 1 rfl) ?_
  refine lv_iload hx hb dL_law_499 (lv_at hl 5 rfl) ?_
  refine lv_iconst (v := nI 2) hx hb dL_law_501 (by decide) ?_
  refine nv_iadd hx hb dL_law_502 ?_
  refine nv_sld hx hb hX hbl hbA hS (j := i + 2) (by omega) (by omega) dL_law_503 ?_
  refine lv_aload_n hx hb dL_law_504 rfl (lv_at hl 1 rfl) ?_
  refine lv_iload hx hb dL_law_505 (lv_at hl 5 rfl) ?_
  refine lv_iconst (v := nI 3) hx hb dL_law_507 (by decide) ?_
  refine nv_iadd hx hb dL_law_508 ?_
  refine nv_sld hx hb hX hbl hbA hS (j := i + 3) (by omega) (by omega) dL_law_509 ?_
  refine nb_ne0 hx hb rfl dL_law_510 dL_law_513 dL_law_514 dL_law_517 ?_
  refine lv_aload_n hx hb dL_law_518 rfl (lv_at hl 1 rfl) ?_
  refine lv_iload hx hb dL_law_519 (lv_at hl 5 rfl) ?_
  refine lv_iconst (v := nI 4) hx hb dL_law_521 (by decide) ?_
  refine nv_iadd hx hb dL_law_522 ?_
  refine nv_sld hx hb hX hbl hbA hS (j := i + 4) (by omega) (by omega) dL_law_523 ?_
  refine lv_aload_n hx hb dL_law_524 rfl (lv_at hl 1 rfl) ?_
  refine lv_iload hx hb dL_law_525 (lv_at hl 5 rfl) ?_
  refine lv_iconst (v := nI 5) hx hb dL_law_527 (by decide) ?_
  refine nv_iadd hx hb dL_law_528 ?_
  refine nv_sld hx hb hX hbl hbA hS (j := i + 5) (by omega) (by omega) dL_law_529 ?_
  refine va_calli (va_runV (As := [.int (xs (i + 1)), .int (xs (i + 2)), .int (bI (!(xs (i + 3) == 0))), .int (xs (i + 4)), .int (xs (i + 5))]) (rest := []) ⟨hx, hb, hml, hown, hts⟩ (c_X1_cut l D cI aM th n np nq F T (xs (i + 1)) (xs (i + 2)) (!(xs (i + 3) == 0)) (xs (i + 4)) (xs (i + 5)) hiM hn hnp hsc) (cwV 5 hts gL_law_X1_cut rfl rfl rfl (by decide +kernel) ⟨Nat.le_of_ble_eq_true rfl, Nat.le_of_ble_eq_true rfl⟩) (pr_V hM (ci := 1) (q0 := 0) rfl m_at0 rfl hM hK [0] rfl (hEM.at hS sub_id hAM) EnvM_c) rfl rfl hl.1 rfl (lv_room (Nat.le_of_ble_eq_true rfl)) dL_law_530 ⟨by omega, by omega⟩) hS (fun q _ h => hAM q h) (fun q h => hAM q h) (fun r1 u1 t H2 locs ht hvm hw hB hz hk hS => ?_)
  rw [ht] at hB
  have hG := G_apart hG hiG (inA aM 8) hGm hk
  have hO := O_apart hO (inA aM 8) hOm hk
  rw [eM T] at hB
  have hM := hB
  subst hw
  refine lv_istore (lv' := [(6, .int (spCut n np F (xs (i + 1)) (xs (i + 2)) (!(xs (i + 3) == 0)) (xs (i + 4)) (xs (i + 5))).2), (5, .int (nI (spCut n np F (xs (i + 1)) (xs (i + 2)) (!(xs (i + 3) == 0)) (xs (i + 4)) (xs (i + 5))).1)), (0, .ref b), (1, .ref (aG 0)), (2, .ref (aM 0)), (3, .ref o), (4, .int (nI i))]) hx hb dL_law_533 hl (by decide) rfl (fun ls hl => ?_)
  refine lv_aload_n hx hb dL_law_535 rfl (lv_at hl 4 rfl) ?_
  refine va_calli (va_runV (As := []) (rest := []) ⟨hx, hb, hml, hown, hts⟩ (c_X1_thrown l D cI aM (nI (spCut n np F (xs (i + 1)) (xs (i + 2)) (!(xs (i + 3) == 0)) (xs (i + 4)) (xs (i + 5))).1) n2 np2 nq2 F2 T) (cwV 0 hts gL_law_X1_thrown rfl rfl rfl (by decide +kernel) ⟨Nat.le_of_ble_eq_true rfl, Nat.le_of_ble_eq_true rfl⟩) (pr_V hM (ci := 1) (q0 := 0) rfl m_at0 rfl hM hK [0] rfl V0_at V0_c) rfl rfl hl.1 rfl (lv_room (Nat.le_of_ble_eq_true rfl)) dL_law_536 ⟨by omega, by omega⟩) hS (fun _ _ h => h.elim) (fun _ h => h.elim) (fun r2 u2 t H3 locs ht hvm hw hB hz hk hS => ?_)
  have hG := P_kept hG hk
  have hM := P_kept hM hk
  have hO := P_kept hO hk
  subst hw
  refine lv_iload hx hb dL_law_539 (lv_at hl 1 rfl) ?_
  have fin : W p l e room_1 (s.setDrawn d0) m #[Value.ref b] below meth c H3 locs (cc + 20) (ss + 100) (lw_Z below #[Value.ref b] s) (F0 m 563 ls []) := by
    refine lv_goto (tgt := 1325) hx hb dL_law_563 (by decide) ?_
    exact kk n2 np2 nq2 F2 _ T _ _ _ _ _ hd0 ⟨hI2, hG, hM, hO, hS⟩ (lv_sub hl [2, 3, 4, 5, 6] rfl)
  refine W.widen (k := cc + 20) (n := ss + 100) (by omega) (by omega) ?_
  refine lv_icmp_eq (tgt := 546) hx hb dL_law_541 (by decide) (fun _ => ?_) (fun h9 => absurd rfl h9)
  refine lv_iload hx hb dL_law_546 (lv_at hl 1 rfl) ?_
  refine lv_if_ne (tgt := 563) hx hb dL_law_548 (by decide) (fun _ => fin) (fun h9 => ?_)
  have h9 : (spCut n np F (xs (i + 1)) (xs (i + 2)) (!(xs (i + 3) == 0)) (xs (i + 4)) (xs (i + 5))).1 = 0 := nI_z bd_cut h9
  refine lv_aload_n hx hb dL_law_551 rfl (lv_at hl 5 rfl) ?_
  refine lv_iconst (v := nI 0) hx hb dL_law_552 (by decide) ?_
  refine nv_lald0 hx hb hK hO 0 3 rfl rfl dL_law_553 ?_
  rw [outG_0 _ h9]
  refine lv_iload hx hb dL_law_554 (lv_at hl 0 rfl) ?_
  refine lv_i2l hx hb dL_law_556 rfl ?_
  refine lv_lcmpS hx hb dL_law_557 ?_
  exact lv_if_eq (tgt := 563) hx hb dL_law_558 (by decide) (fun _ => fin) (fun h => absurd rfl h)
set_option maxHeartbeats 4000000 in
set_option maxRecDepth 100000 in
theorem lw_case5 {p : Program} {l : Launch} {e : Env} {s : State} {m : MethodId} {below : List Frame} {meth : Method} {c : Code} {b L : Nat} {xs : Nat → Int32} (hst : l.stackTraces = false) (hL : L ≤ 3584) (C0 : lw_At p s m meth c b L xs) {D : va_G} {cI cZ cO cL : ClassId} {aG aM : Nat → Nat} {o : Nat} (K : LwF s D cI cZ cO cL aG aM o) {i cc ss : Nat} (hi : i + 7 ≤ L) (hcc : cc + 20 ≤ 653633) (hss : ss + 100 ≤ 7135204) (kk : LwK p l e s m below meth c b D cI cZ cO cL aG aM o i (cc + 20) (ss + 100) 1325) : LwK p l e s m below meth c b D cI cZ cO cL aG aM o i cc ss 566 := by
  obtain ⟨hx, hb, hr, hml, hown, hts0, hX, hbl, hlocks, hgv⟩ := C0
  obtain ⟨hK, hiG, hiM, hGM, hoG, hoM, hLG, hLM, hLo, hEL, hEM⟩ := K
  have hb : c.code = cL_law := hb
  have hown : s.vm.findClass RL = some m.cls := hown
  have hbA : ¬ LA s b := Nat.not_le.mpr hbl
  have hAG : ∀ q, inO aG o q → LA s q := fun q h => h.elim (fun ⟨i, hi, e⟩ => e ▸ hLG i hi) (fun e => e ▸ hLo)
  have hAM : ∀ q, inA aM 8 q → LA s q := fun q ⟨i, hi, e⟩ => e ▸ hLM i hi
  have hMo : ∀ j, j ≤ 8 → ¬ inO aG o (aM j) := fun j hj h => h.elim (fun ⟨i, hi, e⟩ => hGM i hi j hj e.symm) (fun e => hoM j hj e.symm)
  have hGm : ∀ i, i ≤ 23 → ¬ inA aM 8 (aG i) := fun i hi ⟨j, hj, e⟩ => hGM i hi j hj e
  have hOm : ¬ inA aM 8 o := fun ⟨j, hj, e⟩ => hoM j hj e
  intro n np nq F th T g H locs ls d0 hd0 hW hl
  obtain ⟨hI, hG, hM, hO, hS⟩ := hW
  have hBM : ∀ q, inB aM 8 H.size q → LA s q := fun q h => h.elim (hAM q) (fun h2 => Nat.le_trans hS.1 h2)
  obtain ⟨hn, hnp, hnq, hsk, hrip, hfr, h11b, h12b, hpc, hsc⟩ := id hI
  have hts := dr_words (fun w h => hts0 w (wsL_law_in w h)) d0
  have hX : va_X b L xs (s.setDrawn d0) s.heap := hX
  have hK : va_K D vwCl (gT cI cZ cO ++ [(cL, .long)]) (s.setDrawn d0) := hK
  have hRc : cc + 20 ≤ room_1.cells := hcc
  have hRs : ss + 100 ≤ room_1.slots := hss
  refine lv_aload_n hx hb dL_law_566 rfl (lv_at hl 1 rfl) ?_
  refine lv_aload_n hx hb dL_law_567 rfl (lv_at hl 0 rfl) ?_
  refine lv_iload hx hb dL_law_568 (lv_at hl 4 rfl) ?_
  refine lv_iconst (v := nI 1) hx hb dL_law_570 (by decide) ?_
  refine nv_iadd hx hb dL_law_571 ?_
  refine nv_sld hx hb hX hbl hbA hS (j := i + 1) (by omega) (by omega) dL_law_572 ?_
  refine lv_aload_n hx hb dL_law_573 rfl (lv_at hl 0 rfl) ?_
  refine lv_iload hx hb dL_law_574 (lv_at hl 4 rfl) ?_
  refine lv_iconst (v := nI 2) hx hb dL_law_576 (by decide) ?_
  refine nv_iadd hx hb dL_law_577 ?_
  refine nv_sld hx hb hX hbl hbA hS (j := i + 2) (by omega) (by omega) dL_law_578 ?_
  refine lv_aload_n hx hb dL_law_579 rfl (lv_at hl 0 rfl) ?_
  refine lv_iload hx hb dL_law_580 (lv_at hl 4 rfl) ?_
  refine lv_iconst (v := nI 3) hx hb dL_law_582 (by decide) ?_
  refine nv_iadd hx hb dL_law_583 ?_
  refine nv_sld hx hb hX hbl hbA hS (j := i + 3) (by omega) (by omega) dL_law_584 ?_
  refine nb_ne0 hx hb rfl dL_law_585 dL_law_588 dL_law_589 dL_law_592 ?_
  refine lv_aload_n hx hb dL_law_593 rfl (lv_at hl 3 rfl) ?_
  refine va_calli (vx_runSW (As := [.ref (aG 0), .int (xs (i + 1)), .int (xs (i + 2)), .int (bI (!(xs (i + 3) == 0))), .ref o]) (rest := []) ⟨hx, hb, hml, hown, hts⟩ (c_L_place l hst D cI cZ cO cL aG n np nq F o g (xs (i + 1)) (xs (i + 2)) (!(xs (i + 3) == 0)) hiG hoG hn) (vx_cwSW 5 hts gL_law_L_place rfl rfl rfl (by decide +kernel) ⟨Nat.le_of_ble_eq_true rfl, Nat.le_of_ble_eq_true rfl⟩) (pr_S (hG.app hO) hK [0, 1, 2, 3] rfl (hEL.at hS sub_id hAG) EnvL_c) rfl rfl hl.1 rfl (lv_room (Nat.le_of_ble_eq_true rfl)) dL_law_594 ⟨by omega, by omega⟩) hS (fun q _ h => hAG q h) (fun q h => hAG q h) (fun r0 u t H1 locs ht hvm hw hB hz hk hS => ?_)
  rw [ht] at hB
  obtain ⟨hG, hO⟩ := hB
  have hM := M_apart hM hiM (inO aG o) hMo hk
  have hBM : ∀ q, inB aM 8 H1.size q → LA s q := fun q h => h.elim (hAM q) (fun h2 => Nat.le_trans hS.1 h2)
  subst hw
  refine lv_istore (lv' := [(5, .int (nI (spPlace n F (xs (i + 1)) (xs (i + 2)) (!(xs (i + 3) == 0))).1)), (0, .ref b), (1, .ref (aG 0)), (2, .ref (aM 0)), (3, .ref o), (4, .int (nI i))]) hx hb dL_law_597 hl (by decide) rfl (fun ls hl => ?_)
  refine lv_aload_n hx hb dL_law_599 rfl (lv_at hl 3 rfl) ?_
  refine lv_aload_n hx hb dL_law_600 rfl (lv_at hl 1 rfl) ?_
  refine lv_iload hx hb dL_law_601 (lv_at hl 5 rfl) ?_
  refine lv_iconst (v := nI 1) hx hb dL_law_603 (by decide) ?_
  refine nv_iadd hx hb dL_law_604 ?_
  refine nv_sld hx hb hX hbl hbA hS (j := i + 1) (by omega) (by omega) dL_law_605 ?_
  refine lv_aload_n hx hb dL_law_606 rfl (lv_at hl 1 rfl) ?_
  refine lv_iload hx hb dL_law_607 (lv_at hl 5 rfl) ?_
  refine lv_iconst (v := nI 2) hx hb dL_law_609 (by decide) ?_
  refine nv_iadd hx hb dL_law_610 ?_
  refine nv_sld hx hb hX hbl hbA hS (j := i + 2) (by omega) (by omega) dL_law_611 ?_
  refine lv_aload_n hx hb dL_law_612 rfl (lv_at hl 1 rfl) ?_
  refine lv_iload hx hb dL_law_613 (lv_at hl 5 rfl) ?_
  refine lv_iconst (v := nI 3) hx hb dL_law_615 (by decide) ?_
  refine nv_iadd hx hb dL_law_616 ?_
  refine nv_sld hx hb hX hbl hbA hS (j := i + 3) (by omega) (by omega) dL_law_617 ?_
  refine nb_ne0 hx hb rfl dL_law_618 dL_law_621 dL_law_622 dL_law_625 ?_
  refine va_calli (va_runV (As := [.int (xs (i + 1)), .int (xs (i + 2)), .int (bI (!(xs (i + 3) == 0)))]) (rest := []) ⟨hx, hb, hml, hown, hts⟩ (c_X1_place l D cI aM th n np nq F T (xs (i + 1)) (xs (i + 2)) (!(xs (i + 3) == 0)) hiM hn hsc) (cwV 3 hts gL_law_X1_place rfl rfl rfl (by decide +kernel) ⟨Nat.le_of_ble_eq_true rfl, Nat.le_of_ble_eq_true rfl⟩) (pr_V hM (ci := 1) (q0 := 0) rfl m_at0 rfl hM hK [0] rfl (hEM.at hS sub_id hAM) EnvM_c) rfl rfl hl.1 rfl (lv_room (Nat.le_of_ble_eq_true rfl)) dL_law_626 ⟨by omega, by omega⟩) hS (fun q _ h => hAM q h) (fun q h => hAM q h) (fun r1 u1 t H2 locs ht hvm hw hB hz hk hS => ?_)
  rw [ht] at hB
  have hG := G_apart hG hiG (inA aM 8) hGm hk
  have hO := O_apart hO (inA aM 8) hOm hk
  have hM := hB
  subst hw
  refine lv_istore (lv' := [(6, .int (spPlace n F (xs (i + 1)) (xs (i + 2)) (!(xs (i + 3) == 0))).2), (5, .int (nI (spPlace n F (xs (i + 1)) (xs (i + 2)) (!(xs (i + 3) == 0))).1)), (0, .ref b), (1, .ref (aG 0)), (2, .ref (aM 0)), (3, .ref o), (4, .int (nI i))]) hx hb dL_law_629 hl (by decide) rfl (fun ls hl => ?_)
  refine lv_aload_n hx hb dL_law_631 rfl (lv_at hl 4 rfl) ?_
  refine va_calli (va_runV (As := []) (rest := []) ⟨hx, hb, hml, hown, hts⟩ (c_X1_thrown l D cI aM (nI (spPlace n F (xs (i + 1)) (xs (i + 2)) (!(xs (i + 3) == 0))).1) n np nq F T) (cwV 0 hts gL_law_X1_thrown rfl rfl rfl (by decide +kernel) ⟨Nat.le_of_ble_eq_true rfl, Nat.le_of_ble_eq_true rfl⟩) (pr_V hM (ci := 1) (q0 := 0) rfl m_at0 rfl hM hK [0] rfl V0_at V0_c) rfl rfl hl.1 rfl (lv_room (Nat.le_of_ble_eq_true rfl)) dL_law_632 ⟨by omega, by omega⟩) hS (fun _ _ h => h.elim) (fun _ h => h.elim) (fun r2 u2 t H3 locs ht hvm hw hB hz hk hS => ?_)
  have hG := P_kept hG hk
  have hM := P_kept hM hk
  have hO := P_kept hO hk
  subst hw
  refine lv_iload hx hb dL_law_635 (lv_at hl 1 rfl) ?_
  have fin : W p l e room_1 (s.setDrawn d0) m #[Value.ref b] below meth c H3 locs (cc + 20) (ss + 100) (lw_Z below #[Value.ref b] s) (F0 m 659 ls []) := by
    refine lv_goto (tgt := 1325) hx hb dL_law_659 (by decide) ?_
    exact kk n np nq F _ T _ _ _ _ _ hd0 ⟨hI, hG, hM, hO, hS⟩ (lv_sub hl [2, 3, 4, 5, 6] rfl)
  refine W.widen (k := cc + 20) (n := ss + 100) (by omega) (by omega) ?_
  refine lv_icmp_eq (tgt := 642) hx hb dL_law_637 (by decide) (fun _ => ?_) (fun h9 => absurd rfl h9)
  refine lv_iload hx hb dL_law_642 (lv_at hl 1 rfl) ?_
  refine lv_if_ne (tgt := 659) hx hb dL_law_644 (by decide) (fun _ => fin) (fun h9 => ?_)
  have h9 : (spPlace n F (xs (i + 1)) (xs (i + 2)) (!(xs (i + 3) == 0))).1 = 0 := nI_z bd_place h9
  refine lv_aload_n hx hb dL_law_647 rfl (lv_at hl 5 rfl) ?_
  refine lv_iconst (v := nI 0) hx hb dL_law_648 (by decide) ?_
  refine nv_lald0 hx hb hK hO 0 3 rfl rfl dL_law_649 ?_
  rw [outG_0 _ h9]
  refine lv_iload hx hb dL_law_650 (lv_at hl 0 rfl) ?_
  refine lv_i2l hx hb dL_law_652 rfl ?_
  refine lv_lcmpS hx hb dL_law_653 ?_
  exact lv_if_eq (tgt := 659) hx hb dL_law_654 (by decide) (fun _ => fin) (fun h => absurd rfl h)
set_option maxHeartbeats 4000000 in
set_option maxRecDepth 100000 in
theorem lw_case6 {p : Program} {l : Launch} {e : Env} {s : State} {m : MethodId} {below : List Frame} {meth : Method} {c : Code} {b L : Nat} {xs : Nat → Int32} (hst : l.stackTraces = false) (hL : L ≤ 3584) (C0 : lw_At p s m meth c b L xs) {D : va_G} {cI cZ cO cL : ClassId} {aG aM : Nat → Nat} {o : Nat} (K : LwF s D cI cZ cO cL aG aM o) {i cc ss : Nat} (hi : i + 7 ≤ L) (hcc : cc + 20 ≤ 653633) (hss : ss + 100 ≤ 7135204) (kk : LwK p l e s m below meth c b D cI cZ cO cL aG aM o i (cc + 20) (ss + 100) 1325) : LwK p l e s m below meth c b D cI cZ cO cL aG aM o i cc ss 662 := by
  obtain ⟨hx, hb, hr, hml, hown, hts0, hX, hbl, hlocks, hgv⟩ := C0
  obtain ⟨hK, hiG, hiM, hGM, hoG, hoM, hLG, hLM, hLo, hEL, hEM⟩ := K
  have hb : c.code = cL_law := hb
  have hown : s.vm.findClass RL = some m.cls := hown
  have hbA : ¬ LA s b := Nat.not_le.mpr hbl
  have hAG : ∀ q, inO aG o q → LA s q := fun q h => h.elim (fun ⟨i, hi, e⟩ => e ▸ hLG i hi) (fun e => e ▸ hLo)
  have hAM : ∀ q, inA aM 8 q → LA s q := fun q ⟨i, hi, e⟩ => e ▸ hLM i hi
  have hMo : ∀ j, j ≤ 8 → ¬ inO aG o (aM j) := fun j hj h => h.elim (fun ⟨i, hi, e⟩ => hGM i hi j hj e.symm) (fun e => hoM j hj e.symm)
  have hGm : ∀ i, i ≤ 23 → ¬ inA aM 8 (aG i) := fun i hi ⟨j, hj, e⟩ => hGM i hi j hj e
  have hOm : ¬ inA aM 8 o := fun ⟨j, hj, e⟩ => hoM j hj e
  intro n np nq F th T g H locs ls d0 hd0 hW hl
  obtain ⟨hI, hG, hM, hO, hS⟩ := hW
  have hBM : ∀ q, inB aM 8 H.size q → LA s q := fun q h => h.elim (hAM q) (fun h2 => Nat.le_trans hS.1 h2)
  obtain ⟨hn, hnp, hnq, hsk, hrip, hfr, h11b, h12b, hpc, hsc⟩ := id hI
  have hts := dr_words (fun w h => hts0 w (wsL_law_in w h)) d0
  have hX : va_X b L xs (s.setDrawn d0) s.heap := hX
  have hK : va_K D vwCl (gT cI cZ cO ++ [(cL, .long)]) (s.setDrawn d0) := hK
  have hRc : cc + 20 ≤ room_1.cells := hcc
  have hRs : ss + 100 ≤ room_1.slots := hss
  refine lv_aload_n hx hb dL_law_662 rfl (lv_at hl 1 rfl) ?_
  refine lv_aload_n hx hb dL_law_663 rfl (lv_at hl 0 rfl) ?_
  refine lv_iload hx hb dL_law_664 (lv_at hl 4 rfl) ?_
  refine lv_iconst (v := nI 1) hx hb dL_law_666 (by decide) ?_
  refine nv_iadd hx hb dL_law_667 ?_
  refine nv_sld hx hb hX hbl hbA hS (j := i + 1) (by omega) (by omega) dL_law_668 ?_
  refine lv_aload_n hx hb dL_law_669 rfl (lv_at hl 0 rfl) ?_
  refine lv_iload hx hb dL_law_670 (lv_at hl 4 rfl) ?_
  refine lv_iconst (v := nI 2) hx hb dL_law_672 (by decide) ?_
  refine nv_iadd hx hb dL_law_673 ?_
  refine nv_sld hx hb hX hbl hbA hS (j := i + 2) (by omega) (by omega) dL_law_674 ?_
  refine lv_aload_n hx hb dL_law_675 rfl (lv_at hl 3 rfl) ?_
  refine va_calli (vx_runSW (As := [.ref (aG 0), .int (xs (i + 1)), .int (xs (i + 2)), .ref o]) (rest := []) ⟨hx, hb, hml, hown, hts⟩ (c_L_piece l hst D cI cZ cO cL aG n np nq F o g (xs (i + 1)) (xs (i + 2)) hiG hoG hnp) (vx_cwSW 4 hts gL_law_L_piece rfl rfl rfl (by decide +kernel) ⟨Nat.le_of_ble_eq_true rfl, Nat.le_of_ble_eq_true rfl⟩) (pr_S (hG.app hO) hK [0, 1, 2, 3] rfl (hEL.at hS sub_id hAG) EnvL_c) rfl rfl hl.1 rfl (lv_room (Nat.le_of_ble_eq_true rfl)) dL_law_676 ⟨by omega, by omega⟩) hS (fun q _ h => hAG q h) (fun q h => hAG q h) (fun r0 u t H1 locs ht hvm hw hB hz hk hS => ?_)
  rw [ht] at hB
  obtain ⟨hG, hO⟩ := hB
  have hM := M_apart hM hiM (inO aG o) hMo hk
  have hBM : ∀ q, inB aM 8 H1.size q → LA s q := fun q h => h.elim (hAM q) (fun h2 => Nat.le_trans hS.1 h2)
  subst hw
  refine lv_istore (lv' := [(5, .int (nI (spPiece np F (xs (i + 1)) (xs (i + 2))).1)), (0, .ref b), (1, .ref (aG 0)), (2, .ref (aM 0)), (3, .ref o), (4, .int (nI i))]) hx hb dL_law_679 hl (by decide) rfl (fun ls hl => ?_)
  refine lv_aload_n hx hb dL_law_681 rfl (lv_at hl 3 rfl) ?_
  refine lv_aload_n hx hb dL_law_682 rfl (lv_at hl 1 rfl) ?_
  refine lv_iload hx hb dL_law_683 (lv_at hl 5 rfl) ?_
  refine lv_iconst (v := nI 1) hx hb dL_law_685 (by decide) ?_
  refine nv_iadd hx hb dL_law_686 ?_
  refine nv_sld hx hb hX hbl hbA hS (j := i + 1) (by omega) (by omega) dL_law_687 ?_
  refine lv_aload_n hx hb dL_law_688 rfl (lv_at hl 1 rfl) ?_
  refine lv_iload hx hb dL_law_689 (lv_at hl 5 rfl) ?_
  refine lv_iconst (v := nI 2) hx hb dL_law_691 (by decide) ?_
  refine nv_iadd hx hb dL_law_692 ?_
  refine nv_sld hx hb hX hbl hbA hS (j := i + 2) (by omega) (by omega) dL_law_693 ?_
  refine va_calli (va_runV (As := [.int (xs (i + 1)), .int (xs (i + 2))]) (rest := []) ⟨hx, hb, hml, hown, hts⟩ (c_X1_piece l D cI aM th n np nq F T (xs (i + 1)) (xs (i + 2)) hiM hnp) (cwV 2 hts gL_law_X1_piece rfl rfl rfl (by decide +kernel) ⟨Nat.le_of_ble_eq_true rfl, Nat.le_of_ble_eq_true rfl⟩) (pr_V hM (ci := 1) (q0 := 0) rfl m_at0 rfl hM hK [0] rfl V0_at V0_c) rfl rfl hl.1 rfl (lv_room (Nat.le_of_ble_eq_true rfl)) dL_law_694 ⟨by omega, by omega⟩) hS (fun q _ h => hAM q h) (fun q h => hAM q h) (fun r1 u1 t H2 locs ht hvm hw hB hz hk hS => ?_)
  rw [ht] at hB
  have hG := G_apart hG hiG (inA aM 8) hGm hk
  have hO := O_apart hO (inA aM 8) hOm hk
  have hM := hB
  subst hw
  refine lv_istore (lv' := [(6, .int (spPiece np F (xs (i + 1)) (xs (i + 2))).2), (5, .int (nI (spPiece np F (xs (i + 1)) (xs (i + 2))).1)), (0, .ref b), (1, .ref (aG 0)), (2, .ref (aM 0)), (3, .ref o), (4, .int (nI i))]) hx hb dL_law_697 hl (by decide) rfl (fun ls hl => ?_)
  refine lv_aload_n hx hb dL_law_699 rfl (lv_at hl 4 rfl) ?_
  refine va_calli (va_runV (As := []) (rest := []) ⟨hx, hb, hml, hown, hts⟩ (c_X1_thrown l D cI aM (nI (spPiece np F (xs (i + 1)) (xs (i + 2))).1) n np nq F T) (cwV 0 hts gL_law_X1_thrown rfl rfl rfl (by decide +kernel) ⟨Nat.le_of_ble_eq_true rfl, Nat.le_of_ble_eq_true rfl⟩) (pr_V hM (ci := 1) (q0 := 0) rfl m_at0 rfl hM hK [0] rfl V0_at V0_c) rfl rfl hl.1 rfl (lv_room (Nat.le_of_ble_eq_true rfl)) dL_law_700 ⟨by omega, by omega⟩) hS (fun _ _ h => h.elim) (fun _ h => h.elim) (fun r2 u2 t H3 locs ht hvm hw hB hz hk hS => ?_)
  have hG := P_kept hG hk
  have hM := P_kept hM hk
  have hO := P_kept hO hk
  subst hw
  refine lv_iload hx hb dL_law_703 (lv_at hl 1 rfl) ?_
  have fin : W p l e room_1 (s.setDrawn d0) m #[Value.ref b] below meth c H3 locs (cc + 20) (ss + 100) (lw_Z below #[Value.ref b] s) (F0 m 727 ls []) := by
    refine lv_goto (tgt := 1325) hx hb dL_law_727 (by decide) ?_
    exact kk n np nq F _ T _ _ _ _ _ hd0 ⟨hI, hG, hM, hO, hS⟩ (lv_sub hl [2, 3, 4, 5, 6] rfl)
  refine W.widen (k := cc + 20) (n := ss + 100) (by omega) (by omega) ?_
  refine lv_icmp_eq (tgt := 710) hx hb dL_law_705 (by decide) (fun _ => ?_) (fun h9 => absurd rfl h9)
  refine lv_iload hx hb dL_law_710 (lv_at hl 1 rfl) ?_
  refine lv_if_ne (tgt := 727) hx hb dL_law_712 (by decide) (fun _ => fin) (fun h9 => ?_)
  have h9 : (spPiece np F (xs (i + 1)) (xs (i + 2))).1 = 0 := nI_z bd_piece h9
  refine lv_aload_n hx hb dL_law_715 rfl (lv_at hl 5 rfl) ?_
  refine lv_iconst (v := nI 0) hx hb dL_law_716 (by decide) ?_
  refine nv_lald0 hx hb hK hO 0 3 rfl rfl dL_law_717 ?_
  rw [outG_0 _ h9]
  refine lv_iload hx hb dL_law_718 (lv_at hl 0 rfl) ?_
  refine lv_i2l hx hb dL_law_720 rfl ?_
  refine lv_lcmpS hx hb dL_law_721 ?_
  exact lv_if_eq (tgt := 727) hx hb dL_law_722 (by decide) (fun _ => fin) (fun h => absurd rfl h)
set_option maxHeartbeats 4000000 in
set_option maxRecDepth 100000 in
theorem lw_case7 {p : Program} {l : Launch} {e : Env} {s : State} {m : MethodId} {below : List Frame} {meth : Method} {c : Code} {b L : Nat} {xs : Nat → Int32} (hst : l.stackTraces = false) (hL : L ≤ 3584) (C0 : lw_At p s m meth c b L xs) {D : va_G} {cI cZ cO cL : ClassId} {aG aM : Nat → Nat} {o : Nat} (K : LwF s D cI cZ cO cL aG aM o) {i cc ss : Nat} (hi : i + 7 ≤ L) (hcc : cc + 20 ≤ 653633) (hss : ss + 100 ≤ 7135204) (kk : LwK p l e s m below meth c b D cI cZ cO cL aG aM o i (cc + 20) (ss + 100) 1325) : LwK p l e s m below meth c b D cI cZ cO cL aG aM o i cc ss 730 := by
  obtain ⟨hx, hb, hr, hml, hown, hts0, hX, hbl, hlocks, hgv⟩ := C0
  obtain ⟨hK, hiG, hiM, hGM, hoG, hoM, hLG, hLM, hLo, hEL, hEM⟩ := K
  have hb : c.code = cL_law := hb
  have hown : s.vm.findClass RL = some m.cls := hown
  have hbA : ¬ LA s b := Nat.not_le.mpr hbl
  have hAG : ∀ q, inO aG o q → LA s q := fun q h => h.elim (fun ⟨i, hi, e⟩ => e ▸ hLG i hi) (fun e => e ▸ hLo)
  have hAM : ∀ q, inA aM 8 q → LA s q := fun q ⟨i, hi, e⟩ => e ▸ hLM i hi
  have hMo : ∀ j, j ≤ 8 → ¬ inO aG o (aM j) := fun j hj h => h.elim (fun ⟨i, hi, e⟩ => hGM i hi j hj e.symm) (fun e => hoM j hj e.symm)
  have hGm : ∀ i, i ≤ 23 → ¬ inA aM 8 (aG i) := fun i hi ⟨j, hj, e⟩ => hGM i hi j hj e
  have hOm : ¬ inA aM 8 o := fun ⟨j, hj, e⟩ => hoM j hj e
  intro n np nq F th T g H locs ls d0 hd0 hW hl
  obtain ⟨hI, hG, hM, hO, hS⟩ := hW
  have hBM : ∀ q, inB aM 8 H.size q → LA s q := fun q h => h.elim (hAM q) (fun h2 => Nat.le_trans hS.1 h2)
  obtain ⟨hn, hnp, hnq, hsk, hrip, hfr, h11b, h12b, hpc, hsc⟩ := id hI
  have hts := dr_words (fun w h => hts0 w (wsL_law_in w h)) d0
  have hX : va_X b L xs (s.setDrawn d0) s.heap := hX
  have hK : va_K D vwCl (gT cI cZ cO ++ [(cL, .long)]) (s.setDrawn d0) := hK
  have hRc : cc + 20 ≤ room_1.cells := hcc
  have hRs : ss + 100 ≤ room_1.slots := hss
  refine lv_aload_n hx hb dL_law_730 rfl (lv_at hl 1 rfl) ?_
  refine lv_aload_n hx hb dL_law_731 rfl (lv_at hl 0 rfl) ?_
  refine lv_iload hx hb dL_law_732 (lv_at hl 4 rfl) ?_
  refine lv_iconst (v := nI 1) hx hb dL_law_734 (by decide) ?_
  refine nv_iadd hx hb dL_law_735 ?_
  refine nv_sld hx hb hX hbl hbA hS (j := i + 1) (by omega) (by omega) dL_law_736 ?_
  refine lv_aload_n hx hb dL_law_737 rfl (lv_at hl 3 rfl) ?_
  refine va_calli (vx_runSW (As := [.ref (aG 0), .int (xs (i + 1)), .ref o]) (rest := []) ⟨hx, hb, hml, hown, hts⟩ (c_L_sew l hst D cI cZ cO cL aG n np nq F o g (xs (i + 1)) hiG hoG hn hnp hnq hsk (hfr nq (Nat.le_refl _) hnq) h11b) (vx_cwSW 3 hts gL_law_L_sew rfl rfl rfl (by decide +kernel) ⟨Nat.le_of_ble_eq_true rfl, Nat.le_of_ble_eq_true rfl⟩) (pr_S (hG.app hO) hK [0, 1, 2, 3] rfl (hEL.at hS sub_id hAG) EnvL_c) rfl rfl hl.1 rfl (lv_room (Nat.le_of_ble_eq_true rfl)) dL_law_738 ⟨by omega, by omega⟩) hS (fun q _ h => hAG q h) (fun q h => hAG q h) (fun r0 u t H1 locs ht hvm hw hB hz hk hS => ?_)
  rw [ht] at hB
  obtain ⟨hG, hO⟩ := hB
  have hM := M_apart hM hiM (inO aG o) hMo hk
  have hBM : ∀ q, inB aM 8 H1.size q → LA s q := fun q h => h.elim (hAM q) (fun h2 => Nat.le_trans hS.1 h2)
  obtain ⟨n2, np2, nq2, F2, hI2, eG, eM⟩ := two_sew (cI := cI) (cZ := cZ) (cO := cO) (aG := aG) (aM := aM) hI (xs (i + 1))
  rw [eG] at hG
  subst hw
  refine lv_istore (lv' := [(5, .int (nI (spSew n np nq F (xs (i + 1))).1)), (0, .ref b), (1, .ref (aG 0)), (2, .ref (aM 0)), (3, .ref o), (4, .int (nI i))]) hx hb dL_law_741 hl (by decide) rfl (fun ls hl => ?_)
  refine lv_aload_n hx hb dL_law_743 rfl (lv_at hl 3 rfl) ?_
  refine lv_aload_n hx hb dL_law_744 rfl (lv_at hl 1 rfl) ?_
  refine lv_iload hx hb dL_law_745 (lv_at hl 5 rfl) ?_
  refine lv_iconst (v := nI 1) hx hb dL_law_747 (by decide) ?_
  refine nv_iadd hx hb dL_law_748 ?_
  refine nv_sld hx hb hX hbl hbA hS (j := i + 1) (by omega) (by omega) dL_law_749 ?_
  refine va_calli (va_runV (As := [.int (xs (i + 1))]) (rest := []) ⟨hx, hb, hml, hown, hts⟩ (c_X1_sew l D cI aM th n np nq F T H1.size (xs (i + 1)) hiM hn hnp hnq hsk h12b) (cwV 1 hts gL_law_X1_sew rfl rfl rfl (by decide +kernel) ⟨Nat.le_of_ble_eq_true rfl, Nat.le_of_ble_eq_true rfl⟩) (pr_V hM (ci := 1) (q0 := 0) rfl m_at0 rfl hM hK [0] rfl (fun U hU hW => ⟨hEM.at hS sub_id hBM U hU hW, by rw [hU]⟩) (fun U g mk a h => ⟨EnvM_c U g mk a h.1, h.2⟩)) rfl rfl hl.1 rfl (lv_room (Nat.le_of_ble_eq_true rfl)) dL_law_750 ⟨by omega, by omega⟩) hS (fun q _ h => hBM q h) (fun q h => hBM q h) (fun r1 u1 t H2 locs ht hvm hw hB hz hk hS => ?_)
  rw [ht] at hB
  have hk := un_B hk
  have hG := G_apart hG hiG (inA aM 8) hGm hk
  have hO := O_apart hO (inA aM 8) hOm hk
  rw [eM T] at hB
  have hM := hB
  subst hw
  refine lv_istore (lv' := [(6, .int (spSew n np nq F (xs (i + 1))).2), (5, .int (nI (spSew n np nq F (xs (i + 1))).1)), (0, .ref b), (1, .ref (aG 0)), (2, .ref (aM 0)), (3, .ref o), (4, .int (nI i))]) hx hb dL_law_753 hl (by decide) rfl (fun ls hl => ?_)
  refine lv_aload_n hx hb dL_law_755 rfl (lv_at hl 4 rfl) ?_
  refine va_calli (va_runV (As := []) (rest := []) ⟨hx, hb, hml, hown, hts⟩ (c_X1_thrown l D cI aM (nI (spSew n np nq F (xs (i + 1))).1) n2 np2 nq2 F2 T) (cwV 0 hts gL_law_X1_thrown rfl rfl rfl (by decide +kernel) ⟨Nat.le_of_ble_eq_true rfl, Nat.le_of_ble_eq_true rfl⟩) (pr_V hM (ci := 1) (q0 := 0) rfl m_at0 rfl hM hK [0] rfl V0_at V0_c) rfl rfl hl.1 rfl (lv_room (Nat.le_of_ble_eq_true rfl)) dL_law_756 ⟨by omega, by omega⟩) hS (fun _ _ h => h.elim) (fun _ h => h.elim) (fun r2 u2 t H3 locs ht hvm hw hB hz hk hS => ?_)
  have hG := P_kept hG hk
  have hM := P_kept hM hk
  have hO := P_kept hO hk
  subst hw
  refine lv_iload hx hb dL_law_759 (lv_at hl 1 rfl) ?_
  have fin : W p l e room_1 (s.setDrawn d0) m #[Value.ref b] below meth c H3 locs (cc + 20) (ss + 100) (lw_Z below #[Value.ref b] s) (F0 m 783 ls []) := by
    refine lv_goto (tgt := 1325) hx hb dL_law_783 (by decide) ?_
    exact kk n2 np2 nq2 F2 _ T _ _ _ _ _ hd0 ⟨hI2, hG, hM, hO, hS⟩ (lv_sub hl [2, 3, 4, 5, 6] rfl)
  refine W.widen (k := cc + 20) (n := ss + 100) (by omega) (by omega) ?_
  refine lv_icmp_eq (tgt := 766) hx hb dL_law_761 (by decide) (fun _ => ?_) (fun h9 => absurd rfl h9)
  refine lv_iload hx hb dL_law_766 (lv_at hl 1 rfl) ?_
  refine lv_if_ne (tgt := 783) hx hb dL_law_768 (by decide) (fun _ => fin) (fun h9 => ?_)
  have h9 : (spSew n np nq F (xs (i + 1))).1 = 0 := nI_z bd_sew h9
  refine lv_aload_n hx hb dL_law_771 rfl (lv_at hl 5 rfl) ?_
  refine lv_iconst (v := nI 0) hx hb dL_law_772 (by decide) ?_
  refine nv_lald0 hx hb hK hO 0 3 rfl rfl dL_law_773 ?_
  rw [outG_0 _ h9]
  refine lv_iload hx hb dL_law_774 (lv_at hl 0 rfl) ?_
  refine lv_i2l hx hb dL_law_776 rfl ?_
  refine lv_lcmpS hx hb dL_law_777 ?_
  exact lv_if_eq (tgt := 783) hx hb dL_law_778 (by decide) (fun _ => fin) (fun h => absurd rfl h)
set_option maxHeartbeats 4000000 in
set_option maxRecDepth 100000 in
theorem lw_case8 {p : Program} {l : Launch} {e : Env} {s : State} {m : MethodId} {below : List Frame} {meth : Method} {c : Code} {b L : Nat} {xs : Nat → Int32} (hst : l.stackTraces = false) (hL : L ≤ 3584) (C0 : lw_At p s m meth c b L xs) {D : va_G} {cI cZ cO cL : ClassId} {aG aM : Nat → Nat} {o : Nat} (K : LwF s D cI cZ cO cL aG aM o) {i cc ss : Nat} (hi : i + 7 ≤ L) (hcc : cc + 20 ≤ 653633) (hss : ss + 100 ≤ 7135204) (kk : LwK p l e s m below meth c b D cI cZ cO cL aG aM o i (cc + 20) (ss + 100) 1325) : LwK p l e s m below meth c b D cI cZ cO cL aG aM o i cc ss 786 := by
  obtain ⟨hx, hb, hr, hml, hown, hts0, hX, hbl, hlocks, hgv⟩ := C0
  obtain ⟨hK, hiG, hiM, hGM, hoG, hoM, hLG, hLM, hLo, hEL, hEM⟩ := K
  have hb : c.code = cL_law := hb
  have hown : s.vm.findClass RL = some m.cls := hown
  have hbA : ¬ LA s b := Nat.not_le.mpr hbl
  have hAG : ∀ q, inO aG o q → LA s q := fun q h => h.elim (fun ⟨i, hi, e⟩ => e ▸ hLG i hi) (fun e => e ▸ hLo)
  have hAM : ∀ q, inA aM 8 q → LA s q := fun q ⟨i, hi, e⟩ => e ▸ hLM i hi
  have hMo : ∀ j, j ≤ 8 → ¬ inO aG o (aM j) := fun j hj h => h.elim (fun ⟨i, hi, e⟩ => hGM i hi j hj e.symm) (fun e => hoM j hj e.symm)
  have hGm : ∀ i, i ≤ 23 → ¬ inA aM 8 (aG i) := fun i hi ⟨j, hj, e⟩ => hGM i hi j hj e
  have hOm : ¬ inA aM 8 o := fun ⟨j, hj, e⟩ => hoM j hj e
  intro n np nq F th T g H locs ls d0 hd0 hW hl
  obtain ⟨hI, hG, hM, hO, hS⟩ := hW
  have hBM : ∀ q, inB aM 8 H.size q → LA s q := fun q h => h.elim (hAM q) (fun h2 => Nat.le_trans hS.1 h2)
  obtain ⟨hn, hnp, hnq, hsk, hrip, hfr, h11b, h12b, hpc, hsc⟩ := id hI
  have hts := dr_words (fun w h => hts0 w (wsL_law_in w h)) d0
  have hX : va_X b L xs (s.setDrawn d0) s.heap := hX
  have hK : va_K D vwCl (gT cI cZ cO ++ [(cL, .long)]) (s.setDrawn d0) := hK
  have hRc : cc + 20 ≤ room_1.cells := hcc
  have hRs : ss + 100 ≤ room_1.slots := hss
  refine lv_aload_n hx hb dL_law_786 rfl (lv_at hl 1 rfl) ?_
  refine lv_aload_n hx hb dL_law_787 rfl (lv_at hl 0 rfl) ?_
  refine lv_iload hx hb dL_law_788 (lv_at hl 4 rfl) ?_
  refine lv_iconst (v := nI 1) hx hb dL_law_790 (by decide) ?_
  refine nv_iadd hx hb dL_law_791 ?_
  refine nv_sld hx hb hX hbl hbA hS (j := i + 1) (by omega) (by omega) dL_law_792 ?_
  refine lv_aload_n hx hb dL_law_793 rfl (lv_at hl 3 rfl) ?_
  refine va_calli (vx_runSW (As := [.ref (aG 0), .int (xs (i + 1)), .ref o]) (rest := []) ⟨hx, hb, hml, hown, hts⟩ (c_L_rip l hst D cI cZ cO cL aG n np nq F o g (xs (i + 1)) hiG hoG hnp hnq) (vx_cwSW 3 hts gL_law_L_rip rfl rfl rfl (by decide +kernel) ⟨Nat.le_of_ble_eq_true rfl, Nat.le_of_ble_eq_true rfl⟩) (pr_S (hG.app hO) hK [0, 1, 2, 3] rfl (hEL.at hS sub_id hAG) EnvL_c) rfl rfl hl.1 rfl (lv_room (Nat.le_of_ble_eq_true rfl)) dL_law_794 ⟨by omega, by omega⟩) hS (fun q _ h => hAG q h) (fun q h => hAG q h) (fun r0 u t H1 locs ht hvm hw hB hz hk hS => ?_)
  rw [ht] at hB
  obtain ⟨hG, hO⟩ := hB
  have hM := M_apart hM hiM (inO aG o) hMo hk
  have hBM : ∀ q, inB aM 8 H1.size q → LA s q := fun q h => h.elim (hAM q) (fun h2 => Nat.le_trans hS.1 h2)
  obtain ⟨n2, np2, nq2, F2, hI2, eG, eM⟩ := two_rip (cI := cI) (cZ := cZ) (cO := cO) (aG := aG) (aM := aM) hI (xs (i + 1))
  rw [eG] at hG
  subst hw
  refine lv_istore (lv' := [(5, .int (nI (spRip np nq F (xs (i + 1))).1)), (0, .ref b), (1, .ref (aG 0)), (2, .ref (aM 0)), (3, .ref o), (4, .int (nI i))]) hx hb dL_law_797 hl (by decide) rfl (fun ls hl => ?_)
  refine lv_aload_n hx hb dL_law_799 rfl (lv_at hl 3 rfl) ?_
  refine lv_aload_n hx hb dL_law_800 rfl (lv_at hl 1 rfl) ?_
  refine lv_iload hx hb dL_law_801 (lv_at hl 5 rfl) ?_
  refine lv_iconst (v := nI 1) hx hb dL_law_803 (by decide) ?_
  refine nv_iadd hx hb dL_law_804 ?_
  refine nv_sld hx hb hX hbl hbA hS (j := i + 1) (by omega) (by omega) dL_law_805 ?_
  refine va_calli (va_runV (As := [.int (xs (i + 1))]) (rest := []) ⟨hx, hb, hml, hown, hts⟩ (c_X1_rip l D cI aM th n np nq F T (xs (i + 1)) hiM hnp hnq hrip) (cwV 1 hts gL_law_X1_rip rfl rfl rfl (by decide +kernel) ⟨Nat.le_of_ble_eq_true rfl, Nat.le_of_ble_eq_true rfl⟩) (pr_V hM (ci := 1) (q0 := 0) rfl m_at0 rfl hM hK [0] rfl V0_at V0_c) rfl rfl hl.1 rfl (lv_room (Nat.le_of_ble_eq_true rfl)) dL_law_806 ⟨by omega, by omega⟩) hS (fun q _ h => hAM q h) (fun q h => hAM q h) (fun r1 u1 t H2 locs ht hvm hw hB hz hk hS => ?_)
  rw [ht] at hB
  have hG := G_apart hG hiG (inA aM 8) hGm hk
  have hO := O_apart hO (inA aM 8) hOm hk
  rw [eM T] at hB
  have hM := hB
  subst hw
  refine lv_istore (lv' := [(6, .int (spRip np nq F (xs (i + 1))).2), (5, .int (nI (spRip np nq F (xs (i + 1))).1)), (0, .ref b), (1, .ref (aG 0)), (2, .ref (aM 0)), (3, .ref o), (4, .int (nI i))]) hx hb dL_law_809 hl (by decide) rfl (fun ls hl => ?_)
  refine lv_aload_n hx hb dL_law_811 rfl (lv_at hl 4 rfl) ?_
  refine va_calli (va_runV (As := []) (rest := []) ⟨hx, hb, hml, hown, hts⟩ (c_X1_thrown l D cI aM (nI (spRip np nq F (xs (i + 1))).1) n2 np2 nq2 F2 T) (cwV 0 hts gL_law_X1_thrown rfl rfl rfl (by decide +kernel) ⟨Nat.le_of_ble_eq_true rfl, Nat.le_of_ble_eq_true rfl⟩) (pr_V hM (ci := 1) (q0 := 0) rfl m_at0 rfl hM hK [0] rfl V0_at V0_c) rfl rfl hl.1 rfl (lv_room (Nat.le_of_ble_eq_true rfl)) dL_law_812 ⟨by omega, by omega⟩) hS (fun _ _ h => h.elim) (fun _ h => h.elim) (fun r2 u2 t H3 locs ht hvm hw hB hz hk hS => ?_)
  have hG := P_kept hG hk
  have hM := P_kept hM hk
  have hO := P_kept hO hk
  subst hw
  refine lv_iload hx hb dL_law_815 (lv_at hl 1 rfl) ?_
  have fin : W p l e room_1 (s.setDrawn d0) m #[Value.ref b] below meth c H3 locs (cc + 20) (ss + 100) (lw_Z below #[Value.ref b] s) (F0 m 839 ls []) := by
    refine lv_goto (tgt := 1325) hx hb dL_law_839 (by decide) ?_
    exact kk n2 np2 nq2 F2 _ T _ _ _ _ _ hd0 ⟨hI2, hG, hM, hO, hS⟩ (lv_sub hl [2, 3, 4, 5, 6] rfl)
  refine W.widen (k := cc + 20) (n := ss + 100) (by omega) (by omega) ?_
  refine lv_icmp_eq (tgt := 822) hx hb dL_law_817 (by decide) (fun _ => ?_) (fun h9 => absurd rfl h9)
  refine lv_iload hx hb dL_law_822 (lv_at hl 1 rfl) ?_
  refine lv_if_ne (tgt := 839) hx hb dL_law_824 (by decide) (fun _ => fin) (fun h9 => ?_)
  have h9 : (spRip np nq F (xs (i + 1))).1 = 0 := nI_z bd_rip h9
  refine lv_aload_n hx hb dL_law_827 rfl (lv_at hl 5 rfl) ?_
  refine lv_iconst (v := nI 0) hx hb dL_law_828 (by decide) ?_
  refine nv_lald0 hx hb hK hO 0 3 rfl rfl dL_law_829 ?_
  rw [outG_0 _ h9]
  refine lv_iload hx hb dL_law_830 (lv_at hl 0 rfl) ?_
  refine lv_i2l hx hb dL_law_832 rfl ?_
  refine lv_lcmpS hx hb dL_law_833 ?_
  exact lv_if_eq (tgt := 839) hx hb dL_law_834 (by decide) (fun _ => fin) (fun h => absurd rfl h)
set_option maxHeartbeats 4000000 in
set_option maxRecDepth 100000 in
theorem lw_case9 {p : Program} {l : Launch} {e : Env} {s : State} {m : MethodId} {below : List Frame} {meth : Method} {c : Code} {b L : Nat} {xs : Nat → Int32} (hst : l.stackTraces = false) (hL : L ≤ 3584) (C0 : lw_At p s m meth c b L xs) {D : va_G} {cI cZ cO cL : ClassId} {aG aM : Nat → Nat} {o : Nat} (K : LwF s D cI cZ cO cL aG aM o) {i cc ss : Nat} (hi : i + 7 ≤ L) (hcc : cc + 20 ≤ 653633) (hss : ss + 100 ≤ 7135204) (kk : LwK p l e s m below meth c b D cI cZ cO cL aG aM o i (cc + 20) (ss + 100) 1325) : LwK p l e s m below meth c b D cI cZ cO cL aG aM o i cc ss 842 := by
  obtain ⟨hx, hb, hr, hml, hown, hts0, hX, hbl, hlocks, hgv⟩ := C0
  obtain ⟨hK, hiG, hiM, hGM, hoG, hoM, hLG, hLM, hLo, hEL, hEM⟩ := K
  have hb : c.code = cL_law := hb
  have hown : s.vm.findClass RL = some m.cls := hown
  have hbA : ¬ LA s b := Nat.not_le.mpr hbl
  have hAG : ∀ q, inO aG o q → LA s q := fun q h => h.elim (fun ⟨i, hi, e⟩ => e ▸ hLG i hi) (fun e => e ▸ hLo)
  have hAM : ∀ q, inA aM 8 q → LA s q := fun q ⟨i, hi, e⟩ => e ▸ hLM i hi
  have hMo : ∀ j, j ≤ 8 → ¬ inO aG o (aM j) := fun j hj h => h.elim (fun ⟨i, hi, e⟩ => hGM i hi j hj e.symm) (fun e => hoM j hj e.symm)
  have hGm : ∀ i, i ≤ 23 → ¬ inA aM 8 (aG i) := fun i hi ⟨j, hj, e⟩ => hGM i hi j hj e
  have hOm : ¬ inA aM 8 o := fun ⟨j, hj, e⟩ => hoM j hj e
  intro n np nq F th T g H locs ls d0 hd0 hW hl
  obtain ⟨hI, hG, hM, hO, hS⟩ := hW
  have hBM : ∀ q, inB aM 8 H.size q → LA s q := fun q h => h.elim (hAM q) (fun h2 => Nat.le_trans hS.1 h2)
  obtain ⟨hn, hnp, hnq, hsk, hrip, hfr, h11b, h12b, hpc, hsc⟩ := id hI
  have hts := dr_words (fun w h => hts0 w (wsL_law_in w h)) d0
  have hX : va_X b L xs (s.setDrawn d0) s.heap := hX
  have hK : va_K D vwCl (gT cI cZ cO ++ [(cL, .long)]) (s.setDrawn d0) := hK
  have hRc : cc + 20 ≤ room_1.cells := hcc
  have hRs : ss + 100 ≤ room_1.slots := hss
  refine lv_aload_n hx hb dL_law_842 rfl (lv_at hl 1 rfl) ?_
  refine lv_aload_n hx hb dL_law_843 rfl (lv_at hl 0 rfl) ?_
  refine lv_iload hx hb dL_law_844 (lv_at hl 4 rfl) ?_
  refine lv_iconst (v := nI 1) hx hb dL_law_846 (by decide) ?_
  refine nv_iadd hx hb dL_law_847 ?_
  refine nv_sld hx hb hX hbl hbA hS (j := i + 1) (by omega) (by omega) dL_law_848 ?_
  refine lv_aload_n hx hb dL_law_849 rfl (lv_at hl 0 rfl) ?_
  refine lv_iload hx hb dL_law_850 (lv_at hl 4 rfl) ?_
  refine lv_iconst (v := nI 2) hx hb dL_law_852 (by decide) ?_
  refine nv_iadd hx hb dL_law_853 ?_
  refine nv_sld hx hb hX hbl hbA hS (j := i + 2) (by omega) (by omega) dL_law_854 ?_
  refine lv_aload_n hx hb dL_law_855 rfl (lv_at hl 3 rfl) ?_
  refine va_calli (vx_runSW (As := [.ref (aG 0), .int (xs (i + 1)), .int (xs (i + 2)), .ref o]) (rest := []) ⟨hx, hb, hml, hown, hts⟩ (c_L_pair l hst D cI cZ cO cL aG n np nq F o g (xs (i + 1)) (xs (i + 2)) hiG hoG hnq hrip) (vx_cwSW 4 hts gL_law_L_pair rfl rfl rfl (by decide +kernel) ⟨Nat.le_of_ble_eq_true rfl, Nat.le_of_ble_eq_true rfl⟩) (pr_S (hG.app hO) hK [0, 1, 2, 3] rfl (hEL.at hS sub_id hAG) EnvL_c) rfl rfl hl.1 rfl (lv_room (Nat.le_of_ble_eq_true rfl)) dL_law_856 ⟨by omega, by omega⟩) hS (fun q _ h => hAG q h) (fun q h => hAG q h) (fun r0 u t H1 locs ht hvm hw hB hz hk hS => ?_)
  rw [ht] at hB
  obtain ⟨hG, hO⟩ := hB
  have hM := M_apart hM hiM (inO aG o) hMo hk
  have hBM : ∀ q, inB aM 8 H1.size q → LA s q := fun q h => h.elim (hAM q) (fun h2 => Nat.le_trans hS.1 h2)
  subst hw
  refine lv_istore (lv' := [(5, .int (nI (spPair nq F (xs (i + 1)) (xs (i + 2))).1)), (0, .ref b), (1, .ref (aG 0)), (2, .ref (aM 0)), (3, .ref o), (4, .int (nI i))]) hx hb dL_law_859 hl (by decide) rfl (fun ls hl => ?_)
  refine lv_aload_n hx hb dL_law_861 rfl (lv_at hl 3 rfl) ?_
  refine lv_aload_n hx hb dL_law_862 rfl (lv_at hl 1 rfl) ?_
  refine lv_iload hx hb dL_law_863 (lv_at hl 5 rfl) ?_
  refine lv_iconst (v := nI 1) hx hb dL_law_865 (by decide) ?_
  refine nv_iadd hx hb dL_law_866 ?_
  refine nv_sld hx hb hX hbl hbA hS (j := i + 1) (by omega) (by omega) dL_law_867 ?_
  refine lv_aload_n hx hb dL_law_868 rfl (lv_at hl 1 rfl) ?_
  refine lv_iload hx hb dL_law_869 (lv_at hl 5 rfl) ?_
  refine lv_iconst (v := nI 2) hx hb dL_law_871 (by decide) ?_
  refine nv_iadd hx hb dL_law_872 ?_
  refine nv_sld hx hb hX hbl hbA hS (j := i + 2) (by omega) (by omega) dL_law_873 ?_
  refine va_calli (va_runV (As := [.int (xs (i + 1)), .int (xs (i + 2))]) (rest := []) ⟨hx, hb, hml, hown, hts⟩ (c_X1_pair l D cI aM th n np nq F T (xs (i + 1)) (xs (i + 2)) hiM hnq) (cwV 2 hts gL_law_X1_pair rfl rfl rfl (by decide +kernel) ⟨Nat.le_of_ble_eq_true rfl, Nat.le_of_ble_eq_true rfl⟩) (pr_V hM (ci := 1) (q0 := 0) rfl m_at0 rfl hM hK [0] rfl V0_at V0_c) rfl rfl hl.1 rfl (lv_room (Nat.le_of_ble_eq_true rfl)) dL_law_874 ⟨by omega, by omega⟩) hS (fun q _ h => hAM q h) (fun q h => hAM q h) (fun r1 u1 t H2 locs ht hvm hw hB hz hk hS => ?_)
  rw [ht] at hB
  have hG := G_apart hG hiG (inA aM 8) hGm hk
  have hO := O_apart hO (inA aM 8) hOm hk
  have hM := hB
  subst hw
  refine lv_istore (lv' := [(6, .int (spPair nq F (xs (i + 1)) (xs (i + 2))).2), (5, .int (nI (spPair nq F (xs (i + 1)) (xs (i + 2))).1)), (0, .ref b), (1, .ref (aG 0)), (2, .ref (aM 0)), (3, .ref o), (4, .int (nI i))]) hx hb dL_law_877 hl (by decide) rfl (fun ls hl => ?_)
  refine lv_aload_n hx hb dL_law_879 rfl (lv_at hl 4 rfl) ?_
  refine va_calli (va_runV (As := []) (rest := []) ⟨hx, hb, hml, hown, hts⟩ (c_X1_thrown l D cI aM (nI (spPair nq F (xs (i + 1)) (xs (i + 2))).1) n np nq F T) (cwV 0 hts gL_law_X1_thrown rfl rfl rfl (by decide +kernel) ⟨Nat.le_of_ble_eq_true rfl, Nat.le_of_ble_eq_true rfl⟩) (pr_V hM (ci := 1) (q0 := 0) rfl m_at0 rfl hM hK [0] rfl V0_at V0_c) rfl rfl hl.1 rfl (lv_room (Nat.le_of_ble_eq_true rfl)) dL_law_880 ⟨by omega, by omega⟩) hS (fun _ _ h => h.elim) (fun _ h => h.elim) (fun r2 u2 t H3 locs ht hvm hw hB hz hk hS => ?_)
  have hG := P_kept hG hk
  have hM := P_kept hM hk
  have hO := P_kept hO hk
  subst hw
  refine lv_iload hx hb dL_law_883 (lv_at hl 1 rfl) ?_
  have fin : W p l e room_1 (s.setDrawn d0) m #[Value.ref b] below meth c H3 locs (cc + 20) (ss + 100) (lw_Z below #[Value.ref b] s) (F0 m 907 ls []) := by
    refine lv_goto (tgt := 1325) hx hb dL_law_907 (by decide) ?_
    exact kk n np nq F _ T _ _ _ _ _ hd0 ⟨hI, hG, hM, hO, hS⟩ (lv_sub hl [2, 3, 4, 5, 6] rfl)
  refine W.widen (k := cc + 20) (n := ss + 100) (by omega) (by omega) ?_
  refine lv_icmp_eq (tgt := 890) hx hb dL_law_885 (by decide) (fun _ => ?_) (fun h9 => absurd rfl h9)
  refine lv_iload hx hb dL_law_890 (lv_at hl 1 rfl) ?_
  refine lv_if_ne (tgt := 907) hx hb dL_law_892 (by decide) (fun _ => fin) (fun h9 => ?_)
  have h9 : (spPair nq F (xs (i + 1)) (xs (i + 2))).1 = 0 := nI_z bd_pair h9
  refine lv_aload_n hx hb dL_law_895 rfl (lv_at hl 5 rfl) ?_
  refine lv_iconst (v := nI 0) hx hb dL_law_896 (by decide) ?_
  refine nv_lald0 hx hb hK hO 0 3 rfl rfl dL_law_897 ?_
  rw [outG_0 _ h9]
  refine lv_iload hx hb dL_law_898 (lv_at hl 0 rfl) ?_
  refine lv_i2l hx hb dL_law_900 rfl ?_
  refine lv_lcmpS hx hb dL_law_901 ?_
  exact lv_if_eq (tgt := 907) hx hb dL_law_902 (by decide) (fun _ => fin) (fun h => absurd rfl h)
set_option maxHeartbeats 4000000 in
set_option maxRecDepth 100000 in
theorem lw_case10 {p : Program} {l : Launch} {e : Env} {s : State} {m : MethodId} {below : List Frame} {meth : Method} {c : Code} {b L : Nat} {xs : Nat → Int32} (hst : l.stackTraces = false) (hL : L ≤ 3584) (C0 : lw_At p s m meth c b L xs) {D : va_G} {cI cZ cO cL : ClassId} {aG aM : Nat → Nat} {o : Nat} (K : LwF s D cI cZ cO cL aG aM o) {i cc ss : Nat} (hi : i + 7 ≤ L) (hcc : cc + 20 ≤ 653633) (hss : ss + 100 ≤ 7135204) (kk : LwK p l e s m below meth c b D cI cZ cO cL aG aM o i (cc + 20) (ss + 100) 1325) : LwK p l e s m below meth c b D cI cZ cO cL aG aM o i cc ss 910 := by
  obtain ⟨hx, hb, hr, hml, hown, hts0, hX, hbl, hlocks, hgv⟩ := C0
  obtain ⟨hK, hiG, hiM, hGM, hoG, hoM, hLG, hLM, hLo, hEL, hEM⟩ := K
  have hb : c.code = cL_law := hb
  have hown : s.vm.findClass RL = some m.cls := hown
  have hbA : ¬ LA s b := Nat.not_le.mpr hbl
  have hAG : ∀ q, inO aG o q → LA s q := fun q h => h.elim (fun ⟨i, hi, e⟩ => e ▸ hLG i hi) (fun e => e ▸ hLo)
  have hAM : ∀ q, inA aM 8 q → LA s q := fun q ⟨i, hi, e⟩ => e ▸ hLM i hi
  have hMo : ∀ j, j ≤ 8 → ¬ inO aG o (aM j) := fun j hj h => h.elim (fun ⟨i, hi, e⟩ => hGM i hi j hj e.symm) (fun e => hoM j hj e.symm)
  have hGm : ∀ i, i ≤ 23 → ¬ inA aM 8 (aG i) := fun i hi ⟨j, hj, e⟩ => hGM i hi j hj e
  have hOm : ¬ inA aM 8 o := fun ⟨j, hj, e⟩ => hoM j hj e
  intro n np nq F th T g H locs ls d0 hd0 hW hl
  obtain ⟨hI, hG, hM, hO, hS⟩ := hW
  have hBM : ∀ q, inB aM 8 H.size q → LA s q := fun q h => h.elim (hAM q) (fun h2 => Nat.le_trans hS.1 h2)
  obtain ⟨hn, hnp, hnq, hsk, hrip, hfr, h11b, h12b, hpc, hsc⟩ := id hI
  have hts := dr_words (fun w h => hts0 w (wsL_law_in w h)) d0
  have hX : va_X b L xs (s.setDrawn d0) s.heap := hX
  have hK : va_K D vwCl (gT cI cZ cO ++ [(cL, .long)]) (s.setDrawn d0) := hK
  have hRc : cc + 20 ≤ room_1.cells := hcc
  have hRs : ss + 100 ≤ room_1.slots := hss
  refine lv_aload_n hx hb dL_law_910 rfl (lv_at hl 1 rfl) ?_
  refine lv_aload_n hx hb dL_law_911 rfl (lv_at hl 0 rfl) ?_
  refine lv_iload hx hb dL_law_912 (lv_at hl 4 rfl) ?_
  refine lv_iconst (v := nI 1) hx hb dL_law_914 (by decide) ?_
  refine nv_iadd hx hb dL_law_915 ?_
  refine nv_sld hx hb hX hbl hbA hS (j := i + 1) (by omega) (by omega) dL_law_916 ?_
  refine lv_aload_n hx hb dL_law_917 rfl (lv_at hl 3 rfl) ?_
  refine va_calli (vx_runSW (As := [.ref (aG 0), .int (xs (i + 1)), .ref o]) (rest := []) ⟨hx, hb, hml, hown, hts⟩ (c_L_count l hst D cI cZ cO cL aG n np nq F o g (xs (i + 1)) hiG hoG hnp hnq) (vx_cwSW 3 hts gL_law_L_count rfl rfl rfl (by decide +kernel) ⟨Nat.le_of_ble_eq_true rfl, Nat.le_of_ble_eq_true rfl⟩) (pr_S (hG.app hO) hK [0, 1, 2, 3] rfl (hEL.at hS sub_id hAG) EnvL_c) rfl rfl hl.1 rfl (lv_room (Nat.le_of_ble_eq_true rfl)) dL_law_918 ⟨by omega, by omega⟩) hS (fun q _ h => hAG q h) (fun q h => hAG q h) (fun r0 u t H1 locs ht hvm hw hB hz hk hS => ?_)
  rw [ht] at hB
  obtain ⟨hG, hO⟩ := hB
  have hM := M_apart hM hiM (inO aG o) hMo hk
  have hBM : ∀ q, inB aM 8 H1.size q → LA s q := fun q h => h.elim (hAM q) (fun h2 => Nat.le_trans hS.1 h2)
  subst hw
  refine lv_istore (lv' := [(5, .int (nI (spCount n np nq F (xs (i + 1))).1)), (0, .ref b), (1, .ref (aG 0)), (2, .ref (aM 0)), (3, .ref o), (4, .int (nI i))]) hx hb dL_law_921 hl (by decide) rfl (fun ls hl => ?_)
  refine lv_aload_n hx hb dL_law_923 rfl (lv_at hl 3 rfl) ?_
  refine lv_aload_n hx hb dL_law_924 rfl (lv_at hl 1 rfl) ?_
  refine lv_iload hx hb dL_law_925 (lv_at hl 5 rfl) ?_
  refine lv_iconst (v := nI 1) hx hb dL_law_927 (by decide) ?_
  refine nv_iadd hx hb dL_law_928 ?_
  refine nv_sld hx hb hX hbl hbA hS (j := i + 1) (by omega) (by omega) dL_law_929 ?_
  refine va_calli (va_runV (As := [.int (xs (i + 1))]) (rest := []) ⟨hx, hb, hml, hown, hts⟩ (c_X1_count l D cI aM th n np nq F T H1.size (xs (i + 1)) hiM hnp hnq hrip) (cwV 1 hts gL_law_X1_count rfl rfl rfl (by decide +kernel) ⟨Nat.le_of_ble_eq_true rfl, Nat.le_of_ble_eq_true rfl⟩) (pr_V hM (ci := 1) (q0 := 0) rfl m_at0 rfl hM hK [0] rfl (fun U hU hW => by show U.heap.size = H1.size; rw [hU]) (fun U g mk a h => h)) rfl rfl hl.1 rfl (lv_room (Nat.le_of_ble_eq_true rfl)) dL_law_930 ⟨by omega, by omega⟩) hS (fun q _ h => hBM q h) (fun q h => hBM q h) (fun r1 u1 t H2 locs ht hvm hw hB hz hk hS => ?_)
  rw [ht] at hB
  have hk := un_B hk
  have hG := G_apart hG hiG (inA aM 8) hGm hk
  have hO := O_apart hO (inA aM 8) hOm hk
  have hM := hB
  subst hw
  refine lv_istore (lv' := [(6, .int (spCount n np nq F (xs (i + 1))).2), (5, .int (nI (spCount n np nq F (xs (i + 1))).1)), (0, .ref b), (1, .ref (aG 0)), (2, .ref (aM 0)), (3, .ref o), (4, .int (nI i))]) hx hb dL_law_933 hl (by decide) rfl (fun ls hl => ?_)
  refine lv_aload_n hx hb dL_law_935 rfl (lv_at hl 4 rfl) ?_
  refine va_calli (va_runV (As := []) (rest := []) ⟨hx, hb, hml, hown, hts⟩ (c_X1_thrown l D cI aM (nI (spCount n np nq F (xs (i + 1))).1) n np nq F T) (cwV 0 hts gL_law_X1_thrown rfl rfl rfl (by decide +kernel) ⟨Nat.le_of_ble_eq_true rfl, Nat.le_of_ble_eq_true rfl⟩) (pr_V hM (ci := 1) (q0 := 0) rfl m_at0 rfl hM hK [0] rfl V0_at V0_c) rfl rfl hl.1 rfl (lv_room (Nat.le_of_ble_eq_true rfl)) dL_law_936 ⟨by omega, by omega⟩) hS (fun _ _ h => h.elim) (fun _ h => h.elim) (fun r2 u2 t H3 locs ht hvm hw hB hz hk hS => ?_)
  have hG := P_kept hG hk
  have hM := P_kept hM hk
  have hO := P_kept hO hk
  subst hw
  refine lv_iload hx hb dL_law_939 (lv_at hl 1 rfl) ?_
  have fin : W p l e room_1 (s.setDrawn d0) m #[Value.ref b] below meth c H3 locs (cc + 20) (ss + 100) (lw_Z below #[Value.ref b] s) (F0 m 963 ls []) := by
    refine lv_goto (tgt := 1325) hx hb dL_law_963 (by decide) ?_
    exact kk n np nq F _ T _ _ _ _ _ hd0 ⟨hI, hG, hM, hO, hS⟩ (lv_sub hl [2, 3, 4, 5, 6] rfl)
  refine W.widen (k := cc + 20) (n := ss + 100) (by omega) (by omega) ?_
  refine lv_icmp_eq (tgt := 946) hx hb dL_law_941 (by decide) (fun _ => ?_) (fun h9 => absurd rfl h9)
  refine lv_iload hx hb dL_law_946 (lv_at hl 1 rfl) ?_
  refine lv_if_ne (tgt := 963) hx hb dL_law_948 (by decide) (fun _ => fin) (fun h9 => ?_)
  have h9 : (spCount n np nq F (xs (i + 1))).1 = 0 := nI_z bd_count h9
  refine lv_aload_n hx hb dL_law_951 rfl (lv_at hl 5 rfl) ?_
  refine lv_iconst (v := nI 0) hx hb dL_law_952 (by decide) ?_
  refine nv_lald0 hx hb hK hO 0 3 rfl rfl dL_law_953 ?_
  rw [outG_0 _ h9]
  refine lv_iload hx hb dL_law_954 (lv_at hl 0 rfl) ?_
  refine lv_i2l hx hb dL_law_956 rfl ?_
  refine lv_lcmpS hx hb dL_law_957 ?_
  exact lv_if_eq (tgt := 963) hx hb dL_law_958 (by decide) (fun _ => fin) (fun h => absurd rfl h)
set_option maxHeartbeats 4000000 in
set_option maxRecDepth 100000 in
theorem lw_case11 {p : Program} {l : Launch} {e : Env} {s : State} {m : MethodId} {below : List Frame} {meth : Method} {c : Code} {b L : Nat} {xs : Nat → Int32} (hst : l.stackTraces = false) (hL : L ≤ 3584) (C0 : lw_At p s m meth c b L xs) {D : va_G} {cI cZ cO cL : ClassId} {aG aM : Nat → Nat} {o : Nat} (K : LwF s D cI cZ cO cL aG aM o) {i cc ss : Nat} (hi : i + 7 ≤ L) (hcc : cc + 20 ≤ 653633) (hss : ss + 100 ≤ 7135204) (kk : LwK p l e s m below meth c b D cI cZ cO cL aG aM o i (cc + 20) (ss + 100) 1325) : LwK p l e s m below meth c b D cI cZ cO cL aG aM o i cc ss 966 := by
  obtain ⟨hx, hb, hr, hml, hown, hts0, hX, hbl, hlocks, hgv⟩ := C0
  obtain ⟨hK, hiG, hiM, hGM, hoG, hoM, hLG, hLM, hLo, hEL, hEM⟩ := K
  have hb : c.code = cL_law := hb
  have hown : s.vm.findClass RL = some m.cls := hown
  have hbA : ¬ LA s b := Nat.not_le.mpr hbl
  have hAG : ∀ q, inO aG o q → LA s q := fun q h => h.elim (fun ⟨i, hi, e⟩ => e ▸ hLG i hi) (fun e => e ▸ hLo)
  have hAM : ∀ q, inA aM 8 q → LA s q := fun q ⟨i, hi, e⟩ => e ▸ hLM i hi
  have hMo : ∀ j, j ≤ 8 → ¬ inO aG o (aM j) := fun j hj h => h.elim (fun ⟨i, hi, e⟩ => hGM i hi j hj e.symm) (fun e => hoM j hj e.symm)
  have hGm : ∀ i, i ≤ 23 → ¬ inA aM 8 (aG i) := fun i hi ⟨j, hj, e⟩ => hGM i hi j hj e
  have hOm : ¬ inA aM 8 o := fun ⟨j, hj, e⟩ => hoM j hj e
  intro n np nq F th T g H locs ls d0 hd0 hW hl
  obtain ⟨hI, hG, hM, hO, hS⟩ := hW
  have hBM : ∀ q, inB aM 8 H.size q → LA s q := fun q h => h.elim (hAM q) (fun h2 => Nat.le_trans hS.1 h2)
  obtain ⟨hn, hnp, hnq, hsk, hrip, hfr, h11b, h12b, hpc, hsc⟩ := id hI
  have hts := dr_words (fun w h => hts0 w (wsL_law_in w h)) d0
  have hX : va_X b L xs (s.setDrawn d0) s.heap := hX
  have hK : va_K D vwCl (gT cI cZ cO ++ [(cL, .long)]) (s.setDrawn d0) := hK
  have hRc : cc + 20 ≤ room_1.cells := hcc
  have hRs : ss + 100 ≤ room_1.slots := hss
  refine lv_aload_n hx hb dL_law_966 rfl (lv_at hl 1 rfl) ?_
  refine lv_aload_n hx hb dL_law_967 rfl (lv_at hl 0 rfl) ?_
  refine lv_iload hx hb dL_law_968 (lv_at hl 4 rfl) ?_
  refine lv_iconst (v := nI 1) hx hb dL_law_970 (by decide) ?_
  refine nv_iadd hx hb dL_law_971 ?_
  refine nv_sld hx hb hX hbl hbA hS (j := i + 1) (by omega) (by omega) dL_law_972 ?_
  refine lv_aload_n hx hb dL_law_973 rfl (lv_at hl 0 rfl) ?_
  refine lv_iload hx hb dL_law_974 (lv_at hl 4 rfl) ?_
  refine lv_iconst (v := nI 2) hx hb dL_law_976 (by decide) ?_
  refine nv_iadd hx hb dL_law_977 ?_
  refine nv_sld hx hb hX hbl hbA hS (j := i + 2) (by omega) (by omega) dL_law_978 ?_
  refine lv_aload_n hx hb dL_law_979 rfl (lv_at hl 0 rfl) ?_
  refine lv_iload hx hb dL_law_980 (lv_at hl 4 rfl) ?_
  refine lv_iconst (v := nI 3) hx hb dL_law_982 (by decide) ?_
  refine nv_iadd hx hb dL_law_983 ?_
  refine nv_sld hx hb hX hbl hbA hS (j := i + 3) (by omega) (by omega) dL_law_984 ?_
  refine nb_ne0 hx hb rfl dL_law_985 dL_law_988 dL_law_989 dL_law_992 ?_
  refine lv_aload_n hx hb dL_law_993 rfl (lv_at hl 3 rfl) ?_
  refine va_calli (vx_runSW (As := [.ref (aG 0), .int (xs (i + 1)), .int (xs (i + 2)), .int (bI (!(xs (i + 3) == 0))), .ref o]) (rest := []) ⟨hx, hb, hml, hown, hts⟩ (c_L_gives l hst D cI cZ cO cL aG n np nq F o g (xs (i + 1)) (xs (i + 2)) (!(xs (i + 3) == 0)) hiG hoG hn) (vx_cwSW 5 hts gL_law_L_gives rfl rfl rfl (by decide +kernel) ⟨Nat.le_of_ble_eq_true rfl, Nat.le_of_ble_eq_true rfl⟩) (pr_S (hG.app hO) hK [0, 1, 2, 3] rfl (hEL.at hS sub_id hAG) EnvL_c) rfl rfl hl.1 rfl (lv_room (Nat.le_of_ble_eq_true rfl)) dL_law_994 ⟨by omega, by omega⟩) hS (fun q _ h => hAG q h) (fun q h => hAG q h) (fun r0 u t H1 locs ht hvm hw hB hz hk hS => ?_)
  rw [ht] at hB
  obtain ⟨hG, hO⟩ := hB
  have hM := M_apart hM hiM (inO aG o) hMo hk
  have hBM : ∀ q, inB aM 8 H1.size q → LA s q := fun q h => h.elim (hAM q) (fun h2 => Nat.le_trans hS.1 h2)
  subst hw
  refine lv_istore (lv' := [(5, .int (nI (spGives n F (xs (i + 1)) (xs (i + 2)) (!(xs (i + 3) == 0))).1)), (0, .ref b), (1, .ref (aG 0)), (2, .ref (aM 0)), (3, .ref o), (4, .int (nI i))]) hx hb dL_law_997 hl (by decide) rfl (fun ls hl => ?_)
  refine lv_aload_n hx hb dL_law_999 rfl (lv_at hl 3 rfl) ?_
  refine lv_aload_n hx hb dL_law_1000 rfl (lv_at hl 1 rfl) ?_
  refine lv_iload hx hb dL_law_1001 (lv_at hl 5 rfl) ?_
  refine lv_iconst (v := nI 1) hx hb dL_law_1003 (by decide) ?_
  refine nv_iadd hx hb dL_law_1004 ?_
  refine nv_sld hx hb hX hbl hbA hS (j := i + 1) (by omega) (by omega) dL_law_1005 ?_
  refine lv_aload_n hx hb dL_law_1006 rfl (lv_at hl 1 rfl) ?_
  refine lv_iload hx hb dL_law_1007 (lv_at hl 5 rfl) ?_
  refine lv_iconst (v := nI 2) hx hb dL_law_1009 (by decide) ?_
  refine nv_iadd hx hb dL_law_1010 ?_
  refine nv_sld hx hb hX hbl hbA hS (j := i + 2) (by omega) (by omega) dL_law_1011 ?_
  refine lv_aload_n hx hb dL_law_1012 rfl (lv_at hl 1 rfl) ?_
  refine lv_iload hx hb dL_law_1013 (lv_at hl 5 rfl) ?_
  refine lv_iconst (v := nI 3) hx hb dL_law_1015 (by decide) ?_
  refine nv_iadd hx hb dL_law_1016 ?_
  refine nv_sld hx hb hX hbl hbA hS (j := i + 3) (by omega) (by omega) dL_law_1017 ?_
  refine nb_ne0 hx hb rfl dL_law_1018 dL_law_1021 dL_law_1022 dL_law_1025 ?_
  refine va_calli (va_runV (As := [.int (xs (i + 1)), .int (xs (i + 2)), .int (bI (!(xs (i + 3) == 0)))]) (rest := []) ⟨hx, hb, hml, hown, hts⟩ (c_X1_gives l D cI aM th n np nq F T (xs (i + 1)) (xs (i + 2)) (!(xs (i + 3) == 0)) hiM hn hsc) (cwV 3 hts gL_law_X1_gives rfl rfl rfl (by decide +kernel) ⟨Nat.le_of_ble_eq_true rfl, Nat.le_of_ble_eq_true rfl⟩) (pr_V hM (ci := 1) (q0 := 0) rfl m_at0 rfl hM hK [0] rfl (hEM.at hS sub_id hAM) EnvM_c) rfl rfl hl.1 rfl (lv_room (Nat.le_of_ble_eq_true rfl)) dL_law_1026 ⟨by omega, by omega⟩) hS (fun q _ h => hAM q h) (fun q h => hAM q h) (fun r1 u1 t H2 locs ht hvm hw hB hz hk hS => ?_)
  rw [ht] at hB
  have hG := G_apart hG hiG (inA aM 8) hGm hk
  have hO := O_apart hO (inA aM 8) hOm hk
  have hM : va_P D vwCl (wM cI aM (nI (spGives n F (xs (i + 1)) (xs (i + 2)) (!(xs (i + 3) == 0))).1) n np nq (va_up F 13 u) u1) H2 := by rw [wM_up (Or.inr (Or.inr rfl))]; exact hB
  subst hw
  refine lv_istore (lv' := [(6, .int (spGives n F (xs (i + 1)) (xs (i + 2)) (!(xs (i + 3) == 0))).2), (5, .int (nI (spGives n F (xs (i + 1)) (xs (i + 2)) (!(xs (i + 3) == 0))).1)), (0, .ref b), (1, .ref (aG 0)), (2, .ref (aM 0)), (3, .ref o), (4, .int (nI i))]) hx hb dL_law_1029 hl (by decide) rfl (fun ls hl => ?_)
  refine lv_aload_n hx hb dL_law_1031 rfl (lv_at hl 4 rfl) ?_
  refine va_calli (va_runV (As := []) (rest := []) ⟨hx, hb, hml, hown, hts⟩ (c_X1_thrown l D cI aM (nI (spGives n F (xs (i + 1)) (xs (i + 2)) (!(xs (i + 3) == 0))).1) n np nq (va_up F 13 u) u1) (cwV 0 hts gL_law_X1_thrown rfl rfl rfl (by decide +kernel) ⟨Nat.le_of_ble_eq_true rfl, Nat.le_of_ble_eq_true rfl⟩) (pr_V hM (ci := 1) (q0 := 0) rfl m_at0 rfl hM hK [0] rfl V0_at V0_c) rfl rfl hl.1 rfl (lv_room (Nat.le_of_ble_eq_true rfl)) dL_law_1032 ⟨by omega, by omega⟩) hS (fun _ _ h => h.elim) (fun _ h => h.elim) (fun r2 u2 t H3 locs ht hvm hw hB hz hk hS => ?_)
  have hG := P_kept hG hk
  have hM := P_kept hM hk
  have hO := P_kept hO hk
  subst hw
  refine lv_iload hx hb dL_law_1035 (lv_at hl 1 rfl) ?_
  have fin : W p l e room_1 (s.setDrawn d0) m #[Value.ref b] below meth c H3 locs (cc + 20) (ss + 100) (lw_Z below #[Value.ref b] s) (F0 m 1059 ls []) := by
    refine lv_goto (tgt := 1325) hx hb dL_law_1059 (by decide) ?_
    exact kk n np nq (va_up F 13 u) _ u1 _ _ _ _ _ hd0 ⟨(Inv_T hI u), hG, hM, hO, hS⟩ (lv_sub hl [2, 3, 4, 5, 6] rfl)
  refine W.widen (k := cc + 20) (n := ss + 100) (by omega) (by omega) ?_
  refine lv_icmp_eq (tgt := 1042) hx hb dL_law_1037 (by decide) (fun _ => ?_) (fun h9 => absurd rfl h9)
  refine lv_iload hx hb dL_law_1042 (lv_at hl 1 rfl) ?_
  refine lv_if_ne (tgt := 1059) hx hb dL_law_1044 (by decide) (fun _ => fin) (fun h9 => ?_)
  have h9 : (spGives n F (xs (i + 1)) (xs (i + 2)) (!(xs (i + 3) == 0))).1 = 0 := nI_z bd_gives h9
  refine lv_aload_n hx hb dL_law_1047 rfl (lv_at hl 5 rfl) ?_
  refine lv_iconst (v := nI 0) hx hb dL_law_1048 (by decide) ?_
  refine nv_lald0 hx hb hK hO 0 3 rfl rfl dL_law_1049 ?_
  rw [outG_0 _ h9]
  refine lv_iload hx hb dL_law_1050 (lv_at hl 0 rfl) ?_
  refine lv_i2l hx hb dL_law_1052 rfl ?_
  refine lv_lcmpS hx hb dL_law_1053 ?_
  exact lv_if_eq (tgt := 1059) hx hb dL_law_1054 (by decide) (fun _ => fin) (fun h => absurd rfl h)
set_option maxHeartbeats 4000000 in
set_option maxRecDepth 100000 in
theorem lw_case12 {p : Program} {l : Launch} {e : Env} {s : State} {m : MethodId} {below : List Frame} {meth : Method} {c : Code} {b L : Nat} {xs : Nat → Int32} (hst : l.stackTraces = false) (hL : L ≤ 3584) (C0 : lw_At p s m meth c b L xs) {D : va_G} {cI cZ cO cL : ClassId} {aG aM : Nat → Nat} {o : Nat} (K : LwF s D cI cZ cO cL aG aM o) {i cc ss : Nat} (hi : i + 7 ≤ L) (hcc : cc + 20 ≤ 653633) (hss : ss + 100 ≤ 7135204) (kk : LwK p l e s m below meth c b D cI cZ cO cL aG aM o i (cc + 20) (ss + 100) 1325) : LwK p l e s m below meth c b D cI cZ cO cL aG aM o i cc ss 1062 := by
  obtain ⟨hx, hb, hr, hml, hown, hts0, hX, hbl, hlocks, hgv⟩ := C0
  obtain ⟨hK, hiG, hiM, hGM, hoG, hoM, hLG, hLM, hLo, hEL, hEM⟩ := K
  have hb : c.code = cL_law := hb
  have hown : s.vm.findClass RL = some m.cls := hown
  have hbA : ¬ LA s b := Nat.not_le.mpr hbl
  have hAG : ∀ q, inO aG o q → LA s q := fun q h => h.elim (fun ⟨i, hi, e⟩ => e ▸ hLG i hi) (fun e => e ▸ hLo)
  have hAM : ∀ q, inA aM 8 q → LA s q := fun q ⟨i, hi, e⟩ => e ▸ hLM i hi
  have hMo : ∀ j, j ≤ 8 → ¬ inO aG o (aM j) := fun j hj h => h.elim (fun ⟨i, hi, e⟩ => hGM i hi j hj e.symm) (fun e => hoM j hj e.symm)
  have hGm : ∀ i, i ≤ 23 → ¬ inA aM 8 (aG i) := fun i hi ⟨j, hj, e⟩ => hGM i hi j hj e
  have hOm : ¬ inA aM 8 o := fun ⟨j, hj, e⟩ => hoM j hj e
  intro n np nq F th T g H locs ls d0 hd0 hW hl
  obtain ⟨hI, hG, hM, hO, hS⟩ := hW
  have hBM : ∀ q, inB aM 8 H.size q → LA s q := fun q h => h.elim (hAM q) (fun h2 => Nat.le_trans hS.1 h2)
  obtain ⟨hn, hnp, hnq, hsk, hrip, hfr, h11b, h12b, hpc, hsc⟩ := id hI
  have hts := dr_words (fun w h => hts0 w (wsL_law_in w h)) d0
  have hX : va_X b L xs (s.setDrawn d0) s.heap := hX
  have hK : va_K D vwCl (gT cI cZ cO ++ [(cL, .long)]) (s.setDrawn d0) := hK
  have hRc : cc + 20 ≤ room_1.cells := hcc
  have hRs : ss + 100 ≤ room_1.slots := hss
  refine lv_aload_n hx hb dL_law_1062 rfl (lv_at hl 1 rfl) ?_
  refine lv_aload_n hx hb dL_law_1063 rfl (lv_at hl 0 rfl) ?_
  refine lv_iload hx hb dL_law_1064 (lv_at hl 4 rfl) ?_
  refine lv_iconst (v := nI 1) hx hb dL_law_1066 (by decide) ?_
  refine nv_iadd hx hb dL_law_1067 ?_
  refine nv_sld hx hb hX hbl hbA hS (j := i + 1) (by omega) (by omega) dL_law_1068 ?_
  refine lv_aload_n hx hb dL_law_1069 rfl (lv_at hl 0 rfl) ?_
  refine lv_iload hx hb dL_law_1070 (lv_at hl 4 rfl) ?_
  refine lv_iconst (v := nI 2) hx hb dL_law_1072 (by decide) ?_
  refine nv_iadd hx hb dL_law_1073 ?_
  refine nv_sld hx hb hX hbl hbA hS (j := i + 2) (by omega) (by omega) dL_law_1074 ?_
  refine nb_ne0 hx hb rfl dL_law_1075 dL_law_1078 dL_law_1079 dL_law_1082 ?_
  refine lv_aload_n hx hb dL_law_1083 rfl (lv_at hl 3 rfl) ?_
  refine va_calli (vx_runSW (As := [.ref (aG 0), .int (xs (i + 1)), .int (bI (!(xs (i + 2) == 0))), .ref o]) (rest := []) ⟨hx, hb, hml, hown, hts⟩ (c_L_best l hst D cI cZ cO cL aG n np nq F o g (xs (i + 1)) (!(xs (i + 2) == 0)) hiG hoG hn) (vx_cwSW 4 hts gL_law_L_best rfl rfl rfl (by decide +kernel) ⟨Nat.le_of_ble_eq_true rfl, Nat.le_of_ble_eq_true rfl⟩) (pr_S (hG.app hO) hK [0, 1, 2, 3] rfl (hEL.at hS sub_id hAG) EnvL_c) rfl rfl hl.1 rfl (lv_room (Nat.le_of_ble_eq_true rfl)) dL_law_1084 ⟨by omega, by omega⟩) hS (fun q _ h => hAG q h) (fun q h => hAG q h) (fun r0 u t H1 locs ht hvm hw hB hz hk hS => ?_)
  rw [ht] at hB
  obtain ⟨hG, hO⟩ := hB
  have hM := M_apart hM hiM (inO aG o) hMo hk
  have hBM : ∀ q, inB aM 8 H1.size q → LA s q := fun q h => h.elim (hAM q) (fun h2 => Nat.le_trans hS.1 h2)
  subst hw
  refine lv_istore (lv' := [(5, .int (nI (spBest n F (xs (i + 1)) (!(xs (i + 2) == 0))).1)), (0, .ref b), (1, .ref (aG 0)), (2, .ref (aM 0)), (3, .ref o), (4, .int (nI i))]) hx hb dL_law_1087 hl (by decide) rfl (fun ls hl => ?_)
  refine lv_aload_n hx hb dL_law_1089 rfl (lv_at hl 3 rfl) ?_
  refine lv_aload_n hx hb dL_law_1090 rfl (lv_at hl 1 rfl) ?_
  refine lv_iload hx hb dL_law_1091 (lv_at hl 5 rfl) ?_
  refine lv_iconst (v := nI 1) hx hb dL_law_1093 (by decide) ?_
  refine nv_iadd hx hb dL_law_1094 ?_
  refine nv_sld hx hb hX hbl hbA hS (j := i + 1) (by omega) (by omega) dL_law_1095 ?_
  refine lv_aload_n hx hb dL_law_1096 rfl (lv_at hl 1 rfl) ?_
  refine lv_iload hx hb dL_law_1097 (lv_at hl 5 rfl) ?_
  refine lv_iconst (v := nI 2) hx hb dL_law_1099 (by decide) ?_
  refine nv_iadd hx hb dL_law_1100 ?_
  refine nv_sld hx hb hX hbl hbA hS (j := i + 2) (by omega) (by omega) dL_law_1101 ?_
  refine nb_ne0 hx hb rfl dL_law_1102 dL_law_1105 dL_law_1106 dL_law_1109 ?_
  refine va_calli (va_runV (As := [.int (xs (i + 1)), .int (bI (!(xs (i + 2) == 0)))]) (rest := []) ⟨hx, hb, hml, hown, hts⟩ (c_X1_best l D cI aM th n np nq F T (xs (i + 1)) (!(xs (i + 2) == 0)) hiM hn hsc) (cwV 2 hts gL_law_X1_best rfl rfl rfl (by decide +kernel) ⟨Nat.le_of_ble_eq_true rfl, Nat.le_of_ble_eq_true rfl⟩) (pr_V hM (ci := 1) (q0 := 0) rfl m_at0 rfl hM hK [0] rfl (hEM.at hS sub_id hAM) EnvM_c) rfl rfl hl.1 rfl (lv_room (Nat.le_of_ble_eq_true rfl)) dL_law_1110 ⟨by omega, by omega⟩) hS (fun q _ h => hAM q h) (fun q h => hAM q h) (fun r1 u1 t H2 locs ht hvm hw hB hz hk hS => ?_)
  rw [ht] at hB
  have hG := G_apart hG hiG (inA aM 8) hGm hk
  have hO := O_apart hO (inA aM 8) hOm hk
  have hM : va_P D vwCl (wM cI aM (nI (spBest n F (xs (i + 1)) (!(xs (i + 2) == 0))).1) n np nq (va_up F 13 u) u1) H2 := by rw [wM_up (Or.inr (Or.inr rfl))]; exact hB
  subst hw
  refine lv_istore (lv' := [(6, .int (spBest n F (xs (i + 1)) (!(xs (i + 2) == 0))).2), (5, .int (nI (spBest n F (xs (i + 1)) (!(xs (i + 2) == 0))).1)), (0, .ref b), (1, .ref (aG 0)), (2, .ref (aM 0)), (3, .ref o), (4, .int (nI i))]) hx hb dL_law_1113 hl (by decide) rfl (fun ls hl => ?_)
  refine lv_aload_n hx hb dL_law_1115 rfl (lv_at hl 4 rfl) ?_
  refine va_calli (va_runV (As := []) (rest := []) ⟨hx, hb, hml, hown, hts⟩ (c_X1_thrown l D cI aM (nI (spBest n F (xs (i + 1)) (!(xs (i + 2) == 0))).1) n np nq (va_up F 13 u) u1) (cwV 0 hts gL_law_X1_thrown rfl rfl rfl (by decide +kernel) ⟨Nat.le_of_ble_eq_true rfl, Nat.le_of_ble_eq_true rfl⟩) (pr_V hM (ci := 1) (q0 := 0) rfl m_at0 rfl hM hK [0] rfl V0_at V0_c) rfl rfl hl.1 rfl (lv_room (Nat.le_of_ble_eq_true rfl)) dL_law_1116 ⟨by omega, by omega⟩) hS (fun _ _ h => h.elim) (fun _ h => h.elim) (fun r2 u2 t H3 locs ht hvm hw hB hz hk hS => ?_)
  have hG := P_kept hG hk
  have hM := P_kept hM hk
  have hO := P_kept hO hk
  subst hw
  refine lv_iload hx hb dL_law_1119 (lv_at hl 1 rfl) ?_
  have fin : W p l e room_1 (s.setDrawn d0) m #[Value.ref b] below meth c H3 locs (cc + 20) (ss + 100) (lw_Z below #[Value.ref b] s) (F0 m 1143 ls []) := by
    refine lv_goto (tgt := 1325) hx hb dL_law_1143 (by decide) ?_
    exact kk n np nq (va_up F 13 u) _ u1 _ _ _ _ _ hd0 ⟨(Inv_T hI u), hG, hM, hO, hS⟩ (lv_sub hl [2, 3, 4, 5, 6] rfl)
  refine W.widen (k := cc + 20) (n := ss + 100) (by omega) (by omega) ?_
  refine lv_icmp_eq (tgt := 1126) hx hb dL_law_1121 (by decide) (fun _ => ?_) (fun h9 => absurd rfl h9)
  refine lv_iload hx hb dL_law_1126 (lv_at hl 1 rfl) ?_
  refine lv_if_ne (tgt := 1143) hx hb dL_law_1128 (by decide) (fun _ => fin) (fun h9 => ?_)
  have h9 : (spBest n F (xs (i + 1)) (!(xs (i + 2) == 0))).1 = 0 := nI_z bd_best h9
  refine lv_aload_n hx hb dL_law_1131 rfl (lv_at hl 5 rfl) ?_
  refine lv_iconst (v := nI 0) hx hb dL_law_1132 (by decide) ?_
  refine nv_lald0 hx hb hK hO 0 3 rfl rfl dL_law_1133 ?_
  rw [outG_0 _ h9]
  refine lv_iload hx hb dL_law_1134 (lv_at hl 0 rfl) ?_
  refine lv_i2l hx hb dL_law_1136 rfl ?_
  refine lv_lcmpS hx hb dL_law_1137 ?_
  exact lv_if_eq (tgt := 1143) hx hb dL_law_1138 (by decide) (fun _ => fin) (fun h => absurd rfl h)
set_option maxHeartbeats 4000000 in
set_option maxRecDepth 100000 in
theorem lw_case13 {p : Program} {l : Launch} {e : Env} {s : State} {m : MethodId} {below : List Frame} {meth : Method} {c : Code} {b L : Nat} {xs : Nat → Int32} (hst : l.stackTraces = false) (hL : L ≤ 3584) (C0 : lw_At p s m meth c b L xs) {D : va_G} {cI cZ cO cL : ClassId} {aG aM : Nat → Nat} {o : Nat} (K : LwF s D cI cZ cO cL aG aM o) {i cc ss : Nat} (hi : i + 7 ≤ L) (hcc : cc + 20 ≤ 653633) (hss : ss + 100 ≤ 7135204) (kk : LwK p l e s m below meth c b D cI cZ cO cL aG aM o i (cc + 20) (ss + 100) 1325) : LwK p l e s m below meth c b D cI cZ cO cL aG aM o i cc ss 1146 := by
  obtain ⟨hx, hb, hr, hml, hown, hts0, hX, hbl, hlocks, hgv⟩ := C0
  obtain ⟨hK, hiG, hiM, hGM, hoG, hoM, hLG, hLM, hLo, hEL, hEM⟩ := K
  have hb : c.code = cL_law := hb
  have hown : s.vm.findClass RL = some m.cls := hown
  have hbA : ¬ LA s b := Nat.not_le.mpr hbl
  have hAG : ∀ q, inO aG o q → LA s q := fun q h => h.elim (fun ⟨i, hi, e⟩ => e ▸ hLG i hi) (fun e => e ▸ hLo)
  have hAM : ∀ q, inA aM 8 q → LA s q := fun q ⟨i, hi, e⟩ => e ▸ hLM i hi
  have hMo : ∀ j, j ≤ 8 → ¬ inO aG o (aM j) := fun j hj h => h.elim (fun ⟨i, hi, e⟩ => hGM i hi j hj e.symm) (fun e => hoM j hj e.symm)
  have hGm : ∀ i, i ≤ 23 → ¬ inA aM 8 (aG i) := fun i hi ⟨j, hj, e⟩ => hGM i hi j hj e
  have hOm : ¬ inA aM 8 o := fun ⟨j, hj, e⟩ => hoM j hj e
  intro n np nq F th T g H locs ls d0 hd0 hW hl
  obtain ⟨hI, hG, hM, hO, hS⟩ := hW
  have hBM : ∀ q, inB aM 8 H.size q → LA s q := fun q h => h.elim (hAM q) (fun h2 => Nat.le_trans hS.1 h2)
  obtain ⟨hn, hnp, hnq, hsk, hrip, hfr, h11b, h12b, hpc, hsc⟩ := id hI
  have hts := dr_words (fun w h => hts0 w (wsL_law_in w h)) d0
  have hX : va_X b L xs (s.setDrawn d0) s.heap := hX
  have hK : va_K D vwCl (gT cI cZ cO ++ [(cL, .long)]) (s.setDrawn d0) := hK
  have hRc : cc + 20 ≤ room_1.cells := hcc
  have hRs : ss + 100 ≤ room_1.slots := hss
  refine lv_aload_n hx hb dL_law_1146 rfl (lv_at hl 1 rfl) ?_
  refine lv_aload_n hx hb dL_law_1147 rfl (lv_at hl 0 rfl) ?_
  refine lv_iload hx hb dL_law_1148 (lv_at hl 4 rfl) ?_
  refine lv_iconst (v := nI 1) hx hb dL_law_1150 (by decide) ?_
  refine nv_iadd hx hb dL_law_1151 ?_
  refine nv_sld hx hb hX hbl hbA hS (j := i + 1) (by omega) (by omega) dL_law_1152 ?_
  refine lv_aload_n hx hb dL_law_1153 rfl (lv_at hl 0 rfl) ?_
  refine lv_iload hx hb dL_law_1154 (lv_at hl 4 rfl) ?_
  refine lv_iconst (v := nI 2) hx hb dL_law_1156 (by decide) ?_
  refine nv_iadd hx hb dL_law_1157 ?_
  refine nv_sld hx hb hX hbl hbA hS (j := i + 2) (by omega) (by omega) dL_law_1158 ?_
  refine lv_aload_n hx hb dL_law_1159 rfl (lv_at hl 3 rfl) ?_
  refine va_calli (vx_runSW (As := [.ref (aG 0), .int (xs (i + 1)), .int (xs (i + 2)), .ref o]) (rest := []) ⟨hx, hb, hml, hown, hts⟩ (c_L_lacks l hst D cI cZ cO cL aG n np nq F o g (xs (i + 1)) (xs (i + 2)) hiG hoG hn hnp hsk) (vx_cwSW 4 hts gL_law_L_lacks rfl rfl rfl (by decide +kernel) ⟨Nat.le_of_ble_eq_true rfl, Nat.le_of_ble_eq_true rfl⟩) (pr_S (hG.app hO) hK [0, 1, 2, 3] rfl (hEL.at hS sub_id hAG) EnvL_c) rfl rfl hl.1 rfl (lv_room (Nat.le_of_ble_eq_true rfl)) dL_law_1160 ⟨by omega, by omega⟩) hS (fun q _ h => hAG q h) (fun q h => hAG q h) (fun r0 u t H1 locs ht hvm hw hB hz hk hS => ?_)
  rw [ht] at hB
  obtain ⟨hG, hO⟩ := hB
  have hM := M_apart hM hiM (inO aG o) hMo hk
  have hBM : ∀ q, inB aM 8 H1.size q → LA s q := fun q h => h.elim (hAM q) (fun h2 => Nat.le_trans hS.1 h2)
  subst hw
  refine lv_istore (lv' := [(5, .int (nI (spLacks n np F (xs (i + 1)) (xs (i + 2))).1)), (0, .ref b), (1, .ref (aG 0)), (2, .ref (aM 0)), (3, .ref o), (4, .int (nI i))]) hx hb dL_law_1163 hl (by decide) rfl (fun ls hl => ?_)
  refine lv_aload_n hx hb dL_law_1165 rfl (lv_at hl 3 rfl) ?_
  refine lv_aload_n hx hb dL_law_1166 rfl (lv_at hl 1 rfl) ?_
  refine lv_iload hx hb dL_law_1167 (lv_at hl 5 rfl) ?_
  refine lv_iconst (v := nI 1) hx hb dL_law_1169 (by decide) ?_
  refine nv_iadd hx hb dL_law_1170 ?_
  refine nv_sld hx hb hX hbl hbA hS (j := i + 1) (by omega) (by omega) dL_law_1171 ?_
  refine lv_aload_n hx hb dL_law_1172 rfl (lv_at hl 1 rfl) ?_
  refine lv_iload hx hb dL_law_1173 (lv_at hl 5 rfl) ?_
  refine lv_iconst (v := nI 2) hx hb dL_law_1175 (by decide) ?_
  refine nv_iadd hx hb dL_law_1176 ?_
  refine nv_sld hx hb hX hbl hbA hS (j := i + 2) (by omega) (by omega) dL_law_1177 ?_
  refine va_calli (va_runV (As := [.int (xs (i + 1)), .int (xs (i + 2))]) (rest := []) ⟨hx, hb, hml, hown, hts⟩ (c_X1_lacks l D cI aM th n np nq F T (xs (i + 1)) (xs (i + 2)) hiM hn hnp hsk) (cwV 2 hts gL_law_X1_lacks rfl rfl rfl (by decide +kernel) ⟨Nat.le_of_ble_eq_true rfl, Nat.le_of_ble_eq_true rfl⟩) (pr_V hM (ci := 1) (q0 := 0) rfl m_at0 rfl hM hK [0] rfl (hEM.at hS sub_id hAM) EnvM_c) rfl rfl hl.1 rfl (lv_room (Nat.le_of_ble_eq_true rfl)) dL_law_1178 ⟨by omega, by omega⟩) hS (fun q _ h => hAM q h) (fun q h => hAM q h) (fun r1 u1 t H2 locs ht hvm hw hB hz hk hS => ?_)
  rw [ht] at hB
  have hG := G_apart hG hiG (inA aM 8) hGm hk
  have hO := O_apart hO (inA aM 8) hOm hk
  have hM := hB
  subst hw
  refine lv_istore (lv' := [(6, .int (spLacks n np F (xs (i + 1)) (xs (i + 2))).2), (5, .int (nI (spLacks n np F (xs (i + 1)) (xs (i + 2))).1)), (0, .ref b), (1, .ref (aG 0)), (2, .ref (aM 0)), (3, .ref o), (4, .int (nI i))]) hx hb dL_law_1181 hl (by decide) rfl (fun ls hl => ?_)
  refine lv_aload_n hx hb dL_law_1183 rfl (lv_at hl 4 rfl) ?_
  refine va_calli (va_runV (As := []) (rest := []) ⟨hx, hb, hml, hown, hts⟩ (c_X1_thrown l D cI aM (nI (spLacks n np F (xs (i + 1)) (xs (i + 2))).1) n np nq F T) (cwV 0 hts gL_law_X1_thrown rfl rfl rfl (by decide +kernel) ⟨Nat.le_of_ble_eq_true rfl, Nat.le_of_ble_eq_true rfl⟩) (pr_V hM (ci := 1) (q0 := 0) rfl m_at0 rfl hM hK [0] rfl V0_at V0_c) rfl rfl hl.1 rfl (lv_room (Nat.le_of_ble_eq_true rfl)) dL_law_1184 ⟨by omega, by omega⟩) hS (fun _ _ h => h.elim) (fun _ h => h.elim) (fun r2 u2 t H3 locs ht hvm hw hB hz hk hS => ?_)
  have hG := P_kept hG hk
  have hM := P_kept hM hk
  have hO := P_kept hO hk
  subst hw
  refine lv_iload hx hb dL_law_1187 (lv_at hl 1 rfl) ?_
  have fin : W p l e room_1 (s.setDrawn d0) m #[Value.ref b] below meth c H3 locs (cc + 20) (ss + 100) (lw_Z below #[Value.ref b] s) (F0 m 1211 ls []) := by
    refine lv_goto (tgt := 1325) hx hb dL_law_1211 (by decide) ?_
    exact kk n np nq F _ T _ _ _ _ _ hd0 ⟨hI, hG, hM, hO, hS⟩ (lv_sub hl [2, 3, 4, 5, 6] rfl)
  refine W.widen (k := cc + 20) (n := ss + 100) (by omega) (by omega) ?_
  refine lv_icmp_eq (tgt := 1194) hx hb dL_law_1189 (by decide) (fun _ => ?_) (fun h9 => absurd rfl h9)
  refine lv_iload hx hb dL_law_1194 (lv_at hl 1 rfl) ?_
  refine lv_if_ne (tgt := 1211) hx hb dL_law_1196 (by decide) (fun _ => fin) (fun h9 => ?_)
  have h9 : (spLacks n np F (xs (i + 1)) (xs (i + 2))).1 = 0 := nI_z bd_lacks h9
  refine lv_aload_n hx hb dL_law_1199 rfl (lv_at hl 5 rfl) ?_
  refine lv_iconst (v := nI 0) hx hb dL_law_1200 (by decide) ?_
  refine nv_lald0 hx hb hK hO 0 3 rfl rfl dL_law_1201 ?_
  rw [outG_0 _ h9]
  refine lv_iload hx hb dL_law_1202 (lv_at hl 0 rfl) ?_
  refine lv_i2l hx hb dL_law_1204 rfl ?_
  refine lv_lcmpS hx hb dL_law_1205 ?_
  exact lv_if_eq (tgt := 1211) hx hb dL_law_1206 (by decide) (fun _ => fin) (fun h => absurd rfl h)
set_option maxHeartbeats 4000000 in
set_option maxRecDepth 100000 in
theorem lw_case14 {p : Program} {l : Launch} {e : Env} {s : State} {m : MethodId} {below : List Frame} {meth : Method} {c : Code} {b L : Nat} {xs : Nat → Int32} (hst : l.stackTraces = false) (hL : L ≤ 3584) (C0 : lw_At p s m meth c b L xs) {D : va_G} {cI cZ cO cL : ClassId} {aG aM : Nat → Nat} {o : Nat} (K : LwF s D cI cZ cO cL aG aM o) {i cc ss : Nat} (hi : i + 7 ≤ L) (hcc : cc + 20 ≤ 653633) (hss : ss + 100 ≤ 7135204) (kk : LwK p l e s m below meth c b D cI cZ cO cL aG aM o i (cc + 20) (ss + 100) 1325) : LwK p l e s m below meth c b D cI cZ cO cL aG aM o i cc ss 1214 := by
  obtain ⟨hx, hb, hr, hml, hown, hts0, hX, hbl, hlocks, hgv⟩ := C0
  obtain ⟨hK, hiG, hiM, hGM, hoG, hoM, hLG, hLM, hLo, hEL, hEM⟩ := K
  have hb : c.code = cL_law := hb
  have hown : s.vm.findClass RL = some m.cls := hown
  have hbA : ¬ LA s b := Nat.not_le.mpr hbl
  have hAG : ∀ q, inO aG o q → LA s q := fun q h => h.elim (fun ⟨i, hi, e⟩ => e ▸ hLG i hi) (fun e => e ▸ hLo)
  have hAM : ∀ q, inA aM 8 q → LA s q := fun q ⟨i, hi, e⟩ => e ▸ hLM i hi
  have hMo : ∀ j, j ≤ 8 → ¬ inO aG o (aM j) := fun j hj h => h.elim (fun ⟨i, hi, e⟩ => hGM i hi j hj e.symm) (fun e => hoM j hj e.symm)
  have hGm : ∀ i, i ≤ 23 → ¬ inA aM 8 (aG i) := fun i hi ⟨j, hj, e⟩ => hGM i hi j hj e
  have hOm : ¬ inA aM 8 o := fun ⟨j, hj, e⟩ => hoM j hj e
  intro n np nq F th T g H locs ls d0 hd0 hW hl
  obtain ⟨hI, hG, hM, hO, hS⟩ := hW
  have hBM : ∀ q, inB aM 8 H.size q → LA s q := fun q h => h.elim (hAM q) (fun h2 => Nat.le_trans hS.1 h2)
  obtain ⟨hn, hnp, hnq, hsk, hrip, hfr, h11b, h12b, hpc, hsc⟩ := id hI
  have hts := dr_words (fun w h => hts0 w (wsL_law_in w h)) d0
  have hX : va_X b L xs (s.setDrawn d0) s.heap := hX
  have hK : va_K D vwCl (gT cI cZ cO ++ [(cL, .long)]) (s.setDrawn d0) := hK
  have hRc : cc + 20 ≤ room_1.cells := hcc
  have hRs : ss + 100 ≤ room_1.slots := hss
  refine lv_aload_n hx hb dL_law_1214 rfl (lv_at hl 1 rfl) ?_
  refine lv_aload_n hx hb dL_law_1215 rfl (lv_at hl 0 rfl) ?_
  refine lv_iload hx hb dL_law_1216 (lv_at hl 4 rfl) ?_
  refine lv_iconst (v := nI 1) hx hb dL_law_1218 (by decide) ?_
  refine nv_iadd hx hb dL_law_1219 ?_
  refine nv_sld hx hb hX hbl hbA hS (j := i + 1) (by omega) (by omega) dL_law_1220 ?_
  refine lv_aload_n hx hb dL_law_1221 rfl (lv_at hl 3 rfl) ?_
  refine va_calli (vx_runSW (As := [.ref (aG 0), .int (xs (i + 1)), .ref o]) (rest := []) ⟨hx, hb, hml, hown, hts⟩ (c_L_pairs l hst D cI cZ cO cL aG n np nq F o g (xs (i + 1)) hiG hoG hn hnp hsk) (vx_cwSW 3 hts gL_law_L_pairs rfl rfl rfl (by decide +kernel) ⟨Nat.le_of_ble_eq_true rfl, Nat.le_of_ble_eq_true rfl⟩) (pr_S (hG.app hO) hK [0, 1, 2, 3] rfl (hEL.at hS sub_id hAG) EnvL_c) rfl rfl hl.1 rfl (lv_room (Nat.le_of_ble_eq_true rfl)) dL_law_1222 ⟨by omega, by omega⟩) hS (fun q _ h => hAG q h) (fun q h => hAG q h) (fun r0 u t H1 locs ht hvm hw hB hz hk hS => ?_)
  rw [ht] at hB
  obtain ⟨hG, hO⟩ := hB
  have hM := M_apart hM hiM (inO aG o) hMo hk
  have hBM : ∀ q, inB aM 8 H1.size q → LA s q := fun q h => h.elim (hAM q) (fun h2 => Nat.le_trans hS.1 h2)
  subst hw
  refine lv_istore (lv' := [(5, .int (nI (spPairs n np F (xs (i + 1))).1)), (0, .ref b), (1, .ref (aG 0)), (2, .ref (aM 0)), (3, .ref o), (4, .int (nI i))]) hx hb dL_law_1225 hl (by decide) rfl (fun ls hl => ?_)
  refine lv_aload_n hx hb dL_law_1227 rfl (lv_at hl 3 rfl) ?_
  refine lv_aload_n hx hb dL_law_1228 rfl (lv_at hl 1 rfl) ?_
  refine lv_iload hx hb dL_law_1229 (lv_at hl 5 rfl) ?_
  refine lv_iconst (v := nI 1) hx hb dL_law_1231 (by decide) ?_
  refine nv_iadd hx hb dL_law_1232 ?_
  refine nv_sld hx hb hX hbl hbA hS (j := i + 1) (by omega) (by omega) dL_law_1233 ?_
  refine va_calli (va_runV (As := [.int (xs (i + 1))]) (rest := []) ⟨hx, hb, hml, hown, hts⟩ (c_X1_pairs l D cI aM th n np nq F T (xs (i + 1)) hiM hn hnp hsk) (cwV 1 hts gL_law_X1_pairs rfl rfl rfl (by decide +kernel) ⟨Nat.le_of_ble_eq_true rfl, Nat.le_of_ble_eq_true rfl⟩) (pr_V hM (ci := 1) (q0 := 0) rfl m_at0 rfl hM hK [0] rfl (hEM.at hS sub_id hAM) EnvM_c) rfl rfl hl.1 rfl (lv_room (Nat.le_of_ble_eq_true rfl)) dL_law_1234 ⟨by omega, by omega⟩) hS (fun q _ h => hAM q h) (fun q h => hAM q h) (fun r1 u1 t H2 locs ht hvm hw hB hz hk hS => ?_)
  rw [ht] at hB
  have hG := G_apart hG hiG (inA aM 8) hGm hk
  have hO := O_apart hO (inA aM 8) hOm hk
  have hM := hB
  subst hw
  refine lv_istore (lv' := [(6, .int (spPairs n np F (xs (i + 1))).2), (5, .int (nI (spPairs n np F (xs (i + 1))).1)), (0, .ref b), (1, .ref (aG 0)), (2, .ref (aM 0)), (3, .ref o), (4, .int (nI i))]) hx hb dL_law_1237 hl (by decide) rfl (fun ls hl => ?_)
  refine lv_aload_n hx hb dL_law_1239 rfl (lv_at hl 4 rfl) ?_
  refine va_calli (va_runV (As := []) (rest := []) ⟨hx, hb, hml, hown, hts⟩ (c_X1_thrown l D cI aM (nI (spPairs n np F (xs (i + 1))).1) n np nq F T) (cwV 0 hts gL_law_X1_thrown rfl rfl rfl (by decide +kernel) ⟨Nat.le_of_ble_eq_true rfl, Nat.le_of_ble_eq_true rfl⟩) (pr_V hM (ci := 1) (q0 := 0) rfl m_at0 rfl hM hK [0] rfl V0_at V0_c) rfl rfl hl.1 rfl (lv_room (Nat.le_of_ble_eq_true rfl)) dL_law_1240 ⟨by omega, by omega⟩) hS (fun _ _ h => h.elim) (fun _ h => h.elim) (fun r2 u2 t H3 locs ht hvm hw hB hz hk hS => ?_)
  have hG := P_kept hG hk
  have hM := P_kept hM hk
  have hO := P_kept hO hk
  subst hw
  refine lv_iload hx hb dL_law_1243 (lv_at hl 1 rfl) ?_
  have fin : W p l e room_1 (s.setDrawn d0) m #[Value.ref b] below meth c H3 locs (cc + 20) (ss + 100) (lw_Z below #[Value.ref b] s) (F0 m 1267 ls []) := by
    refine lv_goto (tgt := 1325) hx hb dL_law_1267 (by decide) ?_
    exact kk n np nq F _ T _ _ _ _ _ hd0 ⟨hI, hG, hM, hO, hS⟩ (lv_sub hl [2, 3, 4, 5, 6] rfl)
  refine W.widen (k := cc + 20) (n := ss + 100) (by omega) (by omega) ?_
  refine lv_icmp_eq (tgt := 1250) hx hb dL_law_1245 (by decide) (fun _ => ?_) (fun h9 => absurd rfl h9)
  refine lv_iload hx hb dL_law_1250 (lv_at hl 1 rfl) ?_
  refine lv_if_ne (tgt := 1267) hx hb dL_law_1252 (by decide) (fun _ => fin) (fun h9 => ?_)
  have h9 : (spPairs n np F (xs (i + 1))).1 = 0 := nI_z bd_pairs h9
  refine lv_aload_n hx hb dL_law_1255 rfl (lv_at hl 5 rfl) ?_
  refine lv_iconst (v := nI 0) hx hb dL_law_1256 (by decide) ?_
  refine nv_lald0 hx hb hK hO 0 3 rfl rfl dL_law_1257 ?_
  rw [outG_0 _ h9]
  refine lv_iload hx hb dL_law_1258 (lv_at hl 0 rfl) ?_
  refine lv_i2l hx hb dL_law_1260 rfl ?_
  refine lv_lcmpS hx hb dL_law_1261 ?_
  exact lv_if_eq (tgt := 1267) hx hb dL_law_1262 (by decide) (fun _ => fin) (fun h => absurd rfl h)
set_option maxHeartbeats 4000000 in
set_option maxRecDepth 100000 in
theorem lw_case15 {p : Program} {l : Launch} {e : Env} {s : State} {m : MethodId} {below : List Frame} {meth : Method} {c : Code} {b L : Nat} {xs : Nat → Int32} (hst : l.stackTraces = false) (hL : L ≤ 3584) (C0 : lw_At p s m meth c b L xs) {D : va_G} {cI cZ cO cL : ClassId} {aG aM : Nat → Nat} {o : Nat} (K : LwF s D cI cZ cO cL aG aM o) {i cc ss : Nat} (hi : i + 7 ≤ L) (hcc : cc + 20 ≤ 653633) (hss : ss + 100 ≤ 7135204) (kk : LwK p l e s m below meth c b D cI cZ cO cL aG aM o i (cc + 20) (ss + 100) 1325) : LwK p l e s m below meth c b D cI cZ cO cL aG aM o i cc ss 1270 := by
  obtain ⟨hx, hb, hr, hml, hown, hts0, hX, hbl, hlocks, hgv⟩ := C0
  obtain ⟨hK, hiG, hiM, hGM, hoG, hoM, hLG, hLM, hLo, hEL, hEM⟩ := K
  have hb : c.code = cL_law := hb
  have hown : s.vm.findClass RL = some m.cls := hown
  have hbA : ¬ LA s b := Nat.not_le.mpr hbl
  have hAG : ∀ q, inO aG o q → LA s q := fun q h => h.elim (fun ⟨i, hi, e⟩ => e ▸ hLG i hi) (fun e => e ▸ hLo)
  have hAM : ∀ q, inA aM 8 q → LA s q := fun q ⟨i, hi, e⟩ => e ▸ hLM i hi
  have hMo : ∀ j, j ≤ 8 → ¬ inO aG o (aM j) := fun j hj h => h.elim (fun ⟨i, hi, e⟩ => hGM i hi j hj e.symm) (fun e => hoM j hj e.symm)
  have hGm : ∀ i, i ≤ 23 → ¬ inA aM 8 (aG i) := fun i hi ⟨j, hj, e⟩ => hGM i hi j hj e
  have hOm : ¬ inA aM 8 o := fun ⟨j, hj, e⟩ => hoM j hj e
  intro n np nq F th T g H locs ls d0 hd0 hW hl
  obtain ⟨hI, hG, hM, hO, hS⟩ := hW
  have hBM : ∀ q, inB aM 8 H.size q → LA s q := fun q h => h.elim (hAM q) (fun h2 => Nat.le_trans hS.1 h2)
  obtain ⟨hn, hnp, hnq, hsk, hrip, hfr, h11b, h12b, hpc, hsc⟩ := id hI
  have hts := dr_words (fun w h => hts0 w (wsL_law_in w h)) d0
  have hX : va_X b L xs (s.setDrawn d0) s.heap := hX
  have hK : va_K D vwCl (gT cI cZ cO ++ [(cL, .long)]) (s.setDrawn d0) := hK
  have hRc : cc + 20 ≤ room_1.cells := hcc
  have hRs : ss + 100 ≤ room_1.slots := hss
  refine lv_aload_n hx hb dL_law_1270 rfl (lv_at hl 1 rfl) ?_
  refine va_calldD hd0 (va_runV_D (As := []) (rest := []) ⟨hx, hb, hml, hown, hts⟩ (c_X0_share l D cI cZ cO aG n np nq F hn) (cwV 0 hts gL_law_X0_share rfl rfl rfl (by decide +kernel) ⟨Nat.le_of_ble_eq_true rfl, Nat.le_of_ble_eq_true rfl⟩) (pr_V hG (ci := 0) (q0 := 0) rfl g_at0 rfl hG hK [0, 1, 2] rfl V0_at V0_c) rfl rfl hl.1 rfl (lv_room (Nat.le_of_ble_eq_true rfl)) dL_law_1271 ⟨by omega, by omega⟩) hS (fun _ _ h => h.elim) (fun _ h => h.elim) (fun r0 u t H1 locs ht hvm hw0 hB hz hk hS d1 hd1 => ?_)
  have hG := P_kept hG hk
  have hM := P_kept hM hk
  have hO := P_kept hO hk
  have hts := dr_words (fun w h => hts0 w (wsL_law_in w h)) d1
  have hK : va_K D vwCl (gT cI cZ cO ++ [(cL, .long)]) (s.setDrawn d1) := hK
  refine lv_dstore (lv' := [(5, .double r0), (0, .ref b), (1, .ref (aG 0)), (2, .ref (aM 0)), (3, .ref o), (4, .int (nI i))]) hx hb dL_law_1274 hl (by decide) rfl (fun ls hl => ?_)
  refine lv_aload_n hx hb dL_law_1276 rfl (lv_at hl 3 rfl) ?_
  refine va_calldD hd1 (va_runV_D (As := []) (rest := []) ⟨hx, hb, hml, hown, hts⟩ (c_X1_share l D cI aM th n np nq F T hiM hn) (cwV 0 hts gL_law_X1_share rfl rfl rfl (by decide +kernel) ⟨Nat.le_of_ble_eq_true rfl, Nat.le_of_ble_eq_true rfl⟩) (pr_V hM (ci := 1) (q0 := 0) rfl m_at0 rfl hM hK [0] rfl V0_at V0_c) rfl rfl hl.1 rfl (lv_room (Nat.le_of_ble_eq_true rfl)) dL_law_1277 ⟨by omega, by omega⟩) hS (fun q _ h => hAM q h) (fun q h => hAM q h) (fun r1 u1 t H2 locs ht hvm hw1 hB hz hk hS d2 hd2 => ?_)
  rw [ht] at hB
  have hG := G_apart hG hiG (inA aM 8) hGm hk
  have hO := O_apart hO (inA aM 8) hOm hk
  refine lv_dstore (lv' := [(7, .double r1), (5, .double r0), (0, .ref b), (1, .ref (aG 0)), (2, .ref (aM 0)), (3, .ref o), (4, .int (nI i))]) hx hb dL_law_1280 hl (by decide) rfl (fun ls hl => ?_)
  have fin : W p l e room_1 (s.setDrawn d2) m #[Value.ref b] below meth c H2 locs (cc + 20) (ss + 100) (lw_Z below #[Value.ref b] s) (F0 m 1308 ls []) := by
    refine lv_goto (tgt := 1325) hx hb dL_law_1308 (by decide) ?_
    exact kk n np nq F _ T _ _ _ _ _ hd2 ⟨hI, hG, hB, hO, hS⟩ (lv_sub hl [2, 3, 4, 5, 6] rfl)
  refine W.widen (k := cc + 20) (n := ss + 100) (by omega) (by omega) ?_
  refine lv_dload hx hb dL_law_1282 (lv_at hl 1 rfl) ?_
  refine lv_dload hx hb dL_law_1284 (lv_at hl 0 rfl) ?_
  refine lv_dcmp hx hb dL_law_1286 ?_
  rcases al_two hw0 hw1 with h9 | ⟨h7, h8⟩
  · exact lv_if_eq (tgt := 1308) hx hb dL_law_1287 (by decide) (fun _ => fin) (fun h => absurd h9 h)
  · refine lv_if_eq (tgt := 1308) hx hb dL_law_1287 (by decide) (fun _ => fin) (fun _ => ?_)
    refine lv_dload hx hb dL_law_1290 (lv_at hl 1 rfl) ?_
    refine lv_dload hx hb dL_law_1292 (lv_at hl 1 rfl) ?_
    refine lv_dcmp hx hb dL_law_1294 ?_
    refine lv_if_eq (tgt := 1306) hx hb dL_law_1295 (by decide) (fun h => absurd h h7) (fun _ => ?_)
    refine lv_dload hx hb dL_law_1298 (lv_at hl 0 rfl) ?_
    refine lv_dload hx hb dL_law_1300 (lv_at hl 0 rfl) ?_
    refine lv_dcmp hx hb dL_law_1302 ?_
    exact lv_if_ne (tgt := 1308) hx hb dL_law_1303 (by decide) (fun _ => fin) (fun h => absurd h h8)
set_option maxHeartbeats 4000000 in
set_option maxRecDepth 100000 in
theorem lw_case16 {p : Program} {l : Launch} {e : Env} {s : State} {m : MethodId} {below : List Frame} {meth : Method} {c : Code} {b L : Nat} {xs : Nat → Int32} (hst : l.stackTraces = false) (hL : L ≤ 3584) (C0 : lw_At p s m meth c b L xs) {D : va_G} {cI cZ cO cL : ClassId} {aG aM : Nat → Nat} {o : Nat} (K : LwF s D cI cZ cO cL aG aM o) {i cc ss : Nat} (hi : i + 7 ≤ L) (hcc : cc + 20 ≤ 653633) (hss : ss + 100 ≤ 7135204) (kk : LwK p l e s m below meth c b D cI cZ cO cL aG aM o i (cc + 20) (ss + 100) 1325) : LwK p l e s m below meth c b D cI cZ cO cL aG aM o i cc ss 1311 := by
  obtain ⟨hx, hb, hr, hml, hown, hts0, hX, hbl, hlocks, hgv⟩ := C0
  obtain ⟨hK, hiG, hiM, hGM, hoG, hoM, hLG, hLM, hLo, hEL, hEM⟩ := K
  have hb : c.code = cL_law := hb
  have hown : s.vm.findClass RL = some m.cls := hown
  have hbA : ¬ LA s b := Nat.not_le.mpr hbl
  have hAG : ∀ q, inO aG o q → LA s q := fun q h => h.elim (fun ⟨i, hi, e⟩ => e ▸ hLG i hi) (fun e => e ▸ hLo)
  have hAM : ∀ q, inA aM 8 q → LA s q := fun q ⟨i, hi, e⟩ => e ▸ hLM i hi
  have hMo : ∀ j, j ≤ 8 → ¬ inO aG o (aM j) := fun j hj h => h.elim (fun ⟨i, hi, e⟩ => hGM i hi j hj e.symm) (fun e => hoM j hj e.symm)
  have hGm : ∀ i, i ≤ 23 → ¬ inA aM 8 (aG i) := fun i hi ⟨j, hj, e⟩ => hGM i hi j hj e
  have hOm : ¬ inA aM 8 o := fun ⟨j, hj, e⟩ => hoM j hj e
  intro n np nq F th T g H locs ls d0 hd0 hW hl
  obtain ⟨hI, hG, hM, hO, hS⟩ := hW
  have hBM : ∀ q, inB aM 8 H.size q → LA s q := fun q h => h.elim (hAM q) (fun h2 => Nat.le_trans hS.1 h2)
  obtain ⟨hn, hnp, hnq, hsk, hrip, hfr, h11b, h12b, hpc, hsc⟩ := id hI
  have hts := dr_words (fun w h => hts0 w (wsL_law_in w h)) d0
  have hX : va_X b L xs (s.setDrawn d0) s.heap := hX
  have hK : va_K D vwCl (gT cI cZ cO ++ [(cL, .long)]) (s.setDrawn d0) := hK
  have hRc : cc + 20 ≤ room_1.cells := hcc
  have hRs : ss + 100 ≤ room_1.slots := hss
  refine lv_aload_n hx hb dL_law_1311 rfl (lv_at hl 1 rfl) ?_
  refine va_calll (va_runV (As := []) (rest := []) ⟨hx, hb, hml, hown, hts⟩ (c_X0_digest l D cI cZ cO aG n np nq F hn hnp hnq hrip) (cwV 0 hts gL_law_X0_digest rfl rfl rfl (by decide +kernel) ⟨Nat.le_of_ble_eq_true rfl, Nat.le_of_ble_eq_true rfl⟩) (pr_V hG (ci := 0) (q0 := 0) rfl g_at0 rfl hG hK [0, 1, 2] rfl V0_at V0_c) rfl rfl hl.1 rfl (lv_room (Nat.le_of_ble_eq_true rfl)) dL_law_1312 ⟨by omega, by omega⟩) hS (fun _ _ h => h.elim) (fun _ h => h.elim) (fun r0 u t H1 locs ht hvm hw0 hB hz hk hS => ?_)
  have hG := P_kept hG hk
  have hM := P_kept hM hk
  have hO := P_kept hO hk
  subst hw0
  have hBM : ∀ q, inB aM 8 H1.size q → LA s q := fun q h => h.elim (hAM q) (fun h2 => Nat.le_trans hS.1 h2)
  refine lv_aload_n hx hb dL_law_1315 rfl (lv_at hl 2 rfl) ?_
  refine va_calll (va_runV (As := []) (rest := [.long (dG n np nq F)]) ⟨hx, hb, hml, hown, hts⟩ (c_X1_digest l D cI aM th n np nq F T H1.size hiM hn hnp hnq hrip hpc) (cwV 0 hts gL_law_X1_digest rfl rfl rfl (by decide +kernel) ⟨Nat.le_of_ble_eq_true rfl, Nat.le_of_ble_eq_true rfl⟩) (pr_V hM (ci := 1) (q0 := 0) rfl m_at0 rfl hM hK [0] rfl (fun U hU hW => by show U.heap.size = H1.size; rw [hU]) (fun U g mk a h => h)) rfl rfl hl.1 rfl (lv_room (Nat.le_of_ble_eq_true rfl)) dL_law_1316 ⟨by omega, by omega⟩) hS (fun q _ h => hBM q h) (fun q h => hBM q h) (fun r1 u1 t H2 locs ht hvm hw hB hz hk hS => ?_)
  rw [ht] at hB
  have hk := un_B hk
  have hG := G_apart hG hiG (inA aM 8) hGm hk
  have hO := O_apart hO (inA aM 8) hOm hk
  subst hw
  refine lv_lcmpS hx hb dL_law_1319 ?_
  refine W.widen (k := cc + 20) (n := ss + 100) (by omega) (by omega) ?_
  exact lv_if_eq (tgt := 1325) hx hb dL_law_1320 (by decide) (fun _ => kk n np nq F _ T _ _ _ _ _ hd0 ⟨hI, hG, hB, hO, hS⟩ (lv_sub hl [0, 1, 2, 3, 4] rfl)) (fun h => absurd rfl h)
